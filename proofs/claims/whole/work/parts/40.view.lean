def bI (x : Bool) : Int32 := if x = true then 1 else 0
def up1 {α : Type} (f : Nat → α) (i : Nat) (x : α) : Nat → α := fun j => if j = i then x else f j
def up2 {α : Type} (f : Nat → Nat → α) (a i : Nat) (x : α) : Nat → Nat → α := fun c j => if c = a ∧ j = i then x else f c j
def up3 {α : Type} (f : Nat → Nat → Nat → α) (a i u : Nat) (x : α) : Nat → Nat → Nat → α := fun c j v => if c = a ∧ j = i ∧ v = u then x else f c j v
abbrev vA : Type := (((((Nat) × (Nat)) × ((Nat → Nat) × ((Nat → Nat) × (Nat → Bool)))) × (((Nat → Int64) × (Nat → Int32)) × ((Nat → Int32) × ((Nat → Int32) × (Int32))))) × ((((Nat → Nat → Int64) × (Nat → Nat → Nat)) × ((Nat → Nat → Bool) × ((Nat → Nat → Int32) × (Nat → Nat → Nat)))) × (((Nat → Nat → Nat) × (Nat → Nat → Int32)) × ((Nat → Nat → Nat → Int64) × ((Nat → Nat → Nat → Bool) × (Nat → Nat → Nat → Int64))))))
abbrev vM : Type := ((((Nat → Int32) × ((Nat → Nat) × (Nat → Nat → Int64))) × ((Nat → Nat → Bool) × ((Nat → Nat → Int32) × (Nat → Int32)))) × (((Nat → Int32) × ((Nat → Nat → Nat) × (Nat → Nat → Nat → Nat))) × (((Nat → Nat → Int32) × (Nat → Nat → Int64)) × ((Nat → Nat → Nat → Int64) × (Nat → Nat → Nat → Bool)))))
abbrev zP : Type := (((((Nat ⊕ Nat) ⊕ (Unit ⊕ Nat)) ⊕ ((Nat ⊕ Nat) ⊕ (Nat ⊕ (Nat ⊕ Nat)))) ⊕ (((Nat ⊕ (Nat × Nat)) ⊕ ((Nat × Nat) ⊕ (Nat × Nat))) ⊕ (((Nat × Nat) ⊕ (Nat × Nat)) ⊕ ((Nat × Nat) ⊕ ((Nat × Nat) ⊕ (Nat × Nat × Nat)))))) ⊕ (((((Nat × Nat) ⊕ (Nat × Nat × Nat)) ⊕ ((Nat × Nat × Nat) ⊕ (Nat × Nat × Nat))) ⊕ ((Nat ⊕ Nat) ⊕ (Nat ⊕ ((Nat × Nat) ⊕ (Nat × Nat))))) ⊕ ((((Nat × Nat) ⊕ Nat) ⊕ (Nat ⊕ ((Nat × Nat) ⊕ (Nat × Nat × Nat)))) ⊕ (((Nat × Nat) ⊕ (Nat × Nat)) ⊕ ((Nat × Nat × Nat) ⊕ ((Nat × Nat × Nat) ⊕ Unit))))))
abbrev zP.aP (j : Nat) : zP := Sum.inl (Sum.inl (Sum.inl (Sum.inl (Sum.inl j))))
abbrev zP.aN (j : Nat) : zP := Sum.inl (Sum.inl (Sum.inl (Sum.inl (Sum.inr j))))
abbrev zP.aI : zP := Sum.inl (Sum.inl (Sum.inl (Sum.inr (Sum.inl ()))))
abbrev zP.af (f : Nat) : zP := Sum.inl (Sum.inl (Sum.inl (Sum.inr (Sum.inr f))))
abbrev zP.aZ (s : Nat) : zP := Sum.inl (Sum.inl (Sum.inr (Sum.inl (Sum.inl s))))
abbrev zP.ac (i : Nat) : zP := Sum.inl (Sum.inl (Sum.inr (Sum.inl (Sum.inr i))))
abbrev zP.aQ (i : Nat) : zP := Sum.inl (Sum.inl (Sum.inr (Sum.inr (Sum.inl i))))
abbrev zP.fZ (f : Nat) : zP := Sum.inl (Sum.inl (Sum.inr (Sum.inr (Sum.inr (Sum.inl f)))))
abbrev zP.fJ (f : Nat) : zP := Sum.inl (Sum.inl (Sum.inr (Sum.inr (Sum.inr (Sum.inr f)))))
abbrev zP.fI (f : Nat) : zP := Sum.inl (Sum.inr (Sum.inl (Sum.inl (Sum.inl f))))
abbrev zP.sJ (j s : Nat) : zP := Sum.inl (Sum.inr (Sum.inl (Sum.inl (Sum.inr (j, s)))))
abbrev zP.sP (j s : Nat) : zP := Sum.inl (Sum.inr (Sum.inl (Sum.inr (Sum.inl (j, s)))))
abbrev zP.sN (j s : Nat) : zP := Sum.inl (Sum.inr (Sum.inl (Sum.inr (Sum.inr (j, s)))))
abbrev zP.sZ (j s : Nat) : zP := Sum.inl (Sum.inr (Sum.inr (Sum.inl (Sum.inl (j, s)))))
abbrev zP.sI (j s : Nat) : zP := Sum.inl (Sum.inr (Sum.inr (Sum.inl (Sum.inr (j, s)))))
abbrev zP.sr (s i : Nat) : zP := Sum.inl (Sum.inr (Sum.inr (Sum.inr (Sum.inl (s, i)))))
abbrev zP.se (s k : Nat) : zP := Sum.inl (Sum.inr (Sum.inr (Sum.inr (Sum.inr (Sum.inl (s, k))))))
abbrev zP.eP (x s j : Nat) : zP := Sum.inl (Sum.inr (Sum.inr (Sum.inr (Sum.inr (Sum.inr (x, s, j))))))
abbrev zP.eI (s j : Nat) : zP := Sum.inr (Sum.inl (Sum.inl (Sum.inl (Sum.inl (s, j)))))
abbrev zP.eJ (x s j : Nat) : zP := Sum.inr (Sum.inl (Sum.inl (Sum.inl (Sum.inr (x, s, j)))))
abbrev zP.eH (s j i : Nat) : zP := Sum.inr (Sum.inl (Sum.inl (Sum.inr (Sum.inl (s, j, i)))))
abbrev zP.eW (s j i : Nat) : zP := Sum.inr (Sum.inl (Sum.inl (Sum.inr (Sum.inr (s, j, i)))))
abbrev zP.mo (j : Nat) : zP := Sum.inr (Sum.inl (Sum.inr (Sum.inl (Sum.inl j))))
abbrev zP.mC (j : Nat) : zP := Sum.inr (Sum.inl (Sum.inr (Sum.inl (Sum.inr j))))
abbrev zP.mP (j : Nat) : zP := Sum.inr (Sum.inl (Sum.inr (Sum.inr (Sum.inl j))))
abbrev zP.mJ (q s : Nat) : zP := Sum.inr (Sum.inl (Sum.inr (Sum.inr (Sum.inr (Sum.inl (q, s))))))
abbrev zP.mZ (q s : Nat) : zP := Sum.inr (Sum.inl (Sum.inr (Sum.inr (Sum.inr (Sum.inr (q, s))))))
abbrev zP.mI (q s : Nat) : zP := Sum.inr (Sum.inr (Sum.inl (Sum.inl (Sum.inl (q, s)))))
abbrev zP.mc (i : Nat) : zP := Sum.inr (Sum.inr (Sum.inl (Sum.inl (Sum.inr i))))
abbrev zP.mt (i : Nat) : zP := Sum.inr (Sum.inr (Sum.inl (Sum.inr (Sum.inl i))))
abbrev zP.mN (q s : Nat) : zP := Sum.inr (Sum.inr (Sum.inl (Sum.inr (Sum.inr (Sum.inl (q, s))))))
abbrev zP.mR (q s i : Nat) : zP := Sum.inr (Sum.inr (Sum.inl (Sum.inr (Sum.inr (Sum.inr (q, s, i))))))
abbrev zP.mF (s k : Nat) : zP := Sum.inr (Sum.inr (Sum.inr (Sum.inl (Sum.inl (s, k)))))
abbrev zP.mB (s k : Nat) : zP := Sum.inr (Sum.inr (Sum.inr (Sum.inl (Sum.inr (s, k)))))
abbrev zP.mW (s k i : Nat) : zP := Sum.inr (Sum.inr (Sum.inr (Sum.inr (Sum.inl (s, k, i)))))
abbrev zP.mH (s k i : Nat) : zP := Sum.inr (Sum.inr (Sum.inr (Sum.inr (Sum.inr (Sum.inl (s, k, i))))))
abbrev zP.ou : zP := Sum.inr (Sum.inr (Sum.inr (Sum.inr (Sum.inr (Sum.inr ())))))
theorem zP_cas {motive : zP → Prop} (p : zP) (aP : ∀ (j : Nat), motive (Sum.inl (Sum.inl (Sum.inl (Sum.inl (Sum.inl j)))))) (aN : ∀ (j : Nat), motive (Sum.inl (Sum.inl (Sum.inl (Sum.inl (Sum.inr j)))))) (aI : motive (Sum.inl (Sum.inl (Sum.inl (Sum.inr (Sum.inl ())))))) (af : ∀ (f : Nat), motive (Sum.inl (Sum.inl (Sum.inl (Sum.inr (Sum.inr f)))))) (aZ : ∀ (s : Nat), motive (Sum.inl (Sum.inl (Sum.inr (Sum.inl (Sum.inl s)))))) (ac : ∀ (i : Nat), motive (Sum.inl (Sum.inl (Sum.inr (Sum.inl (Sum.inr i)))))) (aQ : ∀ (i : Nat), motive (Sum.inl (Sum.inl (Sum.inr (Sum.inr (Sum.inl i)))))) (fZ : ∀ (f : Nat), motive (Sum.inl (Sum.inl (Sum.inr (Sum.inr (Sum.inr (Sum.inl f))))))) (fJ : ∀ (f : Nat), motive (Sum.inl (Sum.inl (Sum.inr (Sum.inr (Sum.inr (Sum.inr f))))))) (fI : ∀ (f : Nat), motive (Sum.inl (Sum.inr (Sum.inl (Sum.inl (Sum.inl f)))))) (sJ : ∀ (j s : Nat), motive (Sum.inl (Sum.inr (Sum.inl (Sum.inl (Sum.inr (j, s))))))) (sP : ∀ (j s : Nat), motive (Sum.inl (Sum.inr (Sum.inl (Sum.inr (Sum.inl (j, s))))))) (sN : ∀ (j s : Nat), motive (Sum.inl (Sum.inr (Sum.inl (Sum.inr (Sum.inr (j, s))))))) (sZ : ∀ (j s : Nat), motive (Sum.inl (Sum.inr (Sum.inr (Sum.inl (Sum.inl (j, s))))))) (sI : ∀ (j s : Nat), motive (Sum.inl (Sum.inr (Sum.inr (Sum.inl (Sum.inr (j, s))))))) (sr : ∀ (s i : Nat), motive (Sum.inl (Sum.inr (Sum.inr (Sum.inr (Sum.inl (s, i))))))) (se : ∀ (s k : Nat), motive (Sum.inl (Sum.inr (Sum.inr (Sum.inr (Sum.inr (Sum.inl (s, k)))))))) (eP : ∀ (x s j : Nat), motive (Sum.inl (Sum.inr (Sum.inr (Sum.inr (Sum.inr (Sum.inr (x, s, j)))))))) (eI : ∀ (s j : Nat), motive (Sum.inr (Sum.inl (Sum.inl (Sum.inl (Sum.inl (s, j))))))) (eJ : ∀ (x s j : Nat), motive (Sum.inr (Sum.inl (Sum.inl (Sum.inl (Sum.inr (x, s, j))))))) (eH : ∀ (s j i : Nat), motive (Sum.inr (Sum.inl (Sum.inl (Sum.inr (Sum.inl (s, j, i))))))) (eW : ∀ (s j i : Nat), motive (Sum.inr (Sum.inl (Sum.inl (Sum.inr (Sum.inr (s, j, i))))))) (mo : ∀ (j : Nat), motive (Sum.inr (Sum.inl (Sum.inr (Sum.inl (Sum.inl j)))))) (mC : ∀ (j : Nat), motive (Sum.inr (Sum.inl (Sum.inr (Sum.inl (Sum.inr j)))))) (mP : ∀ (j : Nat), motive (Sum.inr (Sum.inl (Sum.inr (Sum.inr (Sum.inl j)))))) (mJ : ∀ (q s : Nat), motive (Sum.inr (Sum.inl (Sum.inr (Sum.inr (Sum.inr (Sum.inl (q, s)))))))) (mZ : ∀ (q s : Nat), motive (Sum.inr (Sum.inl (Sum.inr (Sum.inr (Sum.inr (Sum.inr (q, s)))))))) (mI : ∀ (q s : Nat), motive (Sum.inr (Sum.inr (Sum.inl (Sum.inl (Sum.inl (q, s))))))) (mc : ∀ (i : Nat), motive (Sum.inr (Sum.inr (Sum.inl (Sum.inl (Sum.inr i)))))) (mt : ∀ (i : Nat), motive (Sum.inr (Sum.inr (Sum.inl (Sum.inr (Sum.inl i)))))) (mN : ∀ (q s : Nat), motive (Sum.inr (Sum.inr (Sum.inl (Sum.inr (Sum.inr (Sum.inl (q, s)))))))) (mR : ∀ (q s i : Nat), motive (Sum.inr (Sum.inr (Sum.inl (Sum.inr (Sum.inr (Sum.inr (q, s, i)))))))) (mF : ∀ (s k : Nat), motive (Sum.inr (Sum.inr (Sum.inr (Sum.inl (Sum.inl (s, k))))))) (mB : ∀ (s k : Nat), motive (Sum.inr (Sum.inr (Sum.inr (Sum.inl (Sum.inr (s, k))))))) (mW : ∀ (s k i : Nat), motive (Sum.inr (Sum.inr (Sum.inr (Sum.inr (Sum.inl (s, k, i))))))) (mH : ∀ (s k i : Nat), motive (Sum.inr (Sum.inr (Sum.inr (Sum.inr (Sum.inr (Sum.inl (s, k, i)))))))) (ou : motive (Sum.inr (Sum.inr (Sum.inr (Sum.inr (Sum.inr (Sum.inr ()))))))) : motive p :=
  match p with
  | Sum.inl (Sum.inl (Sum.inl (Sum.inl (Sum.inl j)))) => aP j
  | Sum.inl (Sum.inl (Sum.inl (Sum.inl (Sum.inr j)))) => aN j
  | Sum.inl (Sum.inl (Sum.inl (Sum.inr (Sum.inl ())))) => aI
  | Sum.inl (Sum.inl (Sum.inl (Sum.inr (Sum.inr f)))) => af f
  | Sum.inl (Sum.inl (Sum.inr (Sum.inl (Sum.inl s)))) => aZ s
  | Sum.inl (Sum.inl (Sum.inr (Sum.inl (Sum.inr i)))) => ac i
  | Sum.inl (Sum.inl (Sum.inr (Sum.inr (Sum.inl i)))) => aQ i
  | Sum.inl (Sum.inl (Sum.inr (Sum.inr (Sum.inr (Sum.inl f))))) => fZ f
  | Sum.inl (Sum.inl (Sum.inr (Sum.inr (Sum.inr (Sum.inr f))))) => fJ f
  | Sum.inl (Sum.inr (Sum.inl (Sum.inl (Sum.inl f)))) => fI f
  | Sum.inl (Sum.inr (Sum.inl (Sum.inl (Sum.inr (j, s))))) => sJ j s
  | Sum.inl (Sum.inr (Sum.inl (Sum.inr (Sum.inl (j, s))))) => sP j s
  | Sum.inl (Sum.inr (Sum.inl (Sum.inr (Sum.inr (j, s))))) => sN j s
  | Sum.inl (Sum.inr (Sum.inr (Sum.inl (Sum.inl (j, s))))) => sZ j s
  | Sum.inl (Sum.inr (Sum.inr (Sum.inl (Sum.inr (j, s))))) => sI j s
  | Sum.inl (Sum.inr (Sum.inr (Sum.inr (Sum.inl (s, i))))) => sr s i
  | Sum.inl (Sum.inr (Sum.inr (Sum.inr (Sum.inr (Sum.inl (s, k)))))) => se s k
  | Sum.inl (Sum.inr (Sum.inr (Sum.inr (Sum.inr (Sum.inr (x, s, j)))))) => eP x s j
  | Sum.inr (Sum.inl (Sum.inl (Sum.inl (Sum.inl (s, j))))) => eI s j
  | Sum.inr (Sum.inl (Sum.inl (Sum.inl (Sum.inr (x, s, j))))) => eJ x s j
  | Sum.inr (Sum.inl (Sum.inl (Sum.inr (Sum.inl (s, j, i))))) => eH s j i
  | Sum.inr (Sum.inl (Sum.inl (Sum.inr (Sum.inr (s, j, i))))) => eW s j i
  | Sum.inr (Sum.inl (Sum.inr (Sum.inl (Sum.inl j)))) => mo j
  | Sum.inr (Sum.inl (Sum.inr (Sum.inl (Sum.inr j)))) => mC j
  | Sum.inr (Sum.inl (Sum.inr (Sum.inr (Sum.inl j)))) => mP j
  | Sum.inr (Sum.inl (Sum.inr (Sum.inr (Sum.inr (Sum.inl (q, s)))))) => mJ q s
  | Sum.inr (Sum.inl (Sum.inr (Sum.inr (Sum.inr (Sum.inr (q, s)))))) => mZ q s
  | Sum.inr (Sum.inr (Sum.inl (Sum.inl (Sum.inl (q, s))))) => mI q s
  | Sum.inr (Sum.inr (Sum.inl (Sum.inl (Sum.inr i)))) => mc i
  | Sum.inr (Sum.inr (Sum.inl (Sum.inr (Sum.inl i)))) => mt i
  | Sum.inr (Sum.inr (Sum.inl (Sum.inr (Sum.inr (Sum.inl (q, s)))))) => mN q s
  | Sum.inr (Sum.inr (Sum.inl (Sum.inr (Sum.inr (Sum.inr (q, s, i)))))) => mR q s i
  | Sum.inr (Sum.inr (Sum.inr (Sum.inl (Sum.inl (s, k))))) => mF s k
  | Sum.inr (Sum.inr (Sum.inr (Sum.inl (Sum.inr (s, k))))) => mB s k
  | Sum.inr (Sum.inr (Sum.inr (Sum.inr (Sum.inl (s, k, i))))) => mW s k i
  | Sum.inr (Sum.inr (Sum.inr (Sum.inr (Sum.inr (Sum.inl (s, k, i)))))) => mH s k i
  | Sum.inr (Sum.inr (Sum.inr (Sum.inr (Sum.inr (Sum.inr ()))))) => ou
def zk : zP → Nat
  | Sum.inl (Sum.inl (Sum.inl (Sum.inl (Sum.inl _)))) => 3
  | Sum.inl (Sum.inl (Sum.inl (Sum.inl (Sum.inr _)))) => 3
  | Sum.inl (Sum.inl (Sum.inl (Sum.inr (Sum.inl ())))) => 3
  | Sum.inl (Sum.inl (Sum.inl (Sum.inr (Sum.inr _)))) => 103
  | Sum.inl (Sum.inl (Sum.inr (Sum.inl (Sum.inl _)))) => 104
  | Sum.inl (Sum.inl (Sum.inr (Sum.inl (Sum.inr _)))) => 100
  | Sum.inl (Sum.inl (Sum.inr (Sum.inr (Sum.inl _)))) => 100
  | Sum.inl (Sum.inl (Sum.inr (Sum.inr (Sum.inr (Sum.inl _))))) => 1
  | Sum.inl (Sum.inl (Sum.inr (Sum.inr (Sum.inr (Sum.inr _))))) => 1
  | Sum.inl (Sum.inr (Sum.inl (Sum.inl (Sum.inl _)))) => 1
  | Sum.inl (Sum.inr (Sum.inl (Sum.inl (Sum.inr (_, _))))) => 2
  | Sum.inl (Sum.inr (Sum.inl (Sum.inr (Sum.inl (_, _))))) => 2
  | Sum.inl (Sum.inr (Sum.inl (Sum.inr (Sum.inr (_, _))))) => 2
  | Sum.inl (Sum.inr (Sum.inr (Sum.inl (Sum.inl (_, _))))) => 2
  | Sum.inl (Sum.inr (Sum.inr (Sum.inl (Sum.inr (_, _))))) => 2
  | Sum.inl (Sum.inr (Sum.inr (Sum.inr (Sum.inl (_, _))))) => 100
  | Sum.inl (Sum.inr (Sum.inr (Sum.inr (Sum.inr (Sum.inl (_, _)))))) => 105
  | Sum.inl (Sum.inr (Sum.inr (Sum.inr (Sum.inr (Sum.inr (_, _, _)))))) => 0
  | Sum.inr (Sum.inl (Sum.inl (Sum.inl (Sum.inl (_, _))))) => 0
  | Sum.inr (Sum.inl (Sum.inl (Sum.inl (Sum.inr (_, _, _))))) => 0
  | Sum.inr (Sum.inl (Sum.inl (Sum.inr (Sum.inl (_, _, _))))) => 102
  | Sum.inr (Sum.inl (Sum.inl (Sum.inr (Sum.inr (_, _, _))))) => 101
  | Sum.inr (Sum.inl (Sum.inr (Sum.inl (Sum.inl _)))) => 4
  | Sum.inr (Sum.inl (Sum.inr (Sum.inl (Sum.inr _)))) => 4
  | Sum.inr (Sum.inl (Sum.inr (Sum.inr (Sum.inl _)))) => 4
  | Sum.inr (Sum.inl (Sum.inr (Sum.inr (Sum.inr (Sum.inl (_, _)))))) => 101
  | Sum.inr (Sum.inl (Sum.inr (Sum.inr (Sum.inr (Sum.inr (_, _)))))) => 102
  | Sum.inr (Sum.inr (Sum.inl (Sum.inl (Sum.inl (_, _))))) => 100
  | Sum.inr (Sum.inr (Sum.inl (Sum.inl (Sum.inr _)))) => 100
  | Sum.inr (Sum.inr (Sum.inl (Sum.inr (Sum.inl _)))) => 100
  | Sum.inr (Sum.inr (Sum.inl (Sum.inr (Sum.inr (Sum.inl (_, _)))))) => 100
  | Sum.inr (Sum.inr (Sum.inl (Sum.inr (Sum.inr (Sum.inr (_, _, _)))))) => 100
  | Sum.inr (Sum.inr (Sum.inr (Sum.inl (Sum.inl (_, _))))) => 100
  | Sum.inr (Sum.inr (Sum.inr (Sum.inl (Sum.inr (_, _))))) => 101
  | Sum.inr (Sum.inr (Sum.inr (Sum.inr (Sum.inl (_, _, _))))) => 101
  | Sum.inr (Sum.inr (Sum.inr (Sum.inr (Sum.inr (Sum.inl (_, _, _)))))) => 102
  | Sum.inr (Sum.inr (Sum.inr (Sum.inr (Sum.inr (Sum.inr ()))))) => 101
def za (b : Nat) (A : vA) : zP → Nat
  | Sum.inl (Sum.inl (Sum.inl (Sum.inl (Sum.inl _)))) => b
  | Sum.inl (Sum.inl (Sum.inl (Sum.inl (Sum.inr _)))) => b
  | Sum.inl (Sum.inl (Sum.inl (Sum.inr (Sum.inl ())))) => b
  | Sum.inl (Sum.inl (Sum.inl (Sum.inr (Sum.inr _)))) => b + 1
  | Sum.inl (Sum.inl (Sum.inr (Sum.inl (Sum.inl _)))) => b + 2
  | Sum.inl (Sum.inl (Sum.inr (Sum.inl (Sum.inr _)))) => b + 3
  | Sum.inl (Sum.inl (Sum.inr (Sum.inr (Sum.inl _)))) => b + 4
  | Sum.inl (Sum.inl (Sum.inr (Sum.inr (Sum.inr (Sum.inl f))))) => A.1.1.2.1 f
  | Sum.inl (Sum.inl (Sum.inr (Sum.inr (Sum.inr (Sum.inr f))))) => A.1.1.2.1 f
  | Sum.inl (Sum.inr (Sum.inl (Sum.inl (Sum.inl f)))) => A.1.1.2.1 f
  | Sum.inl (Sum.inr (Sum.inl (Sum.inl (Sum.inr (_, s))))) => A.1.1.2.2.1 s
  | Sum.inl (Sum.inr (Sum.inl (Sum.inr (Sum.inl (_, s))))) => A.1.1.2.2.1 s
  | Sum.inl (Sum.inr (Sum.inl (Sum.inr (Sum.inr (_, s))))) => A.1.1.2.2.1 s
  | Sum.inl (Sum.inr (Sum.inr (Sum.inl (Sum.inl (_, s))))) => A.1.1.2.2.1 s
  | Sum.inl (Sum.inr (Sum.inr (Sum.inl (Sum.inr (_, s))))) => A.1.1.2.2.1 s
  | Sum.inl (Sum.inr (Sum.inr (Sum.inr (Sum.inl (s, _))))) => A.1.1.2.2.1 s + 1
  | Sum.inl (Sum.inr (Sum.inr (Sum.inr (Sum.inr (Sum.inl (s, _)))))) => A.1.1.2.2.1 s + 2
  | Sum.inl (Sum.inr (Sum.inr (Sum.inr (Sum.inr (Sum.inr (_, s, j)))))) => A.1.1.2.2.1 s + 3 + 3 * j
  | Sum.inr (Sum.inl (Sum.inl (Sum.inl (Sum.inl (s, j))))) => A.1.1.2.2.1 s + 3 + 3 * j
  | Sum.inr (Sum.inl (Sum.inl (Sum.inl (Sum.inr (_, s, j))))) => A.1.1.2.2.1 s + 3 + 3 * j
  | Sum.inr (Sum.inl (Sum.inl (Sum.inr (Sum.inl (s, j, _))))) => A.1.1.2.2.1 s + 4 + 3 * j + 0
  | Sum.inr (Sum.inl (Sum.inl (Sum.inr (Sum.inr (s, j, _))))) => A.1.1.2.2.1 s + 4 + 3 * j + 1
  | Sum.inr (Sum.inl (Sum.inr (Sum.inl (Sum.inl _)))) => b + 5
  | Sum.inr (Sum.inl (Sum.inr (Sum.inl (Sum.inr _)))) => b + 5
  | Sum.inr (Sum.inl (Sum.inr (Sum.inr (Sum.inl _)))) => b + 5
  | Sum.inr (Sum.inl (Sum.inr (Sum.inr (Sum.inr (Sum.inl (q, _)))))) => b + 3 + q
  | Sum.inr (Sum.inl (Sum.inr (Sum.inr (Sum.inr (Sum.inr (q, _)))))) => b + 3 + q
  | Sum.inr (Sum.inr (Sum.inl (Sum.inl (Sum.inl (q, _))))) => b + 3 + q
  | Sum.inr (Sum.inr (Sum.inl (Sum.inl (Sum.inr _)))) => b + 3 + 19
  | Sum.inr (Sum.inr (Sum.inl (Sum.inr (Sum.inl _)))) => b + 3 + 20
  | Sum.inr (Sum.inr (Sum.inl (Sum.inr (Sum.inr (Sum.inl (q, _)))))) => b + 3 + q
  | Sum.inr (Sum.inr (Sum.inl (Sum.inr (Sum.inr (Sum.inr (q, _, _)))))) => b + 3 + q
  | Sum.inr (Sum.inr (Sum.inr (Sum.inl (Sum.inl (_, _))))) => b + 3 + 13
  | Sum.inr (Sum.inr (Sum.inr (Sum.inl (Sum.inr (_, _))))) => b + 3 + 14
  | Sum.inr (Sum.inr (Sum.inr (Sum.inr (Sum.inl (_, _, _))))) => b + 3 + 15
  | Sum.inr (Sum.inr (Sum.inr (Sum.inr (Sum.inr (Sum.inl (_, _, _)))))) => b + 3 + 16
  | Sum.inr (Sum.inr (Sum.inr (Sum.inr (Sum.inr (Sum.inr ()))))) => b + 26
def zi : zP → Nat
  | Sum.inl (Sum.inl (Sum.inl (Sum.inl (Sum.inl j)))) => j
  | Sum.inl (Sum.inl (Sum.inl (Sum.inl (Sum.inr j)))) => j
  | Sum.inl (Sum.inl (Sum.inl (Sum.inr (Sum.inl ())))) => 6
  | Sum.inl (Sum.inl (Sum.inl (Sum.inr (Sum.inr f)))) => f
  | Sum.inl (Sum.inl (Sum.inr (Sum.inl (Sum.inl s)))) => s
  | Sum.inl (Sum.inl (Sum.inr (Sum.inl (Sum.inr i)))) => i
  | Sum.inl (Sum.inl (Sum.inr (Sum.inr (Sum.inl i)))) => i
  | Sum.inl (Sum.inl (Sum.inr (Sum.inr (Sum.inr (Sum.inl _))))) => 0
  | Sum.inl (Sum.inl (Sum.inr (Sum.inr (Sum.inr (Sum.inr _))))) => 1
  | Sum.inl (Sum.inr (Sum.inl (Sum.inl (Sum.inl _)))) => 2
  | Sum.inl (Sum.inr (Sum.inl (Sum.inl (Sum.inr (j, _))))) => j
  | Sum.inl (Sum.inr (Sum.inl (Sum.inr (Sum.inl (j, _))))) => j
  | Sum.inl (Sum.inr (Sum.inl (Sum.inr (Sum.inr (j, _))))) => j
  | Sum.inl (Sum.inr (Sum.inr (Sum.inl (Sum.inl (j, _))))) => j
  | Sum.inl (Sum.inr (Sum.inr (Sum.inl (Sum.inr (j, _))))) => j
  | Sum.inl (Sum.inr (Sum.inr (Sum.inr (Sum.inl (_, i))))) => i
  | Sum.inl (Sum.inr (Sum.inr (Sum.inr (Sum.inr (Sum.inl (_, k)))))) => k
  | Sum.inl (Sum.inr (Sum.inr (Sum.inr (Sum.inr (Sum.inr (x, _, _)))))) => x
  | Sum.inr (Sum.inl (Sum.inl (Sum.inl (Sum.inl (_, _))))) => 2
  | Sum.inr (Sum.inl (Sum.inl (Sum.inl (Sum.inr (x, _, _))))) => x
  | Sum.inr (Sum.inl (Sum.inl (Sum.inr (Sum.inl (_, _, i))))) => i
  | Sum.inr (Sum.inl (Sum.inl (Sum.inr (Sum.inr (_, _, i))))) => i
  | Sum.inr (Sum.inl (Sum.inr (Sum.inl (Sum.inl j)))) => j
  | Sum.inr (Sum.inl (Sum.inr (Sum.inl (Sum.inr j)))) => j
  | Sum.inr (Sum.inl (Sum.inr (Sum.inr (Sum.inl j)))) => j
  | Sum.inr (Sum.inl (Sum.inr (Sum.inr (Sum.inr (Sum.inl (_, s)))))) => s
  | Sum.inr (Sum.inl (Sum.inr (Sum.inr (Sum.inr (Sum.inr (_, s)))))) => s
  | Sum.inr (Sum.inr (Sum.inl (Sum.inl (Sum.inl (_, s))))) => s
  | Sum.inr (Sum.inr (Sum.inl (Sum.inl (Sum.inr i)))) => i
  | Sum.inr (Sum.inr (Sum.inl (Sum.inr (Sum.inl i)))) => i
  | Sum.inr (Sum.inr (Sum.inl (Sum.inr (Sum.inr (Sum.inl (_, s)))))) => s
  | Sum.inr (Sum.inr (Sum.inl (Sum.inr (Sum.inr (Sum.inr (_, s, i)))))) => 6 * s + i
  | Sum.inr (Sum.inr (Sum.inr (Sum.inl (Sum.inl (s, k))))) => 4 * s + k
  | Sum.inr (Sum.inr (Sum.inr (Sum.inl (Sum.inr (s, k))))) => 4 * s + k
  | Sum.inr (Sum.inr (Sum.inr (Sum.inr (Sum.inl (s, k, i))))) => 6 * (4 * s + k) + i
  | Sum.inr (Sum.inr (Sum.inr (Sum.inr (Sum.inr (Sum.inl (s, k, i)))))) => 6 * (4 * s + k) + i
  | Sum.inr (Sum.inr (Sum.inr (Sum.inr (Sum.inr (Sum.inr ()))))) => 0
def zs : zP → Nat
  | Sum.inl (Sum.inl (Sum.inl (Sum.inl (Sum.inl _)))) => 7
  | Sum.inl (Sum.inl (Sum.inl (Sum.inl (Sum.inr _)))) => 7
  | Sum.inl (Sum.inl (Sum.inl (Sum.inr (Sum.inl ())))) => 7
  | Sum.inl (Sum.inl (Sum.inl (Sum.inr (Sum.inr _)))) => 16
  | Sum.inl (Sum.inl (Sum.inr (Sum.inl (Sum.inl _)))) => 16
  | Sum.inl (Sum.inl (Sum.inr (Sum.inl (Sum.inr _)))) => 5
  | Sum.inl (Sum.inl (Sum.inr (Sum.inr (Sum.inl _)))) => 4
  | Sum.inl (Sum.inl (Sum.inr (Sum.inr (Sum.inr (Sum.inl _))))) => 3
  | Sum.inl (Sum.inl (Sum.inr (Sum.inr (Sum.inr (Sum.inr _))))) => 3
  | Sum.inl (Sum.inr (Sum.inl (Sum.inl (Sum.inl _)))) => 3
  | Sum.inl (Sum.inr (Sum.inl (Sum.inl (Sum.inr (_, _))))) => 11
  | Sum.inl (Sum.inr (Sum.inl (Sum.inr (Sum.inl (_, _))))) => 11
  | Sum.inl (Sum.inr (Sum.inl (Sum.inr (Sum.inr (_, _))))) => 11
  | Sum.inl (Sum.inr (Sum.inr (Sum.inl (Sum.inl (_, _))))) => 11
  | Sum.inl (Sum.inr (Sum.inr (Sum.inl (Sum.inr (_, _))))) => 11
  | Sum.inl (Sum.inr (Sum.inr (Sum.inr (Sum.inl (_, _))))) => 6
  | Sum.inl (Sum.inr (Sum.inr (Sum.inr (Sum.inr (Sum.inl (_, _)))))) => 4
  | Sum.inl (Sum.inr (Sum.inr (Sum.inr (Sum.inr (Sum.inr (_, _, _)))))) => 5
  | Sum.inr (Sum.inl (Sum.inl (Sum.inl (Sum.inl (_, _))))) => 5
  | Sum.inr (Sum.inl (Sum.inl (Sum.inl (Sum.inr (_, _, _))))) => 5
  | Sum.inr (Sum.inl (Sum.inl (Sum.inr (Sum.inl (_, _, _))))) => 6
  | Sum.inr (Sum.inl (Sum.inl (Sum.inr (Sum.inr (_, _, _))))) => 6
  | Sum.inr (Sum.inl (Sum.inr (Sum.inl (Sum.inl _)))) => 25
  | Sum.inr (Sum.inl (Sum.inr (Sum.inl (Sum.inr _)))) => 25
  | Sum.inr (Sum.inl (Sum.inr (Sum.inr (Sum.inl _)))) => 25
  | Sum.inr (Sum.inl (Sum.inr (Sum.inr (Sum.inr (Sum.inl (_, _)))))) => 16
  | Sum.inr (Sum.inl (Sum.inr (Sum.inr (Sum.inr (Sum.inr (_, _)))))) => 16
  | Sum.inr (Sum.inr (Sum.inl (Sum.inl (Sum.inl (_, _))))) => 16
  | Sum.inr (Sum.inr (Sum.inl (Sum.inl (Sum.inr _)))) => 5
  | Sum.inr (Sum.inr (Sum.inl (Sum.inr (Sum.inl _)))) => 4
  | Sum.inr (Sum.inr (Sum.inl (Sum.inr (Sum.inr (Sum.inl (_, _)))))) => 16
  | Sum.inr (Sum.inr (Sum.inl (Sum.inr (Sum.inr (Sum.inr (_, _, _)))))) => 96
  | Sum.inr (Sum.inr (Sum.inr (Sum.inl (Sum.inl (_, _))))) => 64
  | Sum.inr (Sum.inr (Sum.inr (Sum.inl (Sum.inr (_, _))))) => 64
  | Sum.inr (Sum.inr (Sum.inr (Sum.inr (Sum.inl (_, _, _))))) => 384
  | Sum.inr (Sum.inr (Sum.inr (Sum.inr (Sum.inr (Sum.inl (_, _, _)))))) => 384
  | Sum.inr (Sum.inr (Sum.inr (Sum.inr (Sum.inr (Sum.inr ()))))) => 1
def zv (A : vA) : zP → Prop
  | Sum.inl (Sum.inl (Sum.inl (Sum.inl (Sum.inl j)))) => (j = 0 ∨ j = 2 ∨ j = 4 ∨ j = 5)
  | Sum.inl (Sum.inl (Sum.inl (Sum.inl (Sum.inr j)))) => (j = 1 ∨ j = 3)
  | Sum.inl (Sum.inl (Sum.inl (Sum.inr (Sum.inl ())))) => True
  | Sum.inl (Sum.inl (Sum.inl (Sum.inr (Sum.inr f)))) => f < A.1.1.1.1 ∧ f < 16
  | Sum.inl (Sum.inl (Sum.inr (Sum.inl (Sum.inl s)))) => s < A.1.1.1.2 ∧ s < 16
  | Sum.inl (Sum.inl (Sum.inr (Sum.inl (Sum.inr i)))) => i < 5
  | Sum.inl (Sum.inl (Sum.inr (Sum.inr (Sum.inl i)))) => i < 4
  | Sum.inl (Sum.inl (Sum.inr (Sum.inr (Sum.inr (Sum.inl f))))) => f < A.1.1.1.1
  | Sum.inl (Sum.inl (Sum.inr (Sum.inr (Sum.inr (Sum.inr f))))) => f < A.1.1.1.1
  | Sum.inl (Sum.inr (Sum.inl (Sum.inl (Sum.inl f)))) => f < A.1.1.1.1
  | Sum.inl (Sum.inr (Sum.inl (Sum.inl (Sum.inr (j, s))))) => s < A.1.1.1.2 ∧ (j = 0 ∨ j = 1)
  | Sum.inl (Sum.inr (Sum.inl (Sum.inr (Sum.inl (j, s))))) => s < A.1.1.1.2 ∧ (j = 2 ∨ j = 4)
  | Sum.inl (Sum.inr (Sum.inl (Sum.inr (Sum.inr (j, s))))) => s < A.1.1.1.2 ∧ (j = 3 ∨ j = 5)
  | Sum.inl (Sum.inr (Sum.inr (Sum.inl (Sum.inl (j, s))))) => s < A.1.1.1.2 ∧ (j = 6 ∨ j = 7 ∨ j = 8)
  | Sum.inl (Sum.inr (Sum.inr (Sum.inl (Sum.inr (j, s))))) => s < A.1.1.1.2 ∧ (j = 9 ∨ j = 10)
  | Sum.inl (Sum.inr (Sum.inr (Sum.inr (Sum.inl (s, i))))) => s < A.1.1.1.2 ∧ i < 6
  | Sum.inl (Sum.inr (Sum.inr (Sum.inr (Sum.inr (Sum.inl (s, k)))))) => s < A.1.1.1.2 ∧ k < 4
  | Sum.inl (Sum.inr (Sum.inr (Sum.inr (Sum.inr (Sum.inr (x, s, j)))))) => s < A.1.1.1.2 ∧ j < 4 ∧ (x = 0 ∨ x = 1)
  | Sum.inr (Sum.inl (Sum.inl (Sum.inl (Sum.inl (s, j))))) => s < A.1.1.1.2 ∧ j < 4
  | Sum.inr (Sum.inl (Sum.inl (Sum.inl (Sum.inr (x, s, j))))) => s < A.1.1.1.2 ∧ j < 4 ∧ (x = 3 ∨ x = 4)
  | Sum.inr (Sum.inl (Sum.inl (Sum.inr (Sum.inl (s, j, i))))) => s < A.1.1.1.2 ∧ j < 4 ∧ i < 6
  | Sum.inr (Sum.inl (Sum.inl (Sum.inr (Sum.inr (s, j, i))))) => s < A.1.1.1.2 ∧ j < 4 ∧ i < 6
  | Sum.inr (Sum.inl (Sum.inr (Sum.inl (Sum.inl j)))) => (j = 0 ∨ j = 23 ∨ j = 24)
  | Sum.inr (Sum.inl (Sum.inr (Sum.inl (Sum.inr j)))) => (j = 1 ∨ j = 2)
  | Sum.inr (Sum.inl (Sum.inr (Sum.inr (Sum.inl j)))) => 3 ≤ j ∧ j < 23
  | Sum.inr (Sum.inl (Sum.inr (Sum.inr (Sum.inr (Sum.inl (q, s)))))) => (q = 3 ∨ q = 4 ∨ q = 5) ∧ s < 16
  | Sum.inr (Sum.inl (Sum.inr (Sum.inr (Sum.inr (Sum.inr (q, s)))))) => (q = 6 ∨ q = 7 ∨ q = 21 ∨ q = 22) ∧ s < 16
  | Sum.inr (Sum.inr (Sum.inl (Sum.inl (Sum.inl (q, s))))) => (q = 8 ∨ q = 17 ∨ q = 18) ∧ s < 16
  | Sum.inr (Sum.inr (Sum.inl (Sum.inl (Sum.inr i)))) => i < 5
  | Sum.inr (Sum.inr (Sum.inl (Sum.inr (Sum.inl i)))) => i < 4
  | Sum.inr (Sum.inr (Sum.inl (Sum.inr (Sum.inr (Sum.inl (q, s)))))) => (q = 9 ∨ q = 12) ∧ s < 16
  | Sum.inr (Sum.inr (Sum.inl (Sum.inr (Sum.inr (Sum.inr (q, s, i)))))) => (q = 10 ∨ q = 11) ∧ s < 16 ∧ i < 6
  | Sum.inr (Sum.inr (Sum.inr (Sum.inl (Sum.inl (s, k))))) => s < 16 ∧ k < 4
  | Sum.inr (Sum.inr (Sum.inr (Sum.inl (Sum.inr (s, k))))) => s < 16 ∧ k < 4
  | Sum.inr (Sum.inr (Sum.inr (Sum.inr (Sum.inl (s, k, i))))) => s < 16 ∧ k < 4 ∧ i < 6
  | Sum.inr (Sum.inr (Sum.inr (Sum.inr (Sum.inr (Sum.inl (s, k, i)))))) => s < 16 ∧ k < 4 ∧ i < 6
  | Sum.inr (Sum.inr (Sum.inr (Sum.inr (Sum.inr (Sum.inr ()))))) => True
def zc (b : Nat) (A : vA) (M : vM) (o : Int64) : zP → gT
  | Sum.inl (Sum.inl (Sum.inl (Sum.inl (Sum.inl j)))) => tR (some (b + (if j = 0 then 1 else if j = 2 then 2 else j - 1)))
  | Sum.inl (Sum.inl (Sum.inl (Sum.inl (Sum.inr j)))) => tI (nI (if j = 1 then A.1.1.1.1 else A.1.1.1.2))
  | Sum.inl (Sum.inl (Sum.inl (Sum.inr (Sum.inl ())))) => tI A.1.2.2.2.2
  | Sum.inl (Sum.inl (Sum.inl (Sum.inr (Sum.inr f)))) => tR (some (A.1.1.2.1 f))
  | Sum.inl (Sum.inl (Sum.inr (Sum.inl (Sum.inl s)))) => tR (some (A.1.1.2.2.1 s))
  | Sum.inl (Sum.inl (Sum.inr (Sum.inl (Sum.inr i)))) => tI (A.1.2.2.1 i)
  | Sum.inl (Sum.inl (Sum.inr (Sum.inr (Sum.inl i)))) => tI (A.1.2.2.2.1 i)
  | Sum.inl (Sum.inl (Sum.inr (Sum.inr (Sum.inr (Sum.inl f))))) => tI (bI (A.1.1.2.2.2 f))
  | Sum.inl (Sum.inl (Sum.inr (Sum.inr (Sum.inr (Sum.inr f))))) => tJ (A.1.2.1.1 f)
  | Sum.inl (Sum.inr (Sum.inl (Sum.inl (Sum.inl f)))) => tI (A.1.2.1.2 f)
  | Sum.inl (Sum.inr (Sum.inl (Sum.inl (Sum.inr (j, s))))) => tJ (A.2.1.1.1 j s)
  | Sum.inl (Sum.inr (Sum.inl (Sum.inr (Sum.inl (j, s))))) => tR (some (A.1.1.2.2.1 s + (if j = 2 then 1 else 2)))
  | Sum.inl (Sum.inr (Sum.inl (Sum.inr (Sum.inr (j, s))))) => tI (nI (A.2.1.1.2 j s))
  | Sum.inl (Sum.inr (Sum.inr (Sum.inl (Sum.inl (j, s))))) => tI (bI (A.2.1.2.1 j s))
  | Sum.inl (Sum.inr (Sum.inr (Sum.inl (Sum.inr (j, s))))) => tI (A.2.1.2.2.1 j s)
  | Sum.inl (Sum.inr (Sum.inr (Sum.inr (Sum.inl (s, i))))) => tI (nI (A.2.1.2.2.2 s i))
  | Sum.inl (Sum.inr (Sum.inr (Sum.inr (Sum.inr (Sum.inl (s, k)))))) => tR (some (A.1.1.2.2.1 s + 3 + 3 * A.2.2.1.1 s k))
  | Sum.inl (Sum.inr (Sum.inr (Sum.inr (Sum.inr (Sum.inr (x, s, j)))))) => tR (some (A.1.1.2.2.1 s + 4 + 3 * j + x))
  | Sum.inr (Sum.inl (Sum.inl (Sum.inl (Sum.inl (s, j))))) => tI (A.2.2.1.2 s j)
  | Sum.inr (Sum.inl (Sum.inl (Sum.inl (Sum.inr (x, s, j))))) => tJ (A.2.2.2.1 x s j)
  | Sum.inr (Sum.inl (Sum.inl (Sum.inr (Sum.inl (s, j, i))))) => tI (bI (A.2.2.2.2.1 s j i))
  | Sum.inr (Sum.inl (Sum.inl (Sum.inr (Sum.inr (s, j, i))))) => tJ (A.2.2.2.2.2 s j i)
  | Sum.inr (Sum.inl (Sum.inr (Sum.inl (Sum.inl j)))) => tI (M.1.1.1 j)
  | Sum.inr (Sum.inl (Sum.inr (Sum.inl (Sum.inr j)))) => tI (nI (M.1.1.2.1 j))
  | Sum.inr (Sum.inl (Sum.inr (Sum.inr (Sum.inl j)))) => tR (some (b + 3 + j))
  | Sum.inr (Sum.inl (Sum.inr (Sum.inr (Sum.inr (Sum.inl (q, s)))))) => tJ (M.1.1.2.2 q s)
  | Sum.inr (Sum.inl (Sum.inr (Sum.inr (Sum.inr (Sum.inr (q, s)))))) => tI (bI (M.1.2.1 q s))
  | Sum.inr (Sum.inr (Sum.inl (Sum.inl (Sum.inl (q, s))))) => tI (M.1.2.2.1 q s)
  | Sum.inr (Sum.inr (Sum.inl (Sum.inl (Sum.inr i)))) => tI (M.1.2.2.2 i)
  | Sum.inr (Sum.inr (Sum.inl (Sum.inr (Sum.inl i)))) => tI (M.2.1.1 i)
  | Sum.inr (Sum.inr (Sum.inl (Sum.inr (Sum.inr (Sum.inl (q, s)))))) => tI (nI (M.2.1.2.1 q s))
  | Sum.inr (Sum.inr (Sum.inl (Sum.inr (Sum.inr (Sum.inr (q, s, i)))))) => tI (nI (M.2.1.2.2 q s i))
  | Sum.inr (Sum.inr (Sum.inr (Sum.inl (Sum.inl (s, k))))) => tI (M.2.2.1.1 s k)
  | Sum.inr (Sum.inr (Sum.inr (Sum.inl (Sum.inr (s, k))))) => tJ (M.2.2.1.2 s k)
  | Sum.inr (Sum.inr (Sum.inr (Sum.inr (Sum.inl (s, k, i))))) => tJ (M.2.2.2.1 s k i)
  | Sum.inr (Sum.inr (Sum.inr (Sum.inr (Sum.inr (Sum.inl (s, k, i)))))) => tI (bI (M.2.2.2.2 s k i))
  | Sum.inr (Sum.inr (Sum.inr (Sum.inr (Sum.inr (Sum.inr ()))))) => tJ o
def zLay (b : Nat) (A : vA) (n : Nat) : Prop := (b + 27 ≤ n) ∧ (∀ f, f < A.1.1.1.1 → b + 27 ≤ A.1.1.2.1 f ∧ A.1.1.2.1 f < n) ∧ (∀ f f', f < A.1.1.1.1 → f' < A.1.1.1.1 → A.1.1.2.1 f = A.1.1.2.1 f' → f = f') ∧ (∀ s, s < A.1.1.1.2 → b + 27 ≤ A.1.1.2.2.1 s ∧ A.1.1.2.2.1 s + 15 ≤ n) ∧ (∀ s s', s < s' → s' < A.1.1.1.2 → A.1.1.2.2.1 s + 15 ≤ A.1.1.2.2.1 s')
theorem zLay.low {b : Nat} {A : vA} {n : Nat} (z_h : zLay b A n) : b + 27 ≤ n := z_h.1
theorem zLay.src {b : Nat} {A : vA} {n : Nat} (z_h : zLay b A n) : ∀ f, f < A.1.1.1.1 → b + 27 ≤ A.1.1.2.1 f ∧ A.1.1.2.1 f < n := z_h.2.1
theorem zLay.inj {b : Nat} {A : vA} {n : Nat} (z_h : zLay b A n) : ∀ f f', f < A.1.1.1.1 → f' < A.1.1.1.1 → A.1.1.2.1 f = A.1.1.2.1 f' → f = f' := z_h.2.2.1
theorem zLay.stp {b : Nat} {A : vA} {n : Nat} (z_h : zLay b A n) : ∀ s, s < A.1.1.1.2 → b + 27 ≤ A.1.1.2.2.1 s ∧ A.1.1.2.2.1 s + 15 ≤ n := z_h.2.2.2.1
theorem zLay.sep {b : Nat} {A : vA} {n : Nat} (z_h : zLay b A n) : ∀ s s', s < s' → s' < A.1.1.1.2 → A.1.1.2.2.1 s + 15 ≤ A.1.1.2.2.1 s' := z_h.2.2.2.2
def RZ (b : Nat) (A : vA) (M : vM) (o : Int64) (L : gL) (V : gV) : Prop := (zLay b A L.1) ∧ (∀ p, zv A p → L.2 (zk p) (za b A p) = some (zs p)) ∧ (∀ p, zv A p → V (zk p) (za b A p) (zi p) = zc b A M o p)
theorem RZ.lay {b : Nat} {A : vA} {M : vM} {o : Int64} {L : gL} {V : gV} (z_h : RZ b A M o L V) : zLay b A L.1 := z_h.1
theorem RZ.siz {b : Nat} {A : vA} {M : vM} {o : Int64} {L : gL} {V : gV} (z_h : RZ b A M o L V) : ∀ p, zv A p → L.2 (zk p) (za b A p) = some (zs p) := z_h.2.1
theorem RZ.val {b : Nat} {A : vA} {M : vM} {o : Int64} {L : gL} {V : gV} (z_h : RZ b A M o L V) : ∀ p, zv A p → V (zk p) (za b A p) (zi p) = zc b A M o p := z_h.2.2
theorem zLay.one {b n : Nat} {A : vA} (h : zLay b A n) {s s' x y : Nat} (h1 : s < A.1.1.1.2) (h2 : s' < A.1.1.1.2) (hx : x < 15) (hy : y < 15) (e : A.1.1.2.2.1 s + x = A.1.1.2.2.1 s' + y) : s = s' := by
  rcases Nat.lt_trichotomy s s' with g | g | g
  · have := h.sep s s' g h2; omega
  · exact g
  · have := h.sep s' s g h1; omega
theorem z_lt {A : vA} {p : zP} (h : zv A p) : zi p < zs p := by
  cases p using zP_cas <;> simp only [zv, zi, zs] at h ⊢ <;> omega
theorem z_sz (p : zP) : zs p < 2 ^ 31 := by
  cases p using zP_cas <;> simp only [zs] <;> decide
theorem z_inj {b n : Nat} {A : vA} (h : zLay b A n) {p q : zP} (hp : zv A p) (hq : zv A q) (hk : zk p = zk q) (ha : za b A p = za b A q) (hi : zi p = zi q) : p = q := by
  cases p using zP_cas <;> cases q using zP_cas <;> first | (exfalso; revert hk; simp only [zk]; decide) | skip
  all_goals simp only [zv, za, zi] at hp hq ha hi
  all_goals first
    | (exfalso; omega)
    | (have e := h.inj _ _ hp hq ha; subst e; rfl)
    | (have e := h.one (x := 0) (y := 0) hp.1 hq.1 (by omega) (by omega) (by omega); subst e; first | (exfalso; omega) | (first | rfl | (simp only [Sum.inl.injEq, Sum.inr.injEq, Prod.mk.injEq, true_and, and_true]; omega)))
    | (have e := h.one (x := 1) (y := 1) hp.1 hq.1 (by omega) (by omega) (by omega); subst e; (first | rfl | (simp only [Sum.inl.injEq, Sum.inr.injEq, Prod.mk.injEq, true_and, and_true]; omega)))
    | (have e := h.one (x := 2) (y := 2) hp.1 hq.1 (by omega) (by omega) (by omega); subst e; (first | rfl | (simp only [Sum.inl.injEq, Sum.inr.injEq, Prod.mk.injEq, true_and, and_true]; omega)))
    | (rename_i s1 j1 s2 j2; have e := h.one (x := 3 + 3 * j1) (y := 3 + 3 * j2) hp.1 hq.1 (by omega) (by omega) (by omega); subst e; (first | rfl | (simp only [Sum.inl.injEq, Sum.inr.injEq, Prod.mk.injEq, true_and, and_true]; omega)))
    | (rename_i s1 j1 i1 s2 j2 i2; have e := h.one (x := 4 + 3 * j1) (y := 4 + 3 * j2) hp.1 hq.1 (by omega) (by omega) (by omega); subst e; (first | rfl | (simp only [Sum.inl.injEq, Sum.inr.injEq, Prod.mk.injEq, true_and, and_true]; omega)))
    | (rename_i x1 s1 j1 x2 s2 j2; have e := h.one (x := 3 + 3 * j1) (y := 3 + 3 * j2) hp.1 hq.1 (by omega) (by omega) (by omega); subst e; (first | rfl | (simp only [Sum.inl.injEq, Sum.inr.injEq, Prod.mk.injEq, true_and, and_true]; omega)))
    | (rename_i x1 s1 j1 s2 j2; have e := h.one (x := 3 + 3 * j1) (y := 3 + 3 * j2) hp.1 hq.1 (by omega) (by omega) (by omega); subst e; exfalso; omega)
    | (rename_i s1 j1 x2 s2 j2; have e := h.one (x := 3 + 3 * j1) (y := 3 + 3 * j2) hp.1 hq.1 (by omega) (by omega) (by omega); subst e; exfalso; omega)
    | rfl
    | (first | rfl | (simp only [Sum.inl.injEq, Sum.inr.injEq, Prod.mk.injEq, true_and, and_true]; omega))
    | (have := h.stp _ hp.1; exfalso; omega)
    | (have := h.stp _ hq.1; exfalso; omega)
    | (have := h.src _ hp.1; exfalso; omega)
    | (have := h.src _ hq.1; exfalso; omega)
