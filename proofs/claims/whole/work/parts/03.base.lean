/-! BASE: a lighter machine over the kit's. Values are typed (gT); the heap is a picture: L says which cells there are (kind, address, size), V what they hold (kind, address, place). Kinds below 100 are classes (places in g_cl), those from 100 on are arrays (their types in g_tys). vW is W at any heap that holds the picture. -/
abbrev gT : Type := Int32 ⊕ Int64 ⊕ Option Nat
abbrev tI (x : Int32) : gT := .inl x
abbrev tJ (x : Int64) : gT := .inr (.inl x)
abbrev tR (x : Option Nat) : gT := .inr (.inr x)
def g_val (t : gT) : Value := match t with
  | .inl x => .int x
  | .inr (.inl y) => .long y
  | .inr (.inr r) => va_rf r
def g_two (t : gT) : Bool := match t with
  | .inr (.inl _) => true
  | _ => false
theorem g_cat (t : gT) : (g_val t).category = if g_two t = true then 2 else 1 := by
  rcases t with x | y | r
  · rfl
  · rfl
  · cases r <;> rfl
def g_c (t : gT) : Nat := match t with
  | .inr (.inl _) => 2
  | _ => 1
theorem g_c_eq : (fun t => (g_val t).category) = g_c := by
  funext t
  rcases t with x | y | r
  · rfl
  · rfl
  · cases r <;> rfl
abbrev gL : Type := Nat × (Nat → Nat → Option Nat)
abbrev gV : Type := Nat → Nat → Nat → gT
def g_st (V : gV) (k a i : Nat) (t : gT) : gV := fun k' a' i' => if k' = k ∧ a' = a ∧ i' = i then t else V k' a' i'
def g_f (V : gV) (k a : Nat) : Nat → Value := fun i => g_val (V k a i)
def g_at (E : gE) (k a n : Nat) (f : Nat → Value) (H : Heap) : Prop := (∀ r : vw_C, g_cl[k]? = some r → n = r.2.2 ∧ t_OB a (E.1 k) r.2.2 (E.2.1 k) H f) ∧ (g_cl[k]? = none → H[a]? = some (arrV (E.2.2 k) n f))
def g_hp (E : gE) (base : Nat) (L : gL) (V : gV) (H : Heap) : Prop :=
  H.size = L.1 ∧ (∀ k a n : Nat, L.2 k a = some n → base ≤ a ∧ g_at E k a n (g_f V k a) H) ∧ ∀ k k' a n n' : Nat, L.2 k a = some n → L.2 k' a = some n' → k = k'
theorem g_at.kept {E : gE} {k a n : Nat} {f : Nat → Value} {H H1 : Heap} (h : g_at E k a n f H) (hq : H1[a]? = H[a]?) : g_at E k a n f H1 :=
  ⟨fun r hr => ⟨(h.1 r hr).1, (h.1 r hr).2.kept hq⟩, fun hn => hq.trans (h.2 hn)⟩
theorem g_at.lt {E : gE} {k a n : Nat} {f : Nat → Value} {H : Heap} (h : g_at E k a n f H) : a < H.size := by
  cases hc : g_cl[k]? with
  | none => exact (Array.getElem?_eq_some_iff.mp (h.2 hc)).1
  | some r =>
    obtain ⟨-, cell, hcell, -⟩ := h.1 r hc
    exact (Array.getElem?_eq_some_iff.mp hcell).1
theorem g_hp.put {E : gE} {base : Nat} {L : gL} {V : gV} {H H1 : Heap} {k a n i : Nat} {t : gT} (h : g_hp E base L V H) (hL : L.2 k a = some n) (hz : H1.size = H.size) (oq : ∀ q : Nat, q ≠ a → H1[q]? = H[q]?) (ha : g_at E k a n (updV (g_f V k a) i (g_val t)) H1) : g_hp E base L (g_st V k a i t) H1 := by
  refine ⟨hz.trans h.1, fun k' a' n' h' => ⟨(h.2.1 k' a' n' h').1, ?_⟩, h.2.2⟩
  by_cases e : a' = a
  · subst e
    have ek : k' = k := h.2.2 _ _ _ _ _ h' hL
    subst ek
    have en : n' = n := Option.some.inj (h'.symm.trans hL)
    subst en
    have ef : g_f (g_st V k' a' i t) k' a' = updV (g_f V k' a') i (g_val t) := by
      funext j
      by_cases hj : j = i <;> simp [g_f, g_st, updV, hj]
    rw [ef]
    exact ha
  · have ef : g_f (g_st V k a i t) k' a' = g_f V k' a' := by
      funext j
      simp [g_f, g_st, e]
    rw [ef]
    exact (h.2.1 k' a' n' h').2.kept (oq a' e)
-- a new cell
def g_nL (L : gL) (k n : Nat) : gL := (L.1 + 1, fun k' a' => if k' = k ∧ a' = L.1 then some n else L.2 k' a')
def g_nV (V : gV) (k a : Nat) (d : Nat → gT) : gV := fun k' a' i' => if k' = k ∧ a' = a then d i' else V k' a' i'
theorem g_hp.new {E : gE} {base : Nat} {L : gL} {V : gV} {H H1 : Heap} {k n : Nat} {d : Nat → gT} (h : g_hp E base L V H) (hb : base ≤ H.size) (hz : H1.size = H.size + 1) (oq : ∀ q : Nat, q < H.size → H1[q]? = H[q]?) (ha : g_at E k H.size n (fun i => g_val (d i)) H1) : g_hp E base (g_nL L k n) (g_nV V k L.1 d) H1 := by
  have hfr : ∀ k a n : Nat, L.2 k a = some n → a ≠ L.1 := fun k a n hq e => by
    have := (h.2.1 k a n hq).2.lt
    rw [h.1] at this
    omega
  refine ⟨by rw [hz, h.1]; rfl, fun k' a' n' h' => ?_, fun k1 k2 a n1 n2 h1 h2 => ?_⟩
  · by_cases e : k' = k ∧ a' = L.1
    · obtain ⟨rfl, rfl⟩ := e
      have en : n' = n := by simpa [g_nL] using h'.symm
      subst en
      have ef : g_f (g_nV V k' L.1 d) k' L.1 = fun i => g_val (d i) := by
        funext j
        simp [g_f, g_nV]
      rw [ef, ← h.1]
      exact ⟨hb, ha⟩
    · have h2 : L.2 k' a' = some n' := by simpa [g_nL, e] using h'
      have ef : g_f (g_nV V k L.1 d) k' a' = g_f V k' a' := by
        funext j
        simp [g_f, g_nV, e]
      rw [ef]
      exact ⟨(h.2.1 k' a' n' h2).1, (h.2.1 k' a' n' h2).2.kept (oq a' (h.2.1 k' a' n' h2).2.lt)⟩
  · by_cases e1 : k1 = k ∧ a = L.1
    · by_cases e2 : k2 = k ∧ a = L.1
      · exact e1.1.trans e2.1.symm
      · have g2 : L.2 k2 a = some n2 := by simpa [g_nL, e2] using h2
        exact absurd e1.2 (hfr _ _ _ g2)
    · have g1 : L.2 k1 a = some n1 := by simpa [g_nL, e1] using h1
      by_cases e2 : k2 = k ∧ a = L.1
      · exact absurd e2.2 (hfr _ _ _ g1)
      · have g2 : L.2 k2 a = some n2 := by simpa [g_nL, e2] using h2
        exact h.2.2 _ _ _ _ _ g1 g2
-- reads and writes of the picture
def g_rd (L : gL) (V : gV) (k a i : Nat) : Option gT := match L.2 k a with
  | none => none
  | some n => if i < n then some (V k a i) else none
def g_toI (t : gT) : Option Int32 := match t with
  | .inl x => some x
  | _ => none
def g_toJ (t : gT) : Option Int64 := match t with
  | .inr (.inl x) => some x
  | _ => none
def g_toR (t : gT) : Option (Option Nat) := match t with
  | .inr (.inr x) => some x
  | _ => none
def g_rI (L : gL) (V : gV) (k a i : Nat) : Option Int32 := (g_rd L V k a i).bind g_toI
def g_rJ (L : gL) (V : gV) (k a i : Nat) : Option Int64 := (g_rd L V k a i).bind g_toJ
def g_rR (L : gL) (V : gV) (k a i : Nat) : Option (Option Nat) := (g_rd L V k a i).bind g_toR
def g_ix (L : gL) (k a : Nat) (x : Int32) : Option Nat := match L.2 k a with
  | none => none
  | some n => if x < 0 ∨ n ≤ x.toNatClampNeg then none else some x.toNatClampNeg
def g_aI (L : gL) (V : gV) (k a : Nat) (x : Int32) : Option Int32 := (g_ix L k a x).bind fun i => g_toI (V k a i)
def g_aJ (L : gL) (V : gV) (k a : Nat) (x : Int32) : Option Int64 := (g_ix L k a x).bind fun i => g_toJ (V k a i)
def g_aR (L : gL) (V : gV) (k a : Nat) (x : Int32) : Option (Option Nat) := (g_ix L k a x).bind fun i => g_toR (V k a i)
def g_wr (L : gL) (V : gV) (k a i : Nat) (t : gT) : Option gV := match L.2 k a with
  | none => none
  | some n => if i < n then some (g_st V k a i t) else none
def g_wa (L : gL) (V : gV) (k a : Nat) (x : Int32) (t : gT) : Option gV := (g_ix L k a x).bind fun i => some (g_st V k a i t)
def g_bz (x : Int32) : Option Unit := if x = 0 ∨ x = 1 then some () else none
def g_nz {α : Type} (c : Prop) (f : Decidable c) (r : Option α) : Option α := @ite _ c f none r
def g_on {α : Type} (r : Option Nat) (x : Option α) (f : Nat → Option α) : Option α := match r with
  | none => x
  | some a => f a
def g_b2 {α β : Type} (o : Option (α × gV)) (f : α → gV → Option β) : Option β := match o with
  | none => none
  | some z => f z.1 z.2
def g_b3 {α β : Type} (o : Option (α × gL × gV)) (f : α → gL → gV → Option β) : Option β := match o with
  | none => none
  | some z => f z.1 z.2.1 z.2.2
def g_new (L : gL) (V : gV) (k n : Nat) (d : Nat → gT) : Option (gL × gV) := some (g_nL L k n, g_nV V k L.1 d)
def g_bn {β : Type} (o : Option (gL × gV)) (f : gL → gV → Option β) : Option β := match o with
  | none => none
  | some z => f z.1 z.2
theorem g_ob {α β : Type} {o : Option α} {f : α → Option β} {z : β} (h : Option.bind o f = some z) : ∃ x, o = some x ∧ f x = some z := by
  cases o with
  | none => cases h
  | some x => exact ⟨x, rfl, h⟩
theorem g_o2 {α β : Type} {o : Option (α × gV)} {f : α → gV → Option β} {z : β} (h : g_b2 o f = some z) : ∃ x V, o = some (x, V) ∧ f x V = some z := by
  cases o with
  | none => cases h
  | some x => exact ⟨x.1, x.2, rfl, h⟩
theorem g_o3 {α β : Type} {o : Option (α × gL × gV)} {f : α → gL → gV → Option β} {z : β} (h : g_b3 o f = some z) : ∃ x L V, o = some (x, L, V) ∧ f x L V = some z := by
  cases o with
  | none => cases h
  | some x => exact ⟨x.1, x.2.1, x.2.2, rfl, h⟩
theorem g_obn {β : Type} {o : Option (gL × gV)} {f : gL → gV → Option β} {z : β} (h : g_bn o f = some z) : ∃ L V, o = some (L, V) ∧ f L V = some z := by
  cases o with
  | none => cases h
  | some x => exact ⟨x.1, x.2, rfl, h⟩
theorem g_oon {α : Type} {r : Option Nat} {x : Option α} {f : Nat → Option α} {z : α} (h : g_on r x f = some z) : (r = none ∧ x = some z) ∨ ∃ a, r = some a ∧ f a = some z := by
  cases r with
  | none => exact Or.inl ⟨rfl, h⟩
  | some a => exact Or.inr ⟨a, rfl, h⟩
theorem g_bz_spec {x : Int32} {u : Unit} (h : g_bz x = some u) : x = 0 ∨ x = 1 := by
  unfold g_bz at h
  by_cases hx : x = 0 ∨ x = 1
  · exact hx
  · rw [if_neg hx] at h; cases h
theorem g_rd_spec {L : gL} {V : gV} {k a i : Nat} {t : gT} (h : g_rd L V k a i = some t) : ∃ n, L.2 k a = some n ∧ i < n ∧ V k a i = t := by
  unfold g_rd at h
  cases hL : L.2 k a with
  | none => rw [hL] at h; cases h
  | some n =>
    rw [hL] at h
    by_cases hi : i < n
    · exact ⟨n, rfl, hi, by simpa [hi] using h⟩
    · simp [hi] at h
theorem g_rI_spec {L : gL} {V : gV} {k a i : Nat} {x : Int32} (h : g_rI L V k a i = some x) : g_rd L V k a i = some (tI x) := by
  obtain ⟨t, h1, h2⟩ := g_ob h
  rcases t with y | y | y <;> simp [g_toI] at h2
  rw [h1, h2]
theorem g_rJ_spec {L : gL} {V : gV} {k a i : Nat} {x : Int64} (h : g_rJ L V k a i = some x) : g_rd L V k a i = some (tJ x) := by
  obtain ⟨t, h1, h2⟩ := g_ob h
  rcases t with y | y | y <;> simp [g_toJ] at h2
  rw [h1, h2]
theorem g_rR_spec {L : gL} {V : gV} {k a i : Nat} {x : Option Nat} (h : g_rR L V k a i = some x) : g_rd L V k a i = some (tR x) := by
  obtain ⟨t, h1, h2⟩ := g_ob h
  rcases t with y | y | y <;> simp [g_toR] at h2
  rw [h1, h2]
theorem g_ix_spec {L : gL} {k a i : Nat} {x : Int32} (h : g_ix L k a x = some i) : ∃ n, L.2 k a = some n ∧ vp_in x n ∧ i = x.toNatClampNeg ∧ i < n := by
  unfold g_ix at h
  cases hL : L.2 k a with
  | none => rw [hL] at h; cases h
  | some n =>
    rw [hL] at h
    by_cases hi : x < 0 ∨ n ≤ x.toNatClampNeg
    · simp [hi] at h
    · have e : i = x.toNatClampNeg := by simpa [hi] using h.symm
      exact ⟨n, rfl, hi, e, by rw [e]; exact Nat.not_le.mp fun q => hi (Or.inr q)⟩
theorem g_aI_spec {L : gL} {V : gV} {k a : Nat} {x : Int32} {y : Int32} (h : g_aI L V k a x = some y) : ∃ i, g_ix L k a x = some i ∧ V k a i = tI y := by
  obtain ⟨i, h1, h2⟩ := g_ob h
  refine ⟨i, h1, ?_⟩
  rcases hv : V k a i with y | y | y <;> rw [hv] at h2 <;> simp [g_toI] at h2
  rw [h2]
theorem g_aJ_spec {L : gL} {V : gV} {k a : Nat} {x : Int32} {y : Int64} (h : g_aJ L V k a x = some y) : ∃ i, g_ix L k a x = some i ∧ V k a i = tJ y := by
  obtain ⟨i, h1, h2⟩ := g_ob h
  refine ⟨i, h1, ?_⟩
  rcases hv : V k a i with y | y | y <;> rw [hv] at h2 <;> simp [g_toJ] at h2
  rw [h2]
theorem g_aR_spec {L : gL} {V : gV} {k a : Nat} {x : Int32} {y : Option Nat} (h : g_aR L V k a x = some y) : ∃ i, g_ix L k a x = some i ∧ V k a i = tR y := by
  obtain ⟨i, h1, h2⟩ := g_ob h
  refine ⟨i, h1, ?_⟩
  rcases hv : V k a i with y | y | y <;> rw [hv] at h2 <;> simp [g_toR] at h2
  rw [h2]
theorem g_wr_spec {L : gL} {V V' : gV} {k a i : Nat} {t : gT} (h : g_wr L V k a i t = some V') : ∃ n, L.2 k a = some n ∧ i < n ∧ V' = g_st V k a i t := by
  unfold g_wr at h
  cases hL : L.2 k a with
  | none => rw [hL] at h; cases h
  | some n =>
    rw [hL] at h
    by_cases hi : i < n
    · exact ⟨n, rfl, hi, by simpa [hi] using h.symm⟩
    · simp [hi] at h
theorem g_wa_spec {L : gL} {V V' : gV} {k a : Nat} {x : Int32} {t : gT} (h : g_wa L V k a x t = some V') : ∃ i n, L.2 k a = some n ∧ vp_in x n ∧ i = x.toNatClampNeg ∧ i < n ∧ V' = g_st V k a i t := by
  obtain ⟨i, h1, h2⟩ := g_ob h
  obtain ⟨n, g1, g2, g3, g4⟩ := g_ix_spec h1
  exact ⟨i, n, g1, g2, g3, g4, (Option.some.inj h2).symm⟩
-- locals
def g_q (q : Nat × gT) : Nat × Value := (q.1, g_val q.2)
def g_lk : List (Nat × gT) → Nat → Option gT
  | [], _ => none
  | q :: r, i => bif Nat.beq q.1 i then some q.2 else g_lk r i
theorem g_lk_mem : ∀ {l : List (Nat × gT)} {i : Nat} {t : gT}, g_lk l i = some t → (i, t) ∈ l
  | [], _, _, h => by cases h
  | q :: r, i, t, h => by
    unfold g_lk at h
    cases hq : Nat.beq q.1 i with
    | true =>
      rw [hq] at h
      have e1 : q.1 = i := Nat.eq_of_beq_eq_true hq
      have e2 : q.2 = t := Option.some.inj h
      rw [← e1, ← e2]
      exact List.mem_cons_self
    | false =>
      rw [hq] at h
      exact List.mem_cons_of_mem _ (g_lk_mem h)
theorem g_lk_at {ls : Array Slot} {nL : Nat} {lv : List (Nat × gT)} {i : Nat} {t : gT} (h : lv_has ls nL (lv.map g_q)) (hk : g_lk lv i = some t) : ls[i]? = some (.val (g_val t)) := h.2.2 (i, g_val t) (List.mem_map.mpr ⟨(i, t), g_lk_mem hk, rfl⟩)
def g_s1 (lv : List (Nat × gT)) (i : Nat) (t : gT) : List (Nat × gT) := (i, t) :: lv.filter (fun q => !(Nat.beq q.1 i) && !(Nat.beq (q.1 + 1) i && g_two q.2))
def g_s2 (lv : List (Nat × gT)) (i : Nat) (t : gT) : List (Nat × gT) := (i, t) :: lv.filter (fun q => !(Nat.beq q.1 i) && (!(Nat.beq q.1 (i + 1)) && !(Nat.beq (q.1 + 1) i && g_two q.2)))
theorem g_beq (a b : Nat) : (a == b) = Nat.beq a b := by
  rw [Bool.eq_iff_iff, Nat.beq_eq, beq_iff_eq]
theorem g_cat2 (t : gT) : ((g_val t).category == 2) = g_two t := by
  rw [g_cat]
  cases g_two t <;> rfl
theorem g_has1 {ls : Array Slot} {nL : Nat} {lv : List (Nat × gT)} {i : Nat} {t : gT} (h : lv_has ls nL ((i, g_val t) :: (lv.map g_q).filter (fun q => !(q.1 == i) && !(q.1 + 1 == i && q.2.category == 2)))) : lv_has ls nL ((g_s1 lv i t).map g_q) := by
  refine ⟨h.1, h.2.1, fun q hq => ?_⟩
  obtain ⟨w, hw, rfl⟩ := List.mem_map.mp hq
  apply h.2.2
  rcases List.mem_cons.mp hw with rfl | hw
  · exact List.mem_cons_self
  · obtain ⟨h1, h2⟩ := List.mem_filter.mp hw
    refine List.mem_cons_of_mem _ (List.mem_filter.mpr ⟨List.mem_map.mpr ⟨w, h1, rfl⟩, ?_⟩)
    show (!(w.1 == i) && !(w.1 + 1 == i && (g_val w.2).category == 2)) = true
    rw [g_cat2]
    simp only [g_beq]
    exact h2
theorem g_has2 {ls : Array Slot} {nL : Nat} {lv : List (Nat × gT)} {i : Nat} {t : gT} (h : lv_has ls nL ((i, g_val t) :: (lv.map g_q).filter (fun q => !(q.1 == i) && (!(q.1 == i + 1) && !(q.1 + 1 == i && q.2.category == 2))))) : lv_has ls nL ((g_s2 lv i t).map g_q) := by
  refine ⟨h.1, h.2.1, fun q hq => ?_⟩
  obtain ⟨w, hw, rfl⟩ := List.mem_map.mp hq
  apply h.2.2
  rcases List.mem_cons.mp hw with rfl | hw
  · exact List.mem_cons_self
  · obtain ⟨h1, h2⟩ := List.mem_filter.mp hw
    refine List.mem_cons_of_mem _ (List.mem_filter.mpr ⟨List.mem_map.mpr ⟨w, h1, rfl⟩, ?_⟩)
    show (!(w.1 == i) && (!(w.1 == i + 1) && !(w.1 + 1 == i && (g_val w.2).category == 2))) = true
    rw [g_cat2]
    simp only [g_beq]
    exact h2
-- the judgement and what is fixed in a method's body
def g_ao : List String := [R_S, R_T, R_N]
def g_K (E : gE) (U : State) : Prop := va_K (E.1, E.2.1) g_cl (g_tys E) U ∧ va_Nw g_nest U ∧ ∀ C ∈ g_ao, va_AO C U
theorem g_K.warm {E : gE} {s U : State} (hW : s.WarmedH U.vm) (h : g_K E s) : g_K E U := ⟨va_K.moved hW.alike h.1, va_Nw.warmM hW h.2.1, fun C hC => va_AO.moved hW.alike (h.2.2 C hC)⟩
theorem g_K.same {E : gE} {s U : State} (hv : s.vm = U.vm) (h : g_K E s) : g_K E U :=
  have ha : s.vm.Alike U.vm := by rw [hv]; exact Vm.Alike.refl U.vm
  ⟨va_K.moved ha h.1, va_Nw.same rfl hv h.2.1, fun C hC => va_AO.moved ha (h.2.2 C hC)⟩
abbrev g_A (base : Nat) : Nat → Prop := fun q => base ≤ q
def vW (E : gE) (base bA nL : Nat) (p : Program) (l : Launch) (e : Env) (R : Room) (s : State) (m : MethodId) (args : Array Value) (below : List Frame) (meth : Method) (c : Code) (cells slots : Nat) (Q : State → Prop) (L : gL) (V : gV) (pc : Nat) (lv : List (Nat × gT)) (st : List gT) : Prop :=
  ∀ (H : Heap) (locs : List Loc) (ls : Array Slot), g_hp E base L V H → va_S (g_A bA) s.heap H locs → lv_has ls nL (lv.map g_q) → W p l e R s m args below meth c H locs cells slots Q (F0 m pc ls (st.map g_val))
def gC (E : gE) (bA : Nat) (p : Program) (s : State) (m : MethodId) (args : Array Value) (meth : Method) (c : Code) (cc : ByteArray) (own : String) (nL : Nat) : Prop :=
  p.tables.exec = Jvm.exec ∧ c.code = cc ∧ c.maxLocals = nL ∧ s.vm.findClass own = some m.cls ∧ (∀ w ∈ g_tb, w.before args s = true) ∧ g_K E s ∧ bA ≤ s.heap.size ∧ meth.locks = false
def g_in (E : gE) (base bA : Nat) (L : gL) (V : gV) (U : State) : Prop := g_hp E base L V U.heap ∧ g_K E U ∧ bA ≤ U.heap.size
def g_out (E : gE) (base bA : Nat) (L : gL) (V : gV) (o : Option gT) : Array Value → State → Outcome → State → Prop := fun _ st oc t => oc = .returned (o.map g_val) ∧ (g_hp E base L V t.heap ∧ g_K E t) ∧ va_F (g_A bA) st t
def g_w (y : MethodName) (b : ByteArray) (mL : Nat) (ret : Option FieldType) : List Cond := .code y b mL ret :: g_tb
def g_Met (l : Launch) (E : gE) (base bA : Nat) (y : MethodName) (b : ByteArray) (mL : Nat) (ret : Option FieldType) (rm : Room) (as : List gT) (L : gL) (V : gV) (o : Option gT) (L' : gL) (V' : gV) : Prop :=
  Met l y (g_w y b mL ret) rm (va_Pc (as.map g_val) (g_in E base bA L V)) (g_out E base bA L' V' o) rm.cells rm.slots (g_A bA)
abbrev g_MQ (E : gE) (base bA : Nat) (below : List Frame) (args : Array Value) (s : State) (mc ms : Nat) (L : gL) (V : gV) (o : Option gT) : State → Prop := MQ below (g_out E base bA L V o) args s mc ms (g_A bA)
