/-! ROWS: fields, arrays, new cells, calls, returns, entry -/
def gF (own : String) (index k i : Nat) (ty : FieldType) (fin : Bool) : Prop := ∃ (Cn : String) (T : u_T) (N : Nat) (t : Nat → FieldType), g_cl[k]? = some (Cn, T, N) ∧ i < N ∧ (∀ w ∈ u_ws Cn T N, w ∈ g_tb) ∧ Cond.fieldLink own index (T i).1 (T i).2.1 (T i).2.2.1 ∈ g_tb ∧ (∀ j, j < N → parseFieldDescriptor (T j).2.2.1 = some (t j)) ∧ (∀ a, a < N → ∀ b, b < N → a ≠ b → (T a).2.1 ≠ (T b).2.1) ∧ t i = ty ∧ (T i).2.2.2 = fin
def gAk (k : Nat) (ty : FieldType) : Prop := g_cl[k]? = none ∧ ∃ j : Nat, ∀ E : gE, (g_tys E)[j]? = some (E.2.2 k, ty)
def gNw (own : String) (index k N : Nat) (d : Nat → gT) : Prop := ∃ (Cn : String) (T : u_T) (t : Nat → FieldType), g_cl[k]? = some (Cn, T, N) ∧ (∀ w ∈ u_ws Cn T N, w ∈ g_tb) ∧ (∀ j, j < N → parseFieldDescriptor (T j).2.2.1 = some (t j)) ∧ Cond.classLink own index Cn ∈ g_tb ∧ Cond.instantiable Cn N ∈ g_tb ∧ Cond.initialized Cn ∈ g_tb ∧ ∀ j, j < N → defaultValue (t j) = g_val (d j)
section GF
variable {E : gE} {base bA nL : Nat} {p : Program} {l : Launch} {e : Env} {R : Room} {s : State} {m : MethodId} {args : Array Value} {below : List Frame} {meth : Method} {c : Code} {cells slots : Nat} {Q : State → Prop} {cc : ByteArray} {own : String} {L : gL} {V : gV} {pc : Nat} {lv lv' : List (Nat × gT)} {st : List gT}
theorem r_get (C : gC E bA p s m args meth c cc own nL) {index k i a : Nat} {ty : FieldType} {fin : Bool} (F : gF own index k i ty fin) (hd : decode cc pc = .ok (.getfield index, 3)) {t : gT} (h : g_rd L V k a i = some t) (kk : vW E base bA nL p l e R s m args below meth c cells slots Q L V (pc + 3) lv (t :: st)) : vW E base bA nL p l e R s m args below meth c cells slots Q L V pc lv (tR (some a) :: st) := by
  intro H locs ls h1 h2 h3
  obtain ⟨hx, hb, hml, hown, hts, hK, hbs, hlk⟩ := C
  obtain ⟨Cn, T, N, t0, hc, hi, hin, hlink, hty, hnm, -, -⟩ := F
  obtain ⟨n, hn, hin2, hv⟩ := g_rd_spec h
  obtain ⟨en, cell, q1, q2, q3, q4⟩ := (h1.2.1 k a n hn).2.1 _ hc
  obtain ⟨hS, hfc, kC, hkC, hkind⟩ := hK.1.1 k _ hc
  obtain ⟨cf, kf, fi, f, hfi, hsl⟩ := hS i hi
  refine W.getf hx hb hown (hts _ hlink) hfi (u_facts hfc hkC (u_lays hts hin hi) hfi).1 q1 (by rw [q3]; exact fun h => by cases h) (v := g_val t) ?_ rfl rfl hd (kk H locs ls h1 h2 h3)
  rw [hsl, q4 i hi, ← hv]
  rfl
theorem r_getI (C : gC E bA p s m args meth c cc own nL) {index k i a : Nat} {ty : FieldType} {fin : Bool} (F : gF own index k i ty fin) (hd : decode cc pc = .ok (.getfield index, 3)) {x : Int32} (h : g_rI L V k a i = some x) (kk : vW E base bA nL p l e R s m args below meth c cells slots Q L V (pc + 3) lv (tI x :: st)) : vW E base bA nL p l e R s m args below meth c cells slots Q L V pc lv (tR (some a) :: st) := r_get C F hd (g_rI_spec h) kk
theorem r_getJ (C : gC E bA p s m args meth c cc own nL) {index k i a : Nat} {ty : FieldType} {fin : Bool} (F : gF own index k i ty fin) (hd : decode cc pc = .ok (.getfield index, 3)) {x : Int64} (h : g_rJ L V k a i = some x) (kk : vW E base bA nL p l e R s m args below meth c cells slots Q L V (pc + 3) lv (tJ x :: st)) : vW E base bA nL p l e R s m args below meth c cells slots Q L V pc lv (tR (some a) :: st) := r_get C F hd (g_rJ_spec h) kk
theorem r_getR (C : gC E bA p s m args meth c cc own nL) {index k i a : Nat} {ty : FieldType} {fin : Bool} (F : gF own index k i ty fin) (hd : decode cc pc = .ok (.getfield index, 3)) {x : Option Nat} (h : g_rR L V k a i = some x) (kk : vW E base bA nL p l e R s m args below meth c cells slots Q L V (pc + 3) lv (tR x :: st)) : vW E base bA nL p l e R s m args below meth c cells slots Q L V pc lv (tR (some a) :: st) := r_get C F hd (g_rR_spec h) kk
theorem r_put (C : gC E base p s m args meth c cc own nL) {index k i a : Nat} {ty : FieldType} (F : gF own index k i ty false) (hd : decode cc pc = .ok (.putfield index, 3)) {t : gT} {V' : gV} (h : g_wr L V k a i t = some V') (hn : narrow ty (g_val t) = g_val t) (hf : fits ty (g_val t) = true) (kk : vW E base base nL p l e R s m args below meth c cells slots Q L V' (pc + 3) lv st) : vW E base base nL p l e R s m args below meth c cells slots Q L V pc lv (t :: tR (some a) :: st) := by
  intro H locs ls h1 h2 h3
  obtain ⟨hx, hb, hml, hown, hts, hK, hbs, hlk⟩ := C
  obtain ⟨Cn, T, N, t0, hc, hi, hin, hlink, hty, hnm, ht0, hfin⟩ := F
  obtain ⟨n, hL, hin2, rfl⟩ := g_wr_spec h
  have hap := va_apart (own := own) (D := (E.1, E.2.1)) (cl := g_cl) (tys := g_tys E) hts hin t0 hty hnm hK.1 hc
  obtain ⟨en, cell, q1, q2, q3, q4⟩ := (h1.2.1 k a n hL).2.1 _ hc
  obtain ⟨hS, hfc, kC, hkC, hkind⟩ := hK.1.1 k _ hc
  obtain ⟨cf, kf, fi, f, hfi, hsl⟩ := hS i hi
  have hlay := hts _ (hin _ (u_in_lay hi))
  unfold u_lay at hlay
  rw [if_neg (by rw [hfin]; decide)] at hlay
  have hst := (u_facts hfc hkC (u_lays hts hin hi) hfi).1
  have h6 := u_store hfc hkC hkind hlay hfi (by rw [← ht0]; exact hty i hi) hn hf
  refine W.putK hx hb (f := f) ⟨hown, hts _ hlink, ⟨_, _, _, hfi⟩, hst⟩ (by rw [q2]; exact h6) q1 q3 (by rw [hsl]; exact k2_hasslot (q4 i hi)) rfl rfl hd fun H' e1 e2 e3 => ?_
  rw [hsl] at e1
  refine kk H' _ ls (h1.put hL e2 e3 ⟨fun r hr => ?_, fun hnn => by rw [hc] at hnn; cases hnn⟩) (h2.put e2 e3 (h1.2.1 k a n hL).1) h3
  have hre : r = (Cn, T, N) := Option.some.inj (hr.symm.trans hc)
  subst hre
  exact ⟨en, ⟨_, e1, q2, q3, t_set q4 hap hi (g_val t)⟩⟩
theorem r_putF (C : gC E base p s m args meth c cc own nL) {index k i a : Nat} {ty : FieldType} (F : gF own index k i ty true) (hd : decode cc pc = .ok (.putfield index, 3)) (hin2 : meth.name = "<init>") (hdc : ∃ r : vw_C, g_cl[k]? = some r ∧ (r.2.1 i).1 = own) {t : gT} {V' : gV} (h : g_wr L V k a i t = some V') (hn : narrow ty (g_val t) = g_val t) (hf : fits ty (g_val t) = true) (kk : vW E base base nL p l e R s m args below meth c cells slots Q L V' (pc + 3) lv st) : vW E base base nL p l e R s m args below meth c cells slots Q L V pc lv (t :: tR (some a) :: st) := by
  intro H locs ls h1 h2 h3
  obtain ⟨hx, hb, hml, hown, hts, hK, hbs, hlk⟩ := C
  obtain ⟨Cn, T, N, t0, hc, hi, hin, hlink, hty, hnm, ht0, hfin⟩ := F
  obtain ⟨n, hL, hin3, rfl⟩ := g_wr_spec h
  have hdecl : (T i).1 = own := by
    obtain ⟨r, r1, r2⟩ := hdc
    have hre : r = (Cn, T, N) := Option.some.inj (r1.symm.trans hc)
    subst hre
    exact r2
  have hap := va_apart (own := own) (D := (E.1, E.2.1)) (cl := g_cl) (tys := g_tys E) hts hin t0 hty hnm hK.1 hc
  obtain ⟨en, cell, q1, q2, q3, q4⟩ := (h1.2.1 k a n hL).2.1 _ hc
  obtain ⟨hS, hfc, kC, hkC, hkind⟩ := hK.1.1 k _ hc
  obtain ⟨cf, kf, fi, f, hfi, hsl⟩ := hS i hi
  have hlay := hts _ (hin _ (u_in_lay hi))
  unfold u_lay at hlay
  rw [if_pos hfin] at hlay
  have hst := (u_facts hfc hkC (u_lays hts hin hi) hfi).1
  have hcf : m.cls = cf := by
    obtain ⟨_, _, c', _, _, _, -, -, hf', -, -, -, hown2, -⟩ := Cond.laysFinal_spec hlay
    have e1 : c' = cf := by have := hfi.symm.trans hf'; simp at this; exact this.1.symm
    rw [hdecl] at hown2
    rw [← e1]; exact Option.some.inj (hown.symm.trans hown2)
  have h6 := u_fits hfc hkC hkind (Or.inr hlay) hfi (by rw [← ht0]; exact hty i hi) hn hf
  refine W.putFinK hx hb hown (hts _ hlink) hfi hst hcf hin2 (by rw [q2]; exact h6) q1 q3 (by rw [hsl]; exact k2_hasslot (q4 i hi)) rfl rfl hd fun H' e1 e2 e3 => ?_
  rw [hsl] at e1
  refine kk H' _ ls (h1.put hL e2 e3 ⟨fun r hr => ?_, fun hnn => by rw [hc] at hnn; cases hnn⟩) (h2.put e2 e3 (h1.2.1 k a n hL).1) h3
  have hre : r = (Cn, T, N) := Option.some.inj (hr.symm.trans hc)
  subst hre
  exact ⟨en, ⟨_, e1, q2, q3, t_set q4 hap hi (g_val t)⟩⟩
theorem g_nR {C : String} (r : Option Nat) : narrow (.object C) (g_val (tR r)) = g_val (tR r) ∧ fits (.object C) (g_val (tR r)) = true := by cases r <;> exact ⟨rfl, rfl⟩
theorem g_nA {C : FieldType} (r : Option Nat) : narrow (.array C) (g_val (tR r)) = g_val (tR r) ∧ fits (.array C) (g_val (tR r)) = true := by cases r <;> exact ⟨rfl, rfl⟩
theorem g_nI (x : Int32) : narrow .int (g_val (tI x)) = g_val (tI x) ∧ fits .int (g_val (tI x)) = true := ⟨rfl, rfl⟩
theorem g_nJ (x : Int64) : narrow .long (g_val (tJ x)) = g_val (tJ x) ∧ fits .long (g_val (tJ x)) = true := ⟨rfl, rfl⟩
theorem g_nZ {x : Int32} (h : x = 0 ∨ x = 1) : narrow .boolean (g_val (tI x)) = g_val (tI x) ∧ fits .boolean (g_val (tI x)) = true := by rcases h with rfl | rfl <;> exact ⟨rfl, rfl⟩
-- arrays
theorem r_iald (C : gC E bA p s m args meth c cc own nL) {k a : Nat} (A : gAk k .int) (hd : decode cc pc = .ok (.iaload, 1)) {x y : Int32} (h : g_aI L V k a x = some y) (kk : vW E base bA nL p l e R s m args below meth c cells slots Q L V (pc + 1) lv (tI y :: st)) : vW E base bA nL p l e R s m args below meth c cells slots Q L V pc lv (tI x :: tR (some a) :: st) := by
  intro H locs ls h1 h2 h3
  obtain ⟨hx, hb, hml, hown, hts, hK, hbs, hlk⟩ := C
  obtain ⟨hc, j, hj⟩ := A
  obtain ⟨i, g1, g2⟩ := g_aI_spec h
  obtain ⟨n, hn, hin, rfl, hlt⟩ := g_ix_spec g1
  exact W.iald (v := .int y) hx hb ((h1.2.1 k a n hn).2.2 hc) ((hK.1.2 j _ (hj E)).1 n _) (fun q => by cases q) (by rw [arrV_size]; exact hin) (by rw [arrV_read _ _ hlt]; exact congrArg (fun z => some (g_val z)) g2) rfl rfl hd (kk H locs ls h1 h2 h3)
theorem r_lald (C : gC E bA p s m args meth c cc own nL) {k a : Nat} (A : gAk k .long) (hd : decode cc pc = .ok (.laload, 1)) {x : Int32} {y : Int64} (h : g_aJ L V k a x = some y) (kk : vW E base bA nL p l e R s m args below meth c cells slots Q L V (pc + 1) lv (tJ y :: st)) : vW E base bA nL p l e R s m args below meth c cells slots Q L V pc lv (tI x :: tR (some a) :: st) := by
  intro H locs ls h1 h2 h3
  obtain ⟨hx, hb, hml, hown, hts, hK, hbs, hlk⟩ := C
  obtain ⟨hc, j, hj⟩ := A
  obtain ⟨i, g1, g2⟩ := g_aJ_spec h
  obtain ⟨n, hn, hin, rfl, hlt⟩ := g_ix_spec g1
  exact W.lald (v := .long y) hx hb ((h1.2.1 k a n hn).2.2 hc) ((hK.1.2 j _ (hj E)).1 n _) (fun q => by cases q) (by rw [arrV_size]; exact hin) (by rw [arrV_read _ _ hlt]; exact congrArg (fun z => some (g_val z)) g2) rfl rfl hd (kk H locs ls h1 h2 h3)
theorem r_zald (C : gC E bA p s m args meth c cc own nL) {k a : Nat} (A : gAk k .boolean) (hd : decode cc pc = .ok (.baload, 1)) {x y : Int32} (h : g_aI L V k a x = some y) (kk : vW E base bA nL p l e R s m args below meth c cells slots Q L V (pc + 1) lv (tI y :: st)) : vW E base bA nL p l e R s m args below meth c cells slots Q L V pc lv (tI x :: tR (some a) :: st) := by
  intro H locs ls h1 h2 h3
  obtain ⟨hx, hb, hml, hown, hts, hK, hbs, hlk⟩ := C
  obtain ⟨hc, j, hj⟩ := A
  obtain ⟨i, g1, g2⟩ := g_aI_spec h
  obtain ⟨n, hn, hin, rfl, hlt⟩ := g_ix_spec g1
  exact W.zald (v := .int y) hx hb ((h1.2.1 k a n hn).2.2 hc) ((hK.1.2 j _ (hj E)).1 n _) (fun q => by cases q) (by rw [arrV_size]; exact hin) (by rw [arrV_read _ _ hlt]; exact congrArg (fun z => some (g_val z)) g2) rfl rfl hd (kk H locs ls h1 h2 h3)
theorem r_aald (C : gC E bA p s m args meth c cc own nL) {k a : Nat} {ty : FieldType} (A : gAk k ty) (hty : ty.isReference = true) (hd : decode cc pc = .ok (.aaload, 1)) {x : Int32} {y : Option Nat} (h : g_aR L V k a x = some y) (kk : vW E base bA nL p l e R s m args below meth c cells slots Q L V (pc + 1) lv (tR y :: st)) : vW E base bA nL p l e R s m args below meth c cells slots Q L V pc lv (tI x :: tR (some a) :: st) := by
  intro H locs ls h1 h2 h3
  obtain ⟨hx, hb, hml, hown, hts, hK, hbs, hlk⟩ := C
  obtain ⟨hc, j, hj⟩ := A
  obtain ⟨i, g1, g2⟩ := g_aR_spec h
  obtain ⟨n, hn, hin, rfl, hlt⟩ := g_ix_spec g1
  exact W.aald (v := va_rf y) hx hb ((h1.2.1 k a n hn).2.2 hc) ((hK.1.2 j _ (hj E)).1 n _) hty (fun q => by cases q) (by rw [arrV_size]; exact hin) (by rw [arrV_read _ _ hlt]; exact congrArg (fun z => some (g_val z)) g2) rfl rfl hd (kk H locs ls h1 h2 h3)
theorem r_alen (C : gC E bA p s m args meth c cc own nL) {k a n : Nat} {ty : FieldType} (A : gAk k ty) (hd : decode cc pc = .ok (.arraylength, 1)) (h : L.2 k a = some n) (kk : vW E base bA nL p l e R s m args below meth c cells slots Q L V (pc + 1) lv (tI (nI n) :: st)) : vW E base bA nL p l e R s m args below meth c cells slots Q L V pc lv (tR (some a) :: st) := by
  intro H locs ls h1 h2 h3
  obtain ⟨hx, hb, hml, hown, hts, hK, hbs, hlk⟩ := C
  obtain ⟨hc, j, hj⟩ := A
  exact W.alen (n := nI n) hx hb ((h1.2.1 k a n h).2.2 hc) ((hK.1.2 j _ (hj E)).1 n _) (by rw [arrV_size]; rfl) rfl rfl hd (kk H locs ls h1 h2 h3)
theorem g_arr_put {k a n i : Nat} {H H1 : Heap} {t : gT} {v : Value} (hv : g_val t = v) (hc : g_cl[k]? = none) (h1 : g_hp E base L V H) (hn : L.2 k a = some n) (e : H1[a]? = some ((arrV (E.2.2 k) n (g_f V k a)).setSlot i v)) (z : H1.size = H.size) (oq : ∀ q : Nat, q ≠ a → H1[q]? = H[q]?) : g_hp E base L (g_st V k a i t) H1 := by
  refine h1.put hn z oq ⟨fun r hr => (by rw [hc] at hr; cases hr), fun _ => ?_⟩
  rw [e, arrV_store, hv]
theorem r_iast (C : gC E base p s m args meth c cc own nL) {k a : Nat} (A : gAk k .int) (hd : decode cc pc = .ok (.iastore, 1)) {x y : Int32} {V' : gV} (h : g_wa L V k a x (tI y) = some V') (kk : vW E base base nL p l e R s m args below meth c cells slots Q L V' (pc + 1) lv st) : vW E base base nL p l e R s m args below meth c cells slots Q L V pc lv (tI y :: tI x :: tR (some a) :: st) := by
  intro H locs ls h1 h2 h3
  obtain ⟨hx, hb, hml, hown, hts, hK, hbs, hlk⟩ := C
  obtain ⟨hc, j, hj⟩ := A
  obtain ⟨i, n, hn, hin, rfl, hlt, rfl⟩ := g_wa_spec h
  exact W.iast hx hb ((h1.2.1 k a n hn).2.2 hc) ((hK.1.2 j _ (hj E)).1 n _) (fun q => by cases q) (by rw [arrV_size]; exact hin) rfl rfl hd fun H1 e z oq => kk H1 _ ls (g_arr_put (t := tI y) rfl hc h1 hn e z oq) (h2.put z oq (h1.2.1 k a n hn).1) h3
theorem r_last (C : gC E base p s m args meth c cc own nL) {k a : Nat} (A : gAk k .long) (hd : decode cc pc = .ok (.lastore, 1)) {x : Int32} {y : Int64} {V' : gV} (h : g_wa L V k a x (tJ y) = some V') (kk : vW E base base nL p l e R s m args below meth c cells slots Q L V' (pc + 1) lv st) : vW E base base nL p l e R s m args below meth c cells slots Q L V pc lv (tJ y :: tI x :: tR (some a) :: st) := by
  intro H locs ls h1 h2 h3
  obtain ⟨hx, hb, hml, hown, hts, hK, hbs, hlk⟩ := C
  obtain ⟨hc, j, hj⟩ := A
  obtain ⟨i, n, hn, hin, rfl, hlt, rfl⟩ := g_wa_spec h
  exact W.last hx hb ((h1.2.1 k a n hn).2.2 hc) ((hK.1.2 j _ (hj E)).1 n _) (fun q => by cases q) (by rw [arrV_size]; exact hin) rfl rfl hd fun H1 e z oq => kk H1 _ ls (g_arr_put (t := tJ y) rfl hc h1 hn e z oq) (h2.put z oq (h1.2.1 k a n hn).1) h3
theorem r_zast (C : gC E base p s m args meth c cc own nL) {k a : Nat} (A : gAk k .boolean) (hd : decode cc pc = .ok (.bastore, 1)) {x y : Int32} {V' : gV} (hy : y = 0 ∨ y = 1) (h : g_wa L V k a x (tI y) = some V') (kk : vW E base base nL p l e R s m args below meth c cells slots Q L V' (pc + 1) lv st) : vW E base base nL p l e R s m args below meth c cells slots Q L V pc lv (tI y :: tI x :: tR (some a) :: st) := by
  intro H locs ls h1 h2 h3
  obtain ⟨hx, hb, hml, hown, hts, hK, hbs, hlk⟩ := C
  obtain ⟨hc, j, hj⟩ := A
  obtain ⟨i, n, hn, hin, rfl, hlt, rfl⟩ := g_wa_spec h
  have hnz : narrow .boolean (.int y) = g_val (tI y) := (g_nZ hy).1
  exact W.zast hx hb ((h1.2.1 k a n hn).2.2 hc) ((hK.1.2 j _ (hj E)).1 n _) (fun q => by cases q) (by rw [arrV_size]; exact hin) rfl rfl hd fun H1 e z oq => kk H1 _ ls (g_arr_put (t := tI y) rfl hc h1 hn (by rw [hnz] at e; exact e) z oq) (h2.put z oq (h1.2.1 k a n hn).1) h3
theorem r_aast (C : gC E base p s m args meth c cc own nL) {k a kv v : Nat} {Cn : String} (A : gAk k (.object Cn)) (hcv : ∃ (T : u_T) (N : Nat), g_cl[kv]? = some (Cn, T, N)) (hd : decode cc pc = .ok (.aastore, 1)) {x : Int32} {nv : Nat} (hv : L.2 kv v = some nv) {V' : gV} (h : g_wa L V k a x (tR (some v)) = some V') (kk : vW E base base nL p l e R s m args below meth c cells slots Q L V' (pc + 1) lv st) : vW E base base nL p l e R s m args below meth c cells slots Q L V pc lv (tR (some v) :: tI x :: tR (some a) :: st) := by
  intro H locs ls h1 h2 h3
  obtain ⟨hx, hb, hml, hown, hts, hK, hbs, hlk⟩ := C
  obtain ⟨hc, j, hj⟩ := A
  obtain ⟨T, N, hcv⟩ := hcv
  obtain ⟨i, n, hn, hin, rfl, hlt, rfl⟩ := g_wa_spec h
  have h0 : ¬ x < 0 := fun q => hin (Or.inl q)
  obtain ⟨-, cellV, g1, g2, g3, -⟩ := (h1.2.1 kv v nv hv).2.1 _ hcv
  have hcls := (hK.1.1 kv _ hcv).2
  obtain ⟨kA, comp, k1, k2, k3, -⟩ := (hK.1.2 j _ (hj E)).2
  have hcomp : comp = E.1 kv := Option.some.inj (k3.symm.trans hcls.1)
  subst hcomp
  obtain ⟨kC, hkC, -⟩ := hcls.2
  exact W.aast hx hb ((h1.2.1 k a n hn).2.2 hc) (fun q h => by cases h) (fun h => by cases h) k1 k2 rfl hkC ⟨h0, by rw [arrV_size]; exact hlt⟩ g1 (fun q h => by rw [g3] at h; cases h) (by rw [g2]; exact hkC) (by rw [g2]; exact va_assign hcls) rfl rfl hd fun H1 e z oq => kk H1 _ ls (g_arr_put (t := tR (some v)) rfl hc h1 hn e z oq) (h2.put z oq (h1.2.1 k a n hn).1) h3
-- new cells
theorem g_S_new {H H1 : Heap} {locs : List Loc} (h2 : va_S (g_A base) s.heap H locs) (z : H1.size = H.size + 1) (oq : ∀ q : Nat, q < H.size → H1[q]? = H[q]?) : va_S (g_A base) s.heap H1 locs :=
  ⟨Nat.le_trans h2.1 (by omega), fun x a1 a2 => (oq x (Nat.lt_of_lt_of_le a1 h2.1)).trans (h2.2.1 x a1 a2), h2.2.2⟩
theorem r_new (C : gC E base p s m args meth c cc own nL) {index k N : Nat} {d : Nat → gT} (F : gNw own index k N d) (hd : decode cc pc = .ok (.new index, 3)) {L' : gL} {V' : gV} (h : g_new L V k N d = some (L', V')) (hcells : cells + 1 ≤ R.cells) (hslots : slots + N ≤ R.slots) (kk : vW E base base nL p l e R s m args below meth c (cells + 1) (slots + N) Q L' V' (pc + 3) lv (tR (some L.1) :: st)) : vW E base base nL p l e R s m args below meth c cells slots Q L V pc lv st := by
  intro H locs ls h1 h2 h3
  obtain ⟨hx, hb, hml, hown, hts, hK, hbs, hlk⟩ := C
  obtain ⟨Cn, T, t, hc, hin, hty, w1, w2, w3, hdf⟩ := F
  cases h
  have hKn := hK.1.1 k _ hc
  refine W.newcK hx hb hown (hts _ w1) (hts _ w2) (hts _ w3) rfl hd hcells hslots hKn.2.1 rfl fun H1 kC hkC e1 z1 o1 => ?_
  have hz : H.size = L.1 := h1.1
  have hh := kk H1 locs ls (h1.new (Nat.le_trans hbs h2.1) z1 o1 ⟨fun r hr => ?_, fun hnn => by rw [hc] at hnn; cases hnn⟩) (g_S_new h2 z1 o1) h3
  · rw [← hz] at hh
    exact hh
  · have hre : r = (Cn, T, N) := Option.some.inj (hr.symm.trans hc)
    subst hre
    exact ⟨rfl, (u_born t hts hin hKn hkC e1 hty).to hdf⟩
theorem r_newa (C : gC E base p s m args meth c cc own nL) {k N : Nat} {at_ : ArrayType} {ty : FieldType} (hty : newarray.typeOf at_ = ty) (A : gAk k ty) (hnr : ∀ Cn, ty ≠ .object Cn) (w : Cond.arrayClass ty ∈ g_tb) (hd : decode cc pc = .ok (.newarray at_, 2)) {n : Int32} (hn0 : ¬ n < 0) (hN : n.toNatClampNeg = N) (hby : N * componentBytes ty ≤ 536870912) {dv : gT} (hdv : defaultValue ty = g_val dv) {L' : gL} {V' : gV} (h : g_new L V k N (fun _ => dv) = some (L', V')) (hcells : cells + 1 ≤ R.cells) (hslots : slots + N ≤ R.slots) (kk : vW E base base nL p l e R s m args below meth c (cells + 1) (slots + N) Q L' V' (pc + 2) lv (tR (some L.1) :: st)) : vW E base base nL p l e R s m args below meth c cells slots Q L V pc lv (tI n :: st) := by
  intro H locs ls h1 h2 h3
  obtain ⟨hx, hb, hml, hown, hts, hK, hbs, hlk⟩ := C
  obtain ⟨hc, j, hj⟩ := A
  cases h
  subst hty
  refine va_newaK hx hb (hts _ w) rfl hd rfl hn0 hN hby hcells hslots rfl fun H1 cA e1 z1 o1 hAr hNm => ?_
  have hcA : cA = E.2.2 k := by
    have h9 := (hK.1.2 j _ (hj E)).2
    have h8 : s.vm.findClass ("[" ++ (newarray.typeOf at_).toString) = some (E.2.2 k) := by
      cases at_ <;> exact h9
    exact Option.some.inj (hNm.symm.trans h8)
  subst hcA
  have hz : H.size = L.1 := h1.1
  have hh := kk H1 locs ls (h1.new (Nat.le_trans hbs h2.1) z1 o1 ⟨fun r hr => (by rw [hc] at hr; cases hr), fun _ => ?_⟩) (g_S_new h2 z1 o1) h3
  · rw [← hz] at hh
    exact hh
  · rw [e1, hdv]
theorem r_anew (C : gC E base p s m args meth c cc own nL) {k N index : Nat} {Cn : String} (A : gAk k (.object Cn)) (w1 : Cond.classLink own index Cn ∈ g_tb) (w2 : Cn ∈ g_ao) (hd : decode cc pc = .ok (.anewarray index, 3)) {n : Int32} (hn0 : ¬ n < 0) (hN : n.toNatClampNeg = N) (hby : N * 4 ≤ 536870912) {L' : gL} {V' : gV} (h : g_new L V k N (fun _ => tR none) = some (L', V')) (hcells : cells + 1 ≤ R.cells) (hslots : slots + N ≤ R.slots) (kk : vW E base base nL p l e R s m args below meth c (cells + 1) (slots + N) Q L' V' (pc + 3) lv (tR (some L.1) :: st)) : vW E base base nL p l e R s m args below meth c cells slots Q L V pc lv (tI n :: st) := by
  intro H locs ls h1 h2 h3
  obtain ⟨hx, hb, hml, hown, hts, hK, hbs, hlk⟩ := C
  obtain ⟨hc, j, hj⟩ := A
  cases h
  subst hN
  refine W.anew hx hb hown (hts _ w1) (va_AO.use (hK.2.2 _ w2)) rfl hd rfl hn0 hby hcells hslots fun cA kA comp f1 f2 f3 f4 => ?_
  generalize hH1 : H.push ({ cls := cA, slots := Array.replicate n.toNatClampNeg .null, vm := .none } : Cell) = H1
  have z1 : H1.size = H.size + 1 := by rw [← hH1, Array.size_push]
  have e1 : H1[H.size]? = some (arrV cA n.toNatClampNeg (fun _ => .null)) := by rw [← hH1, Array.getElem?_push_size, ← arrV_new]
  have o1 : ∀ q : Nat, q < H.size → H1[q]? = H[q]? := fun q hq => by rw [← hH1, Array.getElem?_push, if_neg (Nat.ne_of_lt hq)]
  have hcA : cA = E.2.2 k := by
    obtain ⟨-, -, -, -, -, h8⟩ := (hK.1.2 j _ (hj E)).2
    exact Option.some.inj (f1.symm.trans h8)
  subst hcA
  have hz : H.size = L.1 := h1.1
  have hh := kk H1 locs ls (h1.new (Nat.le_trans hbs h2.1) z1 o1 ⟨fun r hr => (by rw [hc] at hr; cases hr), fun _ => e1⟩) (g_S_new h2 z1 o1) h3
  rw [← hz] at hh
  exact hh
theorem r_objInit (C : gC E bA p s m args meth c cc own nL) {index a : Nat} (w1 : Cond.methodLink own index Lib.objectInit ∈ g_tb) (w2 : Cond.instanceMethod Lib.objectInit ∈ g_tb) (w3 : Cond.code Lib.objectInit ⟨#[0xb1]⟩ 1 none ∈ g_tb) (hd : decode cc pc = .ok (.invokespecial index, 3)) (hf : 1 ≤ R.frames) (hlo : (st.map g_c).sum + 12 ≤ R.locals) (kk : vW E base bA nL p l e R s m args below meth c cells slots Q L V (pc + 3) lv st) : vW E base bA nL p l e R s m args below meth c cells slots Q L V pc lv (tR (some a) :: st) := by
  intro H locs ls h1 h2 h3
  obtain ⟨hx, hb, hml, hown, hts, hK, hbs, hlk⟩ := C
  refine W.objInit (a := a) (rest := st.map g_val) hx hb hown (hts _ w1) (hts _ w2) (hts _ w3) rfl (by rw [hml]; exact h3.1) rfl hd hf ?_ (kk H locs ls h1 h2 h3)
  rw [List.map_map]
  show 2 * 0 + (st.map fun t => (g_val t).category).sum + 12 ≤ R.locals
  rw [g_c_eq]
  omega
theorem r_mmin (C : gC E bA p s m args meth c cc own nL) {index : Nat} (w1 : Cond.methodLink own index Lib.Math.min.name ∈ g_tb) (w2 : Cond.static Lib.Math.min.name ∈ g_tb) (w3 : Cond.initialized "java/lang/Math" ∈ g_tb) (w4 : Cond.code Lib.Math.min.name Lib.Math.min.code 2 (some .int) ∈ g_tb) {x y : Int32} (hd : decode cc pc = .ok (.invokestatic index, 3)) (hf : 1 ≤ R.frames) (hlo : (st.map g_c).sum + 13 ≤ R.locals) (hc : cells ≤ R.cells) (hs : slots ≤ R.slots) (kk : vW E base bA nL p l e R s m args below meth c cells slots Q L V (pc + 3) lv (tI (if y < x then y else x) :: st)) : vW E base bA nL p l e R s m args below meth c cells slots Q L V pc lv (tI y :: tI x :: st) := by
  intro H locs ls h1 h2 h3
  obtain ⟨hx, hb, hml, hown, hts, hK, hbs, hlk⟩ := C
  exact va_mmin (rest := st.map g_val) hx hb (by rw [hml]; exact h3.1.symm) hown (hts _ w1) (hts _ w2) (hts _ w3) (hts _ w4) hf (by rw [List.map_map]; show (st.map fun t => (g_val t).category).sum + 13 ≤ R.locals; rw [g_c_eq]; exact hlo) hc hs hd (kk H locs ls h1 h2 h3)
-- returns
theorem g_end (C : gC E bA p s m args meth c cc own nL) {H : Heap} {locs : List Loc} (h1 : g_hp E base L V H) (h2 : va_S (g_A bA) s.heap H locs) (o : Option gT) (t : State) (ht : t.heap = H) (hW : s.WarmedH t.vm) : g_out E base bA L V o args s (.returned (o.map g_val)) t :=
  ⟨rfl, ⟨by rw [ht]; exact h1, g_K.warm hW C.2.2.2.2.2.1⟩, h2.F ht⟩
theorem r_iret (C : gC E bA p s m args meth c cc own nL) (hr : meth.sig.returnType = some .int) (hd : decode cc pc = .ok (.ireturn, 1)) {x : Int32} : vW E base bA nL p l e R s m args below meth c cells slots (g_MQ E base bA below args s cells slots L V (some (tI x))) L V pc lv [tI x] :=
  fun H locs ls h1 h2 h3 => W.iret C.1 C.2.1 hr (fun t ht hW => g_end C h1 h2 (some (tI x)) t ht hW) h2.2.2 hd C.2.2.2.2.2.2.2
theorem r_zret (C : gC E bA p s m args meth c cc own nL) (hr : meth.sig.returnType = some .boolean) (hd : decode cc pc = .ok (.ireturn, 1)) {x : Int32} (hz : x = 0 ∨ x = 1) : vW E base bA nL p l e R s m args below meth c cells slots (g_MQ E base bA below args s cells slots L V (some (tI x))) L V pc lv [tI x] :=
  fun H locs ls h1 h2 h3 => W.zret C.1 C.2.1 hr (g_nZ hz).1 (fun t ht hW => g_end C h1 h2 (some (tI x)) t ht hW) h2.2.2 hd C.2.2.2.2.2.2.2
theorem r_lret (C : gC E bA p s m args meth c cc own nL) (hr : meth.sig.returnType = some .long) (hd : decode cc pc = .ok (.lreturn, 1)) {x : Int64} : vW E base bA nL p l e R s m args below meth c cells slots (g_MQ E base bA below args s cells slots L V (some (tJ x))) L V pc lv [tJ x] :=
  fun H locs ls h1 h2 h3 => W.lret C.1 C.2.1 hr (fun t ht hW => g_end C h1 h2 (some (tJ x)) t ht hW) h2.2.2 hd C.2.2.2.2.2.2.2
theorem r_vret (C : gC E bA p s m args meth c cc own nL) (hr : meth.sig.returnType = none) (hd : decode cc pc = .ok (.return_, 1)) : vW E base bA nL p l e R s m args below meth c cells slots (g_MQ E base bA below args s cells slots L V none) L V pc lv [] :=
  fun H locs ls h1 h2 h3 => W.vret C.1 C.2.1 hr (fun t ht hW => g_end C h1 h2 none t ht hW) h2.2.2 hd C.2.2.2.2.2.2.2
theorem r_aret (C : gC E bA p s m args meth c cc own nL) {Cn : String} (hr : meth.sig.returnType = some (.object Cn)) (hd : decode cc pc = .ok (.areturn, 1)) {x : Option Nat} : vW E base bA nL p l e R s m args below meth c cells slots (g_MQ E base bA below args s cells slots L V (some (tR x))) L V pc lv [tR x] :=
  fun H locs ls h1 h2 h3 => W.aret C.1 C.2.1 hr (Or.inl ⟨_, rfl⟩) (by cases x with | none => exact Or.inl rfl | some a => exact Or.inr ⟨a, rfl⟩) (fun t ht hW => g_end C h1 h2 (some (tR x)) t ht hW) h2.2.2 hd C.2.2.2.2.2.2.2
end GF
-- entry
theorem g_blind {E : gE} {base bA : Nat} {L : gL} {V : gV} {as : List Value} : FrameBlind (va_Pc as (g_in E base bA L V)) :=
  fun a U g mk q => ⟨q.1, q.2.1, g_K.same (s := U) (U := U.calling g mk a) rfl q.2.2.1, q.2.2.2⟩
def g_args : Nat → List gT → List (Nat × gT)
  | _, [] => []
  | k, t :: r => (k, t) :: g_args (k + g_c t) r
theorem g_cv (t : gT) : (g_val t).category = g_c t := congrFun g_c_eq t
theorem g_args_eq : ∀ (as : List gT) (k : Nat), lv_args k (as.map g_val) = (g_args k as).map g_q
  | [], _ => rfl
  | t :: r, k => by
    show lv_args k (g_val t :: r.map g_val) = (k, g_val t) :: (g_args (k + g_c t) r).map g_q
    rw [← g_args_eq r]
    show (k, g_val t) :: lv_args (if (g_val t).category = 2 then k + 2 else k + 1) (r.map g_val) = _
    rw [g_cv]
    rcases t with x | y | z <;> rfl
theorem g_sl_eq (as : List gT) : (lg_sl (as.map g_val)).length = (as.map g_c).sum := by
  induction as with
  | nil => rfl
  | cons t r ih =>
    have h0 : lg_sl ((t :: r).map g_val) = (if (g_val t).category = 2 then [Slot.val (g_val t), Slot.second] else [Slot.val (g_val t)]) ++ lg_sl (r.map g_val) := rfl
    rw [h0, List.length_append, ih]
    show _ = g_c t + (r.map g_c).sum
    rw [g_cv]
    rcases t with x | y | z <;> rfl
theorem r_enter {l : Launch} {E : gE} {base bA : Nat} {y : MethodName} {b : ByteArray} {mL : Nat} {ret : Option FieldType} {rm : Room} {L : gL} {V : gV} {o : Option gT} {L' : gL} {V' : gV} (own : String) (hy : plainName y.cls = true) (hown : y.cls = own) (as : List gT) (lv : List (Nat × gT)) (hlv : g_args 0 as = lv) (hln : (as.map g_c).sum ≤ mL)
    (body : ∀ (p : Program) (e : Env) (s : State) (m : MethodId) (args : Array Value) (below : List Frame) (meth : Method) (c : Code), gC E bA p s m args meth c b own mL → meth.sig.returnType = ret → meth.name = y.name → vW E base bA mL p l e rm s m args below meth c 0 0 (g_MQ E base bA below args s rm.cells rm.slots L' V' o) L V 0 lv []) : g_Met l E base bA y b mL ret rm as L V o L' V' := by
  refine Met.ofW (cc := b) (maxL := mL) (ret := ret) hy rfl ?_
  intro p e s m args below meth c s₁ B hml hv
  obtain ⟨rfl, hP, hK, hbs⟩ := hv
  have hts := atoms_spec (ws := g_w y b mL ret) B.pre
  have hnm : s.vm.findClass y.cls = some m.cls := findClass_of_methodNamed B.named
  have hname : meth.name = y.name := (name_of_methodNamed B.named B.method).1
  have hl := lv_entry (as.map g_val) (n := mL) (by rw [g_sl_eq]; exact hln)
  rw [g_args_eq, hlv] at hl
  rw [lg_entry_eq]
  exact body p e s m _ below meth c ⟨B.exec, B.bytes, hml, by rw [← hown]; exact hnm, fun w hw => hts w (List.mem_cons_of_mem _ hw), hK, hbs, B.notSynchronized⟩ B.returns hname s.heap [] _ hP va_S.rf hl
-- calls
def gM (own : String) (index : Nat) (y : MethodName) (n : Nat) : Prop := Cond.methodLink own index y ∈ g_tb ∧ Cond.initialized y.cls ∈ g_tb ∧ (y.cls ≠ "java/lang/invoke/MethodHandle" ∧ y.cls ≠ "java/lang/invoke/VarHandle" ∧ (parseMethodDescriptor y.desc).map (fun d => d.parameters.length) = some n)
section GK
variable {E : gE} {base bA nL : Nat} {p : Program} {l : Launch} {e : Env} {R : Room} {s : State} {m : MethodId} {args : Array Value} {below : List Frame} {meth : Method} {c : Code} {cells slots : Nat} {Q : State → Prop} {cc : ByteArray} {own : String} {L : gL} {V : gV} {pc : Nat} {lv lv' : List (Nat × gT)} {st : List gT}
theorem r_run {st0 : List gT} {o : Option gT} {L' : gL} {V' : gV} {mc ms : Nat} {a : Array Value} (hr : ∀ (H : Heap) (locs : List Loc) (ls : Array Slot), g_hp E base L V H → va_S (g_A bA) s.heap H locs → lv_has ls nL (lv.map g_q) → va_Run p l e R s m args below meth c H locs cells slots mc ms (F0 m pc ls (st0.map g_val)) (st.map g_val) (g_out E base bA L' V' o a) (g_A bA)) (kk : vW E base bA nL p l e R s m args below meth c (cells + mc) (slots + ms) Q L' V' (pc + 3) lv (o.toList ++ st)) : vW E base bA nL p l e R s m args below meth c cells slots Q L V pc lv st0 := by
  intro H locs ls h1 h2 h3 T hT X
  obtain ⟨v, st₀, t, T', Ls, h0, X', hL, e1, e2, ⟨hv, ⟨hp', hK'⟩, hz, hk⟩, hst⟩ := hr H locs ls h1 h2 h3 T hT X
  have hv' : v = o.map g_val := Outcome.returned.inj hv
  subst hv'
  rw [h0] at hz hk
  have hw := kk T'.heap (locs ++ Ls) ls (by rw [e1]; exact hp') ⟨Nat.le_trans h2.1 (by rw [e1]; exact hz), fun q q1 q2 => by rw [e1, hk q (Nat.lt_of_lt_of_le q1 h2.1) q2]; exact h2.2.1 q q1 q2, fun q hq => by
    rcases List.mem_append.mp hq with h | h
    · exact h2.2.2 q h
    · exact hL q h⟩ h3
  obtain ⟨t2, a1, b1⟩ := hw T' rfl X'
  refine ⟨t2, hst t2 ?_, b1⟩
  cases o <;> exact a1
theorem g_good {y : MethodName} {b : ByteArray} {mL : Nat} {ret : Option FieldType} (hc : Cond.code y b mL ret ∈ g_tb) : GoodIn g_tb (g_w y b mL ret) := by
  intro w hw
  rcases List.mem_cons.mp hw with rfl | hw
  · exact g_allgood _ hc
  · exact g_allgood _ hw
theorem r_callV (C : gC E bA p s m args meth c cc own nL) {index k n mL a : Nat} {y : MethodName} {b : ByteArray} {ret : Option FieldType} {rm : Room} {As : List gT} {o : Option gT} {L' : gL} {V' : gV} (M : gM own index y n) (w1 : Cond.instanceMethod y ∈ g_tb) (w2 : Cond.selects y.cls y y ∈ g_tb) (w3 : Cond.code y b mL ret ∈ g_tb) (hcl : ∃ (T : u_T) (N : Nat), g_cl[k]? = some (y.cls, T, N)) (hM : g_Met l E base bA y b mL ret rm (tR (some a) :: As) L V o L' V') (hd : decode cc pc = .ok (.invokevirtual index, 3)) {na : Nat} (ha : L.2 k a = some na) (hn : As.length = n) (hR : rm.frames + 1 ≤ R.frames ∧ 8 + (mL + 11) + rm.locals ≤ R.locals) (hW : (st.map g_c).sum ≤ 8) (hc : cells + rm.cells ≤ R.cells) (hs : slots + rm.slots ≤ R.slots) {st0 : List gT} (hst : st0 = As.reverse ++ tR (some a) :: st) (kk : vW E base bA nL p l e R s m args below meth c (cells + rm.cells) (slots + rm.slots) Q L' V' (pc + 3) lv (o.toList ++ st)) : vW E base bA nL p l e R s m args below meth c cells slots Q L V pc lv st0 := by
  subst hst
  refine r_run (a := (Value.ref a :: As.map g_val).toArray) (fun H locs ls h1 h2 h3 => ?_) kk
  obtain ⟨hx, hb, hml, hown, hts, hK, hbs, hlk⟩ := C
  obtain ⟨T, N, hcl⟩ := hcl
  obtain ⟨-, cell, q1, q2, q3, -⟩ := (h1.2.1 k a na ha).2.1 _ hcl
  refine va_runV (C := y.cls) (As := As.map g_val) ⟨hx, hb, hml, hown, hts⟩ hM ⟨callB_of n hts (g_good w3) rfl rfl rfl (hts _ M.2.1) (hts _ M.1) M.2.2 hR, hts _ w1, hts _ w2⟩ ⟨g_blind, ⟨cell, q1, by rw [q3]; rfl, by rw [q2]; exact (hK.1.1 k _ hcl).2.1⟩, fun U hU hWm => ⟨rfl, by rw [hU]; exact h1, hK.warm hWm, by rw [hU]; exact Nat.le_trans hbs h2.1⟩⟩ rfl (by rw [List.length_map]; exact hn) h3.1 ?_ ?_ hd ⟨hc, hs⟩
  · show (As.reverse ++ tR (some a) :: st).map g_val = _
    rw [List.map_append, List.map_reverse]; rfl
  · rw [List.map_map]
    show 2 * 0 + (st.map fun t => (g_val t).category).sum ≤ 8
    rw [g_c_eq]
    omega
theorem r_callS (C : gC E bA p s m args meth c cc own nL) {index n mL : Nat} {y : MethodName} {b : ByteArray} {ret : Option FieldType} {rm : Room} {As : List gT} {o : Option gT} {L' : gL} {V' : gV} (M : gM own index y n) (w1 : Cond.static y ∈ g_tb) (w3 : Cond.code y b mL ret ∈ g_tb) (hM : g_Met l E base bA y b mL ret rm As L V o L' V') (hd : decode cc pc = .ok (.invokestatic index, 3)) (hn : As.length = n) (hR : rm.frames + 1 ≤ R.frames ∧ 8 + (mL + 11) + rm.locals ≤ R.locals) (hW : (st.map g_c).sum ≤ 8) (hc : cells + rm.cells ≤ R.cells) (hs : slots + rm.slots ≤ R.slots) {st0 : List gT} (hst : st0 = As.reverse ++ st) (kk : vW E base bA nL p l e R s m args below meth c (cells + rm.cells) (slots + rm.slots) Q L' V' (pc + 3) lv (o.toList ++ st)) : vW E base bA nL p l e R s m args below meth c cells slots Q L V pc lv st0 := by
  subst hst
  refine r_run (a := (As.map g_val).toArray) (fun H locs ls h1 h2 h3 => ?_) kk
  obtain ⟨hx, hb, hml, hown, hts, hK, hbs, hlk⟩ := C
  refine va_runS (As := As.map g_val) ⟨hx, hb, hml, hown, hts⟩ hM ⟨callB_of n hts (g_good w3) rfl rfl rfl (hts _ M.2.1) (hts _ M.1) M.2.2 hR, hts _ w1⟩ ⟨g_blind, fun U hU hWm => ⟨rfl, by rw [hU]; exact h1, hK.warm hWm, by rw [hU]; exact Nat.le_trans hbs h2.1⟩⟩ rfl (by rw [List.length_map]; exact hn) h3.1 ?_ ?_ hd ⟨hc, hs⟩
  · show (As.reverse ++ st).map g_val = _
    rw [List.map_append, List.map_reverse]
  · rw [List.map_map]
    show 2 * 0 + (st.map fun t => (g_val t).category).sum ≤ 8
    rw [g_c_eq]
    omega
theorem r_callI (C : gC E bA p s m args meth c cc own nL) {index n mL a : Nat} {y : MethodName} {b : ByteArray} {rm : Room} {As : List gT} {L' : gL} {V' : gV} (M : gM own index y n) (hy1 : y.name = "<init>") (w1 : Cond.instanceMethod y ∈ g_tb) (w3 : Cond.code y b mL none ∈ g_tb) (hM : g_Met l E base bA y b mL none rm (tR (some a) :: As) L V none L' V') (hd : decode cc pc = .ok (.invokespecial index, 3)) (hn : As.length = n) (hR : rm.frames + 1 ≤ R.frames ∧ 8 + (mL + 11) + rm.locals ≤ R.locals) (hW : (st.map g_c).sum ≤ 8) (hc : cells + rm.cells ≤ R.cells) (hs : slots + rm.slots ≤ R.slots) {st0 : List gT} (hst : st0 = As.reverse ++ tR (some a) :: st) (kk : vW E base bA nL p l e R s m args below meth c (cells + rm.cells) (slots + rm.slots) Q L' V' (pc + 3) lv st) : vW E base bA nL p l e R s m args below meth c cells slots Q L V pc lv st0 := by
  subst hst
  refine r_run (o := none) (a := (Value.ref a :: As.map g_val).toArray) (fun H locs ls h1 h2 h3 => ?_) kk
  obtain ⟨hx, hb, hml, hown, hts, hK, hbs, hlk⟩ := C
  refine va_runI (As := As.map g_val) ⟨hx, hb, hml, hown, hts⟩ hM ⟨callB_of n hts (g_good w3) rfl rfl rfl (hts _ M.2.1) (hts _ M.1) M.2.2 hR, hy1, hts _ w1⟩ ⟨g_blind, fun U hU hWm => ⟨rfl, by rw [hU]; exact h1, hK.warm hWm, by rw [hU]; exact Nat.le_trans hbs h2.1⟩⟩ rfl (by rw [List.length_map]; exact hn) h3.1 ?_ ?_ hd ⟨hc, hs⟩
  · show (As.reverse ++ tR (some a) :: st).map g_val = _
    rw [List.map_append, List.map_reverse]; rfl
  · rw [List.map_map]
    show 2 * 0 + (st.map fun t => (g_val t).category).sum ≤ 8
    rw [g_c_eq]
    omega
theorem r_callIN (C : gC E bA p s m args meth c cc own nL) {index n mL a : Nat} {y : MethodName} {b : ByteArray} {rm : Room} {As : List gT} {L' : gL} {V' : gV} (hg : g_nest = .methodLinkNest own index y "EarlyCut") (w0 : Cond.initialized y.cls ∈ g_tb) (hdd : y.cls ≠ "java/lang/invoke/MethodHandle" ∧ y.cls ≠ "java/lang/invoke/VarHandle" ∧ (parseMethodDescriptor y.desc).map (fun d => d.parameters.length) = some n) (hy1 : y.name = "<init>") (w1 : Cond.instanceMethod y ∈ g_tb) (w3 : Cond.code y b mL none ∈ g_tb) (hM : g_Met l E base bA y b mL none rm (tR (some a) :: As) L V none L' V') (hd : decode cc pc = .ok (.invokespecial index, 3)) (hn : As.length = n) (hR : rm.frames + 1 ≤ R.frames ∧ 8 + (mL + 11) + rm.locals ≤ R.locals) (hW : (st.map g_c).sum ≤ 8) (hc : cells + rm.cells ≤ R.cells) (hs : slots + rm.slots ≤ R.slots) {st0 : List gT} (hst : st0 = As.reverse ++ tR (some a) :: st) (kk : vW E base bA nL p l e R s m args below meth c (cells + rm.cells) (slots + rm.slots) Q L' V' (pc + 3) lv st) : vW E base bA nL p l e R s m args below meth c cells slots Q L V pc lv st0 := by
  subst hst
  refine r_run (o := none) (a := (Value.ref a :: As.map g_val).toArray) (fun H locs ls h1 h2 h3 => ?_) kk
  obtain ⟨hx, hb, hml, hown, hts, hK, hbs, hlk⟩ := C
  have hl : va_Nw (.methodLinkNest own index y "EarlyCut") s := by rw [← hg]; exact hK.2.1
  refine va_runIN (As := As.map g_val) ⟨hx, hb, hml, hown, hts⟩ hM ⟨va_cnB n hts (g_good w3) rfl rfl rfl hl (hts _ w0) hdd hR, hy1, hts _ w1⟩ ⟨g_blind, fun U hU hWm => ⟨rfl, by rw [hU]; exact h1, hK.warm hWm, by rw [hU]; exact Nat.le_trans hbs h2.1⟩⟩ rfl (by rw [List.length_map]; exact hn) h3.1 ?_ ?_ hd ⟨hc, hs⟩
  · show (As.reverse ++ tR (some a) :: st).map g_val = _
    rw [List.map_append, List.map_reverse]; rfl
  · rw [List.map_map]
    show 2 * 0 + (st.map fun t => (g_val t).category).sum ≤ 8
    rw [g_c_eq]
    omega
end GK
