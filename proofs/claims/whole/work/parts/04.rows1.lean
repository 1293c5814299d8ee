/-! ROWS: an instruction a row, over vW -/
section GR
variable {E : gE} {base bA nL : Nat} {p : Program} {l : Launch} {e : Env} {R : Room} {s : State} {m : MethodId} {args : Array Value} {below : List Frame} {meth : Method} {c : Code} {cells slots : Nat} {Q : State → Prop} {cc : ByteArray} {own : String} {L : gL} {V : gV} {pc : Nat} {lv lv' : List (Nat × gT)} {st : List gT}
theorem r_iconst (C : gC E bA p s m args meth c cc own nL) {n : Int} (v : Int32) (hd : decode cc pc = .ok (.iconst n, 1)) (hv : Int32.ofInt n = v) (k : vW E base bA nL p l e R s m args below meth c cells slots Q L V (pc + 1) lv (tI v :: st)) : vW E base bA nL p l e R s m args below meth c cells slots Q L V pc lv st :=
  fun H locs ls h1 h2 h3 => lv_iconst C.1 C.2.1 hd hv (k H locs ls h1 h2 h3)
theorem r_bipush (C : gC E bA p s m args meth c cc own nL) {n : Int} (v : Int32) (hd : decode cc pc = .ok (.bipush n, 2)) (hv : (Int8.ofInt n).toInt32 = v) (k : vW E base bA nL p l e R s m args below meth c cells slots Q L V (pc + 2) lv (tI v :: st)) : vW E base bA nL p l e R s m args below meth c cells slots Q L V pc lv st :=
  fun H locs ls h1 h2 h3 => lv_bipush C.1 C.2.1 hd hv (k H locs ls h1 h2 h3)
theorem r_sipush (C : gC E bA p s m args meth c cc own nL) {n : Int} (v : Int32) (hd : decode cc pc = .ok (.sipush n, 3)) (hv : (Int16.ofInt n).toInt32 = v) (k : vW E base bA nL p l e R s m args below meth c cells slots Q L V (pc + 3) lv (tI v :: st)) : vW E base bA nL p l e R s m args below meth c cells slots Q L V pc lv st :=
  fun H locs ls h1 h2 h3 => lv_sipush C.1 C.2.1 hd hv (k H locs ls h1 h2 h3)
theorem r_lconst (C : gC E bA p s m args meth c cc own nL) {n : Fin 2} (v : Int64) (hd : decode cc pc = .ok (.lconst n, 1)) (hv : Int64.ofNat (n : Nat) = v) (k : vW E base bA nL p l e R s m args below meth c cells slots Q L V (pc + 1) lv (tJ v :: st)) : vW E base bA nL p l e R s m args below meth c cells slots Q L V pc lv st :=
  fun H locs ls h1 h2 h3 => lv_lconst C.1 C.2.1 hd hv (k H locs ls h1 h2 h3)
theorem r_ldc (C : gC E bA p s m args meth c cc own nL) {index : Nat} (v : Int32) (hd : decode cc pc = .ok (.ldc index, 2)) (hw : Jvm.Cond.constant own index v ∈ g_tb) (k : vW E base bA nL p l e R s m args below meth c cells slots Q L V (pc + 2) lv (tI v :: st)) : vW E base bA nL p l e R s m args below meth c cells slots Q L V pc lv st :=
  fun H locs ls h1 h2 h3 => lv_ldc C.1 C.2.1 C.2.2.2.1 (C.2.2.2.2.1 _ hw) hd (k H locs ls h1 h2 h3)
theorem r_ldc2 (C : gC E bA p s m args meth c cc own nL) {index : Nat} (v : Int64) (hd : decode cc pc = .ok (.ldc2_w index, 3)) (hw : Jvm.Cond.constantLong own index v ∈ g_tb) (k : vW E base bA nL p l e R s m args below meth c cells slots Q L V (pc + 3) lv (tJ v :: st)) : vW E base bA nL p l e R s m args below meth c cells slots Q L V pc lv st :=
  fun H locs ls h1 h2 h3 => lv_ldc2 C.1 C.2.1 C.2.2.2.1 (C.2.2.2.2.1 _ hw) hd (k H locs ls h1 h2 h3)
theorem r_null (C : gC E bA p s m args meth c cc own nL)  (hd : decode cc pc = .ok (.aconst_null, 1))  (k : vW E base bA nL p l e R s m args below meth c cells slots Q L V (pc + 1) lv (tR none :: st)) : vW E base bA nL p l e R s m args below meth c cells slots Q L V pc lv st :=
  fun H locs ls h1 h2 h3 => lv_null C.1 C.2.1 hd (k H locs ls h1 h2 h3)
theorem r_iload_n (C : gC E bA p s m args meth c cc own nL) {k : Fin 4} {i : Nat} {x : Int32} (hd : decode cc pc = .ok (.iload_n k, 1)) (hi : (k : Nat) = i) (hl : g_lk lv i = some (tI x)) (kk : vW E base bA nL p l e R s m args below meth c cells slots Q L V (pc + 1) lv (tI x :: st)) : vW E base bA nL p l e R s m args below meth c cells slots Q L V pc lv st :=
  fun H locs ls h1 h2 h3 => lv_iload_n C.1 C.2.1 hd hi (g_lk_at h3 hl) (kk H locs ls h1 h2 h3)
theorem r_iload (C : gC E bA p s m args meth c cc own nL) {i : Nat} {x : Int32} (hd : decode cc pc = .ok (.iload i, 2)) (hl : g_lk lv i = some (tI x)) (kk : vW E base bA nL p l e R s m args below meth c cells slots Q L V (pc + 2) lv (tI x :: st)) : vW E base bA nL p l e R s m args below meth c cells slots Q L V pc lv st :=
  fun H locs ls h1 h2 h3 => lv_iload C.1 C.2.1 hd (g_lk_at h3 hl) (kk H locs ls h1 h2 h3)
theorem r_lload_n (C : gC E bA p s m args meth c cc own nL) {k : Fin 4} {i : Nat} {x : Int64} (hd : decode cc pc = .ok (.lload_n k, 1)) (hi : (k : Nat) = i) (hl : g_lk lv i = some (tJ x)) (kk : vW E base bA nL p l e R s m args below meth c cells slots Q L V (pc + 1) lv (tJ x :: st)) : vW E base bA nL p l e R s m args below meth c cells slots Q L V pc lv st :=
  fun H locs ls h1 h2 h3 => lv_lload_n C.1 C.2.1 hd hi (g_lk_at h3 hl) (kk H locs ls h1 h2 h3)
theorem r_lload (C : gC E bA p s m args meth c cc own nL) {i : Nat} {x : Int64} (hd : decode cc pc = .ok (.lload i, 2)) (hl : g_lk lv i = some (tJ x)) (kk : vW E base bA nL p l e R s m args below meth c cells slots Q L V (pc + 2) lv (tJ x :: st)) : vW E base bA nL p l e R s m args below meth c cells slots Q L V pc lv st :=
  fun H locs ls h1 h2 h3 => lv_lload C.1 C.2.1 hd (g_lk_at h3 hl) (kk H locs ls h1 h2 h3)
theorem r_aload_n (C : gC E bA p s m args meth c cc own nL) {k : Fin 4} {i : Nat} {x : Option Nat} (hd : decode cc pc = .ok (.aload_n k, 1)) (hi : (k : Nat) = i) (hl : g_lk lv i = some (tR x)) (kk : vW E base bA nL p l e R s m args below meth c cells slots Q L V (pc + 1) lv (tR x :: st)) : vW E base bA nL p l e R s m args below meth c cells slots Q L V pc lv st := by
  intro H locs ls h1 h2 h3
  have hk := kk H locs ls h1 h2 h3
  have hg := g_lk_at h3 hl
  cases x with
  | none => exact lv_aload_nN C.1 C.2.1 hd hi hg hk
  | some x => exact lv_aload_n C.1 C.2.1 hd hi hg hk
theorem r_aload (C : gC E bA p s m args meth c cc own nL) {i : Nat} {x : Option Nat} (hd : decode cc pc = .ok (.aload i, 2)) (hl : g_lk lv i = some (tR x)) (kk : vW E base bA nL p l e R s m args below meth c cells slots Q L V (pc + 2) lv (tR x :: st)) : vW E base bA nL p l e R s m args below meth c cells slots Q L V pc lv st := by
  intro H locs ls h1 h2 h3
  have hk := kk H locs ls h1 h2 h3
  have hg := g_lk_at h3 hl
  cases x with
  | none => exact lv_aloadN C.1 C.2.1 hd hg hk
  | some x => exact lv_aload C.1 C.2.1 hd hg hk
theorem r_istore_n (C : gC E bA p s m args meth c cc own nL) {k : Fin 4} {i : Nat} {x : Int32} (hd : decode cc pc = .ok (.istore_n k, 1)) (hi : (k : Nat) = i) (hn : i < nL) (hl : g_s1 lv i (tI x) = lv') (kk : vW E base bA nL p l e R s m args below meth c cells slots Q L V (pc + 1) lv' st) : vW E base bA nL p l e R s m args below meth c cells slots Q L V pc lv (tI x :: st) := by
  intro H locs ls h1 h2 h3
  refine lv_istore_n C.1 C.2.1 hd hi h3 hn rfl (fun ls' h' => ?_)
  subst hl
  exact kk H locs ls' h1 h2 (g_has1 (t := tI x) h')
theorem r_istore (C : gC E bA p s m args meth c cc own nL) {i : Nat} {x : Int32} (hd : decode cc pc = .ok (.istore i, 2)) (hn : i < nL) (hl : g_s1 lv i (tI x) = lv') (kk : vW E base bA nL p l e R s m args below meth c cells slots Q L V (pc + 2) lv' st) : vW E base bA nL p l e R s m args below meth c cells slots Q L V pc lv (tI x :: st) := by
  intro H locs ls h1 h2 h3
  refine lv_istore C.1 C.2.1 hd h3 hn rfl (fun ls' h' => ?_)
  subst hl
  exact kk H locs ls' h1 h2 (g_has1 (t := tI x) h')
theorem r_lstore_n (C : gC E bA p s m args meth c cc own nL) {k : Fin 4} {i : Nat} {x : Int64} (hd : decode cc pc = .ok (.lstore_n k, 1)) (hi : (k : Nat) = i) (hn : i + 1 < nL) (hl : g_s2 lv i (tJ x) = lv') (kk : vW E base bA nL p l e R s m args below meth c cells slots Q L V (pc + 1) lv' st) : vW E base bA nL p l e R s m args below meth c cells slots Q L V pc lv (tJ x :: st) := by
  intro H locs ls h1 h2 h3
  refine lv_lstore_n C.1 C.2.1 hd hi h3 hn rfl (fun ls' h' => ?_)
  subst hl
  exact kk H locs ls' h1 h2 (g_has2 (t := tJ x) h')
theorem r_lstore (C : gC E bA p s m args meth c cc own nL) {i : Nat} {x : Int64} (hd : decode cc pc = .ok (.lstore i, 2)) (hn : i + 1 < nL) (hl : g_s2 lv i (tJ x) = lv') (kk : vW E base bA nL p l e R s m args below meth c cells slots Q L V (pc + 2) lv' st) : vW E base bA nL p l e R s m args below meth c cells slots Q L V pc lv (tJ x :: st) := by
  intro H locs ls h1 h2 h3
  refine lv_lstore C.1 C.2.1 hd h3 hn rfl (fun ls' h' => ?_)
  subst hl
  exact kk H locs ls' h1 h2 (g_has2 (t := tJ x) h')
theorem r_astore_n (C : gC E bA p s m args meth c cc own nL) {k : Fin 4} {i : Nat} {x : Option Nat} (hd : decode cc pc = .ok (.astore_n k, 1)) (hi : (k : Nat) = i) (hn : i < nL) (hl : g_s1 lv i (tR x) = lv') (kk : vW E base bA nL p l e R s m args below meth c cells slots Q L V (pc + 1) lv' st) : vW E base bA nL p l e R s m args below meth c cells slots Q L V pc lv (tR x :: st) := by
  intro H locs ls h1 h2 h3
  subst hl
  cases x with
  | none => exact lv_astore_nN C.1 C.2.1 hd hi h3 hn rfl (fun ls' h' => kk H locs ls' h1 h2 (g_has1 (t := tR none) h'))
  | some x => exact lv_astore_n C.1 C.2.1 hd hi h3 hn rfl (fun ls' h' => kk H locs ls' h1 h2 (g_has1 (t := tR (some x)) h'))
theorem r_astore (C : gC E bA p s m args meth c cc own nL) {i : Nat} {x : Option Nat} (hd : decode cc pc = .ok (.astore i, 2)) (hn : i < nL) (hl : g_s1 lv i (tR x) = lv') (kk : vW E base bA nL p l e R s m args below meth c cells slots Q L V (pc + 2) lv' st) : vW E base bA nL p l e R s m args below meth c cells slots Q L V pc lv (tR x :: st) := by
  intro H locs ls h1 h2 h3
  subst hl
  cases x with
  | none => exact lv_astoreN C.1 C.2.1 hd h3 hn rfl (fun ls' h' => kk H locs ls' h1 h2 (g_has1 (t := tR none) h'))
  | some x => exact lv_astore C.1 C.2.1 hd h3 hn rfl (fun ls' h' => kk H locs ls' h1 h2 (g_has1 (t := tR (some x)) h'))
theorem g_lk_pos : ∀ {l : List (Nat × gT)} {i : Nat} {t : gT}, g_lk l i = some t → ∃ k : Nat, (l.map g_q)[k]? = some (i, g_val t) := fun {l i t} h => List.getElem?_of_mem (List.mem_map.mpr ⟨(i, t), g_lk_mem h, rfl⟩)
theorem r_iinc (C : gC E bA p s m args meth c cc own nL) {i : Nat} {n : Int} {x v : Int32} (hd : decode cc pc = .ok (.iinc i n, 3)) (hk : g_lk lv i = some (tI x)) (hv : x + Int32.ofInt n = v) (hn : i < nL) (hl : g_s1 lv i (tI v) = lv') (kk : vW E base bA nL p l e R s m args below meth c cells slots Q L V (pc + 3) lv' st) : vW E base bA nL p l e R s m args below meth c cells slots Q L V pc lv st := by
  intro H locs ls h1 h2 h3
  obtain ⟨j, hj⟩ := g_lk_pos hk
  refine lv_iinc C.1 C.2.1 hd h3 hj hv hn rfl (fun ls' h' => ?_)
  subst hl
  exact kk H locs ls' h1 h2 (g_has1 (t := tI v) h')
theorem r_iadd (C : gC E bA p s m args meth c cc own nL) {x y : Int32} (hd : decode cc pc = .ok (.iadd, 1))  (k : vW E base bA nL p l e R s m args below meth c cells slots Q L V (pc + 1) lv (tI (x + y) :: st)) : vW E base bA nL p l e R s m args below meth c cells slots Q L V pc lv (tI y :: tI x :: st) :=
  fun H locs ls h1 h2 h3 => lv_iadd C.1 C.2.1 hd (k H locs ls h1 h2 h3)
theorem r_isub (C : gC E bA p s m args meth c cc own nL) {x y : Int32} (hd : decode cc pc = .ok (.isub, 1))  (k : vW E base bA nL p l e R s m args below meth c cells slots Q L V (pc + 1) lv (tI (x - y) :: st)) : vW E base bA nL p l e R s m args below meth c cells slots Q L V pc lv (tI y :: tI x :: st) :=
  fun H locs ls h1 h2 h3 => lv_isub C.1 C.2.1 hd (k H locs ls h1 h2 h3)
theorem r_imul (C : gC E bA p s m args meth c cc own nL) {x y : Int32} (hd : decode cc pc = .ok (.imul, 1))  (k : vW E base bA nL p l e R s m args below meth c cells slots Q L V (pc + 1) lv (tI (x * y) :: st)) : vW E base bA nL p l e R s m args below meth c cells slots Q L V pc lv (tI y :: tI x :: st) :=
  fun H locs ls h1 h2 h3 => lv_imul C.1 C.2.1 hd (k H locs ls h1 h2 h3)
theorem r_iand (C : gC E bA p s m args meth c cc own nL) {x y : Int32} (hd : decode cc pc = .ok (.iand, 1))  (k : vW E base bA nL p l e R s m args below meth c cells slots Q L V (pc + 1) lv (tI (x &&& y) :: st)) : vW E base bA nL p l e R s m args below meth c cells slots Q L V pc lv (tI y :: tI x :: st) :=
  fun H locs ls h1 h2 h3 => lv_iand C.1 C.2.1 hd (k H locs ls h1 h2 h3)
theorem r_ior (C : gC E bA p s m args meth c cc own nL) {x y : Int32} (hd : decode cc pc = .ok (.ior, 1))  (k : vW E base bA nL p l e R s m args below meth c cells slots Q L V (pc + 1) lv (tI (x ||| y) :: st)) : vW E base bA nL p l e R s m args below meth c cells slots Q L V pc lv (tI y :: tI x :: st) :=
  fun H locs ls h1 h2 h3 => lv_ior C.1 C.2.1 hd (k H locs ls h1 h2 h3)
theorem r_ixor (C : gC E bA p s m args meth c cc own nL) {x y : Int32} (hd : decode cc pc = .ok (.ixor, 1))  (k : vW E base bA nL p l e R s m args below meth c cells slots Q L V (pc + 1) lv (tI (x ^^^ y) :: st)) : vW E base bA nL p l e R s m args below meth c cells slots Q L V pc lv (tI y :: tI x :: st) :=
  fun H locs ls h1 h2 h3 => lv_ixor C.1 C.2.1 hd (k H locs ls h1 h2 h3)
theorem r_idiv (C : gC E bA p s m args meth c cc own nL) {x y : Int32} (hd : decode cc pc = .ok (.idiv, 1)) (hne : ¬ y = 0) (k : vW E base bA nL p l e R s m args below meth c cells slots Q L V (pc + 1) lv (tI (x / y) :: st)) : vW E base bA nL p l e R s m args below meth c cells slots Q L V pc lv (tI y :: tI x :: st) :=
  fun H locs ls h1 h2 h3 => lv_idiv C.1 C.2.1 hd hne (k H locs ls h1 h2 h3)
theorem r_irem (C : gC E bA p s m args meth c cc own nL) {x y : Int32} (hd : decode cc pc = .ok (.irem, 1)) (hne : ¬ y = 0) (k : vW E base bA nL p l e R s m args below meth c cells slots Q L V (pc + 1) lv (tI (x - x / y * y) :: st)) : vW E base bA nL p l e R s m args below meth c cells slots Q L V pc lv (tI y :: tI x :: st) :=
  fun H locs ls h1 h2 h3 => lv_irem C.1 C.2.1 hd hne (k H locs ls h1 h2 h3)
theorem r_ladd (C : gC E bA p s m args meth c cc own nL) {x y : Int64} (hd : decode cc pc = .ok (.ladd, 1))  (k : vW E base bA nL p l e R s m args below meth c cells slots Q L V (pc + 1) lv (tJ (x + y) :: st)) : vW E base bA nL p l e R s m args below meth c cells slots Q L V pc lv (tJ y :: tJ x :: st) :=
  fun H locs ls h1 h2 h3 => lv_ladd C.1 C.2.1 hd (k H locs ls h1 h2 h3)
theorem r_lsub (C : gC E bA p s m args meth c cc own nL) {x y : Int64} (hd : decode cc pc = .ok (.lsub, 1))  (k : vW E base bA nL p l e R s m args below meth c cells slots Q L V (pc + 1) lv (tJ (x - y) :: st)) : vW E base bA nL p l e R s m args below meth c cells slots Q L V pc lv (tJ y :: tJ x :: st) :=
  fun H locs ls h1 h2 h3 => lv_lsub C.1 C.2.1 hd (k H locs ls h1 h2 h3)
theorem r_lmul (C : gC E bA p s m args meth c cc own nL) {x y : Int64} (hd : decode cc pc = .ok (.lmul, 1))  (k : vW E base bA nL p l e R s m args below meth c cells slots Q L V (pc + 1) lv (tJ (x * y) :: st)) : vW E base bA nL p l e R s m args below meth c cells slots Q L V pc lv (tJ y :: tJ x :: st) :=
  fun H locs ls h1 h2 h3 => lv_lmul C.1 C.2.1 hd (k H locs ls h1 h2 h3)
theorem r_land (C : gC E bA p s m args meth c cc own nL) {x y : Int64} (hd : decode cc pc = .ok (.land, 1))  (k : vW E base bA nL p l e R s m args below meth c cells slots Q L V (pc + 1) lv (tJ (x &&& y) :: st)) : vW E base bA nL p l e R s m args below meth c cells slots Q L V pc lv (tJ y :: tJ x :: st) :=
  fun H locs ls h1 h2 h3 => lv_land C.1 C.2.1 hd (k H locs ls h1 h2 h3)
theorem r_lor (C : gC E bA p s m args meth c cc own nL) {x y : Int64} (hd : decode cc pc = .ok (.lor, 1))  (k : vW E base bA nL p l e R s m args below meth c cells slots Q L V (pc + 1) lv (tJ (x ||| y) :: st)) : vW E base bA nL p l e R s m args below meth c cells slots Q L V pc lv (tJ y :: tJ x :: st) :=
  fun H locs ls h1 h2 h3 => lv_lor C.1 C.2.1 hd (k H locs ls h1 h2 h3)
theorem r_lxor (C : gC E bA p s m args meth c cc own nL) {x y : Int64} (hd : decode cc pc = .ok (.lxor, 1))  (k : vW E base bA nL p l e R s m args below meth c cells slots Q L V (pc + 1) lv (tJ (x ^^^ y) :: st)) : vW E base bA nL p l e R s m args below meth c cells slots Q L V pc lv (tJ y :: tJ x :: st) :=
  fun H locs ls h1 h2 h3 => lv_lxor C.1 C.2.1 hd (k H locs ls h1 h2 h3)
theorem r_ldiv (C : gC E bA p s m args meth c cc own nL) {x y : Int64} (hd : decode cc pc = .ok (.ldiv, 1)) (hne : ¬ y = 0) (k : vW E base bA nL p l e R s m args below meth c cells slots Q L V (pc + 1) lv (tJ (x / y) :: st)) : vW E base bA nL p l e R s m args below meth c cells slots Q L V pc lv (tJ y :: tJ x :: st) :=
  fun H locs ls h1 h2 h3 => lv_ldiv C.1 C.2.1 hd hne (k H locs ls h1 h2 h3)
theorem r_lrem (C : gC E bA p s m args meth c cc own nL) {x y : Int64} (hd : decode cc pc = .ok (.lrem, 1)) (hne : ¬ y = 0) (k : vW E base bA nL p l e R s m args below meth c cells slots Q L V (pc + 1) lv (tJ (x - x / y * y) :: st)) : vW E base bA nL p l e R s m args below meth c cells slots Q L V pc lv (tJ y :: tJ x :: st) :=
  fun H locs ls h1 h2 h3 => lv_lrem C.1 C.2.1 hd hne (k H locs ls h1 h2 h3)
theorem r_ineg (C : gC E bA p s m args meth c cc own nL) {x : Int32} (hd : decode cc pc = .ok (.ineg, 1))  (k : vW E base bA nL p l e R s m args below meth c cells slots Q L V (pc + 1) lv (tI (-x) :: st)) : vW E base bA nL p l e R s m args below meth c cells slots Q L V pc lv (tI x :: st) :=
  fun H locs ls h1 h2 h3 => lv_ineg C.1 C.2.1 hd (k H locs ls h1 h2 h3)
theorem r_lcmp (C : gC E bA p s m args meth c cc own nL) {x y : Int64} (hd : decode cc pc = .ok (.lcmp, 1))  (k : vW E base bA nL p l e R s m args below meth c cells slots Q L V (pc + 1) lv (tI (lg_cmp x y) :: st)) : vW E base bA nL p l e R s m args below meth c cells slots Q L V pc lv (tJ y :: tJ x :: st) :=
  fun H locs ls h1 h2 h3 => W.lcmp C.1 C.2.1 hd (k H locs ls h1 h2 h3)
theorem r_i2l (C : gC E bA p s m args meth c cc own nL) {x : Int32} (hd : decode cc pc = .ok (.i2l, 1))  (k : vW E base bA nL p l e R s m args below meth c cells slots Q L V (pc + 1) lv (tJ x.toInt64 :: st)) : vW E base bA nL p l e R s m args below meth c cells slots Q L V pc lv (tI x :: st) :=
  fun H locs ls h1 h2 h3 => lv_i2l C.1 C.2.1 hd rfl (k H locs ls h1 h2 h3)
theorem r_l2i (C : gC E bA p s m args meth c cc own nL) {x : Int64} (hd : decode cc pc = .ok (.l2i, 1))  (k : vW E base bA nL p l e R s m args below meth c cells slots Q L V (pc + 1) lv (tI x.toInt32 :: st)) : vW E base bA nL p l e R s m args below meth c cells slots Q L V pc lv (tJ x :: st) :=
  fun H locs ls h1 h2 h3 => lv_l2i C.1 C.2.1 hd rfl (k H locs ls h1 h2 h3)
theorem r_iushr (C : gC E bA p s m args meth c cc own nL) {x y : Int32} (hd : decode cc pc = .ok (.iushr, 1))  (k : vW E base bA nL p l e R s m args below meth c cells slots Q L V (pc + 1) lv (tI ((x.toUInt32 >>> (y.toUInt32 &&& Int32.toUInt32 31)).toInt32) :: st)) : vW E base bA nL p l e R s m args below meth c cells slots Q L V pc lv (tI y :: tI x :: st) :=
  fun H locs ls h1 h2 h3 => lv_iushr C.1 C.2.1 hd rfl (k H locs ls h1 h2 h3)
theorem r_ishl (C : gC E bA p s m args meth c cc own nL) {x y : Int32} (hd : decode cc pc = .ok (.ishl, 1))  (k : vW E base bA nL p l e R s m args below meth c cells slots Q L V (pc + 1) lv (tI (x <<< (y &&& 31)) :: st)) : vW E base bA nL p l e R s m args below meth c cells slots Q L V pc lv (tI y :: tI x :: st) :=
  fun H locs ls h1 h2 h3 => lv_ishl C.1 C.2.1 hd (k H locs ls h1 h2 h3)
theorem r_ishr (C : gC E bA p s m args meth c cc own nL) {x y : Int32} (hd : decode cc pc = .ok (.ishr, 1))  (k : vW E base bA nL p l e R s m args below meth c cells slots Q L V (pc + 1) lv (tI (x >>> (y &&& 31)) :: st)) : vW E base bA nL p l e R s m args below meth c cells slots Q L V pc lv (tI y :: tI x :: st) :=
  fun H locs ls h1 h2 h3 => lv_ishr C.1 C.2.1 hd (k H locs ls h1 h2 h3)
theorem r_lshl (C : gC E bA p s m args meth c cc own nL) {x : Int64} {y : Int32} (hd : decode cc pc = .ok (.lshl, 1))  (k : vW E base bA nL p l e R s m args below meth c cells slots Q L V (pc + 1) lv (tJ (x <<< (y.toInt64 &&& 63)) :: st)) : vW E base bA nL p l e R s m args below meth c cells slots Q L V pc lv (tI y :: tJ x :: st) :=
  fun H locs ls h1 h2 h3 => lv_lshl C.1 C.2.1 hd rfl (k H locs ls h1 h2 h3)
theorem r_lshr (C : gC E bA p s m args meth c cc own nL) {x : Int64} {y : Int32} (hd : decode cc pc = .ok (.lshr, 1))  (k : vW E base bA nL p l e R s m args below meth c cells slots Q L V (pc + 1) lv (tJ (x >>> (y.toInt64 &&& 63)) :: st)) : vW E base bA nL p l e R s m args below meth c cells slots Q L V pc lv (tI y :: tJ x :: st) :=
  fun H locs ls h1 h2 h3 => lv_lshr C.1 C.2.1 hd rfl (k H locs ls h1 h2 h3)
theorem r_lushr (C : gC E bA p s m args meth c cc own nL) {x : Int64} {y : Int32} (hd : decode cc pc = .ok (.lushr, 1))  (k : vW E base bA nL p l e R s m args below meth c cells slots Q L V (pc + 1) lv (tJ ((x.toUInt64 >>> (y.toInt64.toUInt64 &&& Int64.toUInt64 63)).toInt64) :: st)) : vW E base bA nL p l e R s m args below meth c cells slots Q L V pc lv (tI y :: tJ x :: st) :=
  fun H locs ls h1 h2 h3 => lv_lushr C.1 C.2.1 hd rfl (k H locs ls h1 h2 h3)
theorem g_cat1 {t : gT} (h : g_two t = false) : (g_val t).category = 1 := by rw [g_cat, h]; rfl
theorem g_cat22 {t : gT} (h : g_two t = true) : (g_val t).category = 2 := by rw [g_cat, h]; rfl
theorem r_dup (C : gC E bA p s m args meth c cc own nL) {t : gT} (hd : decode cc pc = .ok (.dup, 1)) (ht : g_two t = false) (k : vW E base bA nL p l e R s m args below meth c cells slots Q L V (pc + 1) lv (t :: t :: st)) : vW E base bA nL p l e R s m args below meth c cells slots Q L V pc lv (t :: st) :=
  fun H locs ls h1 h2 h3 => lv_dup C.1 C.2.1 hd (g_cat1 ht) (k H locs ls h1 h2 h3)
theorem r_pop (C : gC E bA p s m args meth c cc own nL) {t : gT} (hd : decode cc pc = .ok (.pop, 1)) (ht : g_two t = false) (k : vW E base bA nL p l e R s m args below meth c cells slots Q L V (pc + 1) lv st) : vW E base bA nL p l e R s m args below meth c cells slots Q L V pc lv (t :: st) :=
  fun H locs ls h1 h2 h3 => lv_pop C.1 C.2.1 hd (g_cat1 ht) (k H locs ls h1 h2 h3)
theorem r_dup_x1 (C : gC E bA p s m args meth c cc own nL) {t u : gT} (hd : decode cc pc = .ok (.dup_x1, 1)) (ht : g_two t = false) (hu : g_two u = false) (k : vW E base bA nL p l e R s m args below meth c cells slots Q L V (pc + 1) lv (t :: u :: t :: st)) : vW E base bA nL p l e R s m args below meth c cells slots Q L V pc lv (t :: u :: st) :=
  fun H locs ls h1 h2 h3 => lv_dup_x1 C.1 C.2.1 hd (g_cat1 ht) (g_cat1 hu) (k H locs ls h1 h2 h3)
theorem r_dup2 (C : gC E bA p s m args meth c cc own nL) {t u : gT} (hd : decode cc pc = .ok (.dup2, 1)) (ht : g_two t = false) (hu : g_two u = false) (k : vW E base bA nL p l e R s m args below meth c cells slots Q L V (pc + 1) lv (t :: u :: t :: u :: st)) : vW E base bA nL p l e R s m args below meth c cells slots Q L V pc lv (t :: u :: st) :=
  fun H locs ls h1 h2 h3 => lv_dup2_11 C.1 C.2.1 hd (g_cat1 ht) (g_cat1 hu) (k H locs ls h1 h2 h3)
theorem r_dup2_2 (C : gC E bA p s m args meth c cc own nL) {t : gT} (hd : decode cc pc = .ok (.dup2, 1)) (ht : g_two t = true) (k : vW E base bA nL p l e R s m args below meth c cells slots Q L V (pc + 1) lv (t :: t :: st)) : vW E base bA nL p l e R s m args below meth c cells slots Q L V pc lv (t :: st) :=
  fun H locs ls h1 h2 h3 => lv_dup2_2 C.1 C.2.1 hd (g_cat22 ht) (k H locs ls h1 h2 h3)
theorem r_if_eq (C : gC E bA p s m args meth c cc own nL) {x : Int32} {off : Int} (tgt : Nat) (hd : decode cc pc = .ok (.ifCond .eq off, 3)) (ht : (pc : Int) + off = (tgt : Int)) (kt : x = 0 → vW E base bA nL p l e R s m args below meth c cells slots Q L V tgt lv st) (kf : ¬ x = 0 → vW E base bA nL p l e R s m args below meth c cells slots Q L V (pc + 3) lv st) : vW E base bA nL p l e R s m args below meth c cells slots Q L V pc lv (tI x :: st) :=
  fun H locs ls h1 h2 h3 => lv_if_eq C.1 C.2.1 hd ht (fun q => kt q H locs ls h1 h2 h3) (fun q => kf q H locs ls h1 h2 h3)
theorem r_icmp_eq (C : gC E bA p s m args meth c cc own nL) {x y : Int32} {off : Int} (tgt : Nat) (hd : decode cc pc = .ok (.if_icmp .eq off, 3)) (ht : (pc : Int) + off = (tgt : Int)) (kt : x = y → vW E base bA nL p l e R s m args below meth c cells slots Q L V tgt lv st) (kf : ¬ x = y → vW E base bA nL p l e R s m args below meth c cells slots Q L V (pc + 3) lv st) : vW E base bA nL p l e R s m args below meth c cells slots Q L V pc lv (tI y :: tI x :: st) :=
  fun H locs ls h1 h2 h3 => lv_icmp_eq C.1 C.2.1 hd ht (fun q => kt q H locs ls h1 h2 h3) (fun q => kf q H locs ls h1 h2 h3)
theorem r_if_ne (C : gC E bA p s m args meth c cc own nL) {x : Int32} {off : Int} (tgt : Nat) (hd : decode cc pc = .ok (.ifCond .ne off, 3)) (ht : (pc : Int) + off = (tgt : Int)) (kt : ¬ x = 0 → vW E base bA nL p l e R s m args below meth c cells slots Q L V tgt lv st) (kf : x = 0 → vW E base bA nL p l e R s m args below meth c cells slots Q L V (pc + 3) lv st) : vW E base bA nL p l e R s m args below meth c cells slots Q L V pc lv (tI x :: st) :=
  fun H locs ls h1 h2 h3 => lv_if_ne C.1 C.2.1 hd ht (fun q => kt q H locs ls h1 h2 h3) (fun q => kf q H locs ls h1 h2 h3)
theorem r_icmp_ne (C : gC E bA p s m args meth c cc own nL) {x y : Int32} {off : Int} (tgt : Nat) (hd : decode cc pc = .ok (.if_icmp .ne off, 3)) (ht : (pc : Int) + off = (tgt : Int)) (kt : ¬ x = y → vW E base bA nL p l e R s m args below meth c cells slots Q L V tgt lv st) (kf : x = y → vW E base bA nL p l e R s m args below meth c cells slots Q L V (pc + 3) lv st) : vW E base bA nL p l e R s m args below meth c cells slots Q L V pc lv (tI y :: tI x :: st) :=
  fun H locs ls h1 h2 h3 => lv_icmp_ne C.1 C.2.1 hd ht (fun q => kt q H locs ls h1 h2 h3) (fun q => kf q H locs ls h1 h2 h3)
theorem r_if_lt (C : gC E bA p s m args meth c cc own nL) {x : Int32} {off : Int} (tgt : Nat) (hd : decode cc pc = .ok (.ifCond .lt off, 3)) (ht : (pc : Int) + off = (tgt : Int)) (kt : x < 0 → vW E base bA nL p l e R s m args below meth c cells slots Q L V tgt lv st) (kf : ¬ x < 0 → vW E base bA nL p l e R s m args below meth c cells slots Q L V (pc + 3) lv st) : vW E base bA nL p l e R s m args below meth c cells slots Q L V pc lv (tI x :: st) :=
  fun H locs ls h1 h2 h3 => lv_if_lt C.1 C.2.1 hd ht (fun q => kt q H locs ls h1 h2 h3) (fun q => kf q H locs ls h1 h2 h3)
theorem r_icmp_lt (C : gC E bA p s m args meth c cc own nL) {x y : Int32} {off : Int} (tgt : Nat) (hd : decode cc pc = .ok (.if_icmp .lt off, 3)) (ht : (pc : Int) + off = (tgt : Int)) (kt : x < y → vW E base bA nL p l e R s m args below meth c cells slots Q L V tgt lv st) (kf : ¬ x < y → vW E base bA nL p l e R s m args below meth c cells slots Q L V (pc + 3) lv st) : vW E base bA nL p l e R s m args below meth c cells slots Q L V pc lv (tI y :: tI x :: st) :=
  fun H locs ls h1 h2 h3 => lv_icmp_lt C.1 C.2.1 hd ht (fun q => kt q H locs ls h1 h2 h3) (fun q => kf q H locs ls h1 h2 h3)
theorem r_if_ge (C : gC E bA p s m args meth c cc own nL) {x : Int32} {off : Int} (tgt : Nat) (hd : decode cc pc = .ok (.ifCond .ge off, 3)) (ht : (pc : Int) + off = (tgt : Int)) (kt : 0 ≤ x → vW E base bA nL p l e R s m args below meth c cells slots Q L V tgt lv st) (kf : ¬ 0 ≤ x → vW E base bA nL p l e R s m args below meth c cells slots Q L V (pc + 3) lv st) : vW E base bA nL p l e R s m args below meth c cells slots Q L V pc lv (tI x :: st) :=
  fun H locs ls h1 h2 h3 => lv_if_ge C.1 C.2.1 hd ht (fun q => kt q H locs ls h1 h2 h3) (fun q => kf q H locs ls h1 h2 h3)
theorem r_icmp_ge (C : gC E bA p s m args meth c cc own nL) {x y : Int32} {off : Int} (tgt : Nat) (hd : decode cc pc = .ok (.if_icmp .ge off, 3)) (ht : (pc : Int) + off = (tgt : Int)) (kt : y ≤ x → vW E base bA nL p l e R s m args below meth c cells slots Q L V tgt lv st) (kf : ¬ y ≤ x → vW E base bA nL p l e R s m args below meth c cells slots Q L V (pc + 3) lv st) : vW E base bA nL p l e R s m args below meth c cells slots Q L V pc lv (tI y :: tI x :: st) :=
  fun H locs ls h1 h2 h3 => lv_icmp_ge C.1 C.2.1 hd ht (fun q => kt q H locs ls h1 h2 h3) (fun q => kf q H locs ls h1 h2 h3)
theorem r_if_gt (C : gC E bA p s m args meth c cc own nL) {x : Int32} {off : Int} (tgt : Nat) (hd : decode cc pc = .ok (.ifCond .gt off, 3)) (ht : (pc : Int) + off = (tgt : Int)) (kt : 0 < x → vW E base bA nL p l e R s m args below meth c cells slots Q L V tgt lv st) (kf : ¬ 0 < x → vW E base bA nL p l e R s m args below meth c cells slots Q L V (pc + 3) lv st) : vW E base bA nL p l e R s m args below meth c cells slots Q L V pc lv (tI x :: st) :=
  fun H locs ls h1 h2 h3 => lv_if_gt C.1 C.2.1 hd ht (fun q => kt q H locs ls h1 h2 h3) (fun q => kf q H locs ls h1 h2 h3)
theorem r_icmp_gt (C : gC E bA p s m args meth c cc own nL) {x y : Int32} {off : Int} (tgt : Nat) (hd : decode cc pc = .ok (.if_icmp .gt off, 3)) (ht : (pc : Int) + off = (tgt : Int)) (kt : y < x → vW E base bA nL p l e R s m args below meth c cells slots Q L V tgt lv st) (kf : ¬ y < x → vW E base bA nL p l e R s m args below meth c cells slots Q L V (pc + 3) lv st) : vW E base bA nL p l e R s m args below meth c cells slots Q L V pc lv (tI y :: tI x :: st) :=
  fun H locs ls h1 h2 h3 => lv_icmp_gt C.1 C.2.1 hd ht (fun q => kt q H locs ls h1 h2 h3) (fun q => kf q H locs ls h1 h2 h3)
theorem r_if_le (C : gC E bA p s m args meth c cc own nL) {x : Int32} {off : Int} (tgt : Nat) (hd : decode cc pc = .ok (.ifCond .le off, 3)) (ht : (pc : Int) + off = (tgt : Int)) (kt : x ≤ 0 → vW E base bA nL p l e R s m args below meth c cells slots Q L V tgt lv st) (kf : ¬ x ≤ 0 → vW E base bA nL p l e R s m args below meth c cells slots Q L V (pc + 3) lv st) : vW E base bA nL p l e R s m args below meth c cells slots Q L V pc lv (tI x :: st) :=
  fun H locs ls h1 h2 h3 => lv_if_le C.1 C.2.1 hd ht (fun q => kt q H locs ls h1 h2 h3) (fun q => kf q H locs ls h1 h2 h3)
theorem r_icmp_le (C : gC E bA p s m args meth c cc own nL) {x y : Int32} {off : Int} (tgt : Nat) (hd : decode cc pc = .ok (.if_icmp .le off, 3)) (ht : (pc : Int) + off = (tgt : Int)) (kt : x ≤ y → vW E base bA nL p l e R s m args below meth c cells slots Q L V tgt lv st) (kf : ¬ x ≤ y → vW E base bA nL p l e R s m args below meth c cells slots Q L V (pc + 3) lv st) : vW E base bA nL p l e R s m args below meth c cells slots Q L V pc lv (tI y :: tI x :: st) :=
  fun H locs ls h1 h2 h3 => lv_icmp_le C.1 C.2.1 hd ht (fun q => kt q H locs ls h1 h2 h3) (fun q => kf q H locs ls h1 h2 h3)
theorem r_goto (C : gC E bA p s m args meth c cc own nL) {off : Int} (tgt : Nat) (hd : decode cc pc = .ok (.goto off, 3)) (ht : (pc : Int) + off = (tgt : Int)) (k : vW E base bA nL p l e R s m args below meth c cells slots Q L V tgt lv st) : vW E base bA nL p l e R s m args below meth c cells slots Q L V pc lv st :=
  fun H locs ls h1 h2 h3 => lv_goto C.1 C.2.1 hd ht (k H locs ls h1 h2 h3)
theorem r_ifnull_f (C : gC E bA p s m args meth c cc own nL) {x : Nat} {off : Int} (hd : decode cc pc = .ok (.ifnull off, 3)) (k : vW E base bA nL p l e R s m args below meth c cells slots Q L V (pc + 3) lv st) : vW E base bA nL p l e R s m args below meth c cells slots Q L V pc lv (tR (some x) :: st) :=
  fun H locs ls h1 h2 h3 => lv_ifnull C.1 C.2.1 hd (k H locs ls h1 h2 h3)
theorem r_ifnull_t (C : gC E bA p s m args meth c cc own nL) {off : Int} (tgt : Nat) (hd : decode cc pc = .ok (.ifnull off, 3)) (ht : (pc : Int) + off = (tgt : Int)) (k : vW E base bA nL p l e R s m args below meth c cells slots Q L V tgt lv st) : vW E base bA nL p l e R s m args below meth c cells slots Q L V pc lv (tR none :: st) :=
  fun H locs ls h1 h2 h3 => lv_ifnullN C.1 C.2.1 hd ht (k H locs ls h1 h2 h3)
theorem r_ifnonnull_t (C : gC E bA p s m args meth c cc own nL) {x : Nat} {off : Int} (tgt : Nat) (hd : decode cc pc = .ok (.ifnonnull off, 3)) (ht : (pc : Int) + off = (tgt : Int)) (k : vW E base bA nL p l e R s m args below meth c cells slots Q L V tgt lv st) : vW E base bA nL p l e R s m args below meth c cells slots Q L V pc lv (tR (some x) :: st) :=
  fun H locs ls h1 h2 h3 => lv_ifnonnull C.1 C.2.1 hd ht (k H locs ls h1 h2 h3)
theorem r_ifnonnull_f (C : gC E bA p s m args meth c cc own nL) {off : Int} (hd : decode cc pc = .ok (.ifnonnull off, 3)) (k : vW E base bA nL p l e R s m args below meth c cells slots Q L V (pc + 3) lv st) : vW E base bA nL p l e R s m args below meth c cells slots Q L V pc lv (tR none :: st) :=
  fun H locs ls h1 h2 h3 => lv_ifnonnullN C.1 C.2.1 hd (k H locs ls h1 h2 h3)
theorem r_lv (ks : List Nat) (hl : ks.filterMap (fun k => lv[k]?) = lv') (k : vW E base bA nL p l e R s m args below meth c cells slots Q L V pc lv' st) : vW E base bA nL p l e R s m args below meth c cells slots Q L V pc lv st := by
  intro H locs ls h1 h2 h3
  refine k H locs ls h1 h2 ⟨h3.1, h3.2.1, fun q hq => ?_⟩
  obtain ⟨w, hw, rfl⟩ := List.mem_map.mp hq
  rw [← hl] at hw
  obtain ⟨j, -, hj⟩ := List.mem_filterMap.mp hw
  exact h3.2.2 _ (List.mem_map.mpr ⟨w, List.mem_of_getElem? hj, rfl⟩)
theorem r_wid {k n : Nat} (h1 : cells ≤ k) (h2 : slots ≤ n) (kk : vW E base bA nL p l e R s m args below meth c k n Q L V pc lv st) : vW E base bA nL p l e R s m args below meth c cells slots Q L V pc lv st :=
  fun H locs ls g1 g2 g3 => W.widen h1 h2 (kk H locs ls g1 g2 g3)
end GR
