/-! THROWS 2: what a throw needs of the machine; the throw's row; a method that throws; a call that throws, caught -/
def g_up : List String := ["java/lang/RuntimeException", "java/lang/Exception"]
def g_X : Nat → String := fun k => match k with
  | 0 => "java/lang/IllegalArgumentException"
  | 1 => "java/lang/IllegalStateException"
  | _ => "java/lang/ArithmeticException"
def g_Sk : Nat → Nat := fun k => match k with
  | 0 => 103
  | 1 => 120
  | _ => 142
def g_St : Nat → String := fun k => match k with
  | 0 => "no such step or part"
  | 1 => "the step has no output"
  | _ => "no step was done"
def g_nw : List Cond := [.castable (g_X 0) (g_X 0), .castable (g_X 1) (g_X 1), .castable (g_X 2) (g_X 2), .declares (Bundle.initS "java/lang/RuntimeException"), .declares (Bundle.initS "java/lang/Exception"), .declares (Bundle.initS Bundle.tN)]
theorem g_nw_ok : ∀ w ∈ g_nw, w.onTables = true ∧ w.keepsFace = true := by decide +kernel
def g_bad : List Cond := [.laysStatic Bundle.tN "UNASSIGNED_STACK" Bundle.steD, .laysStatic Bundle.tN "SUPPRESSED_SENTINEL" Bundle.listD, .isRef (.static Bundle.tN "UNASSIGNED_STACK" Bundle.steD), .isRef (.static Bundle.tN "SUPPRESSED_SENTINEL" Bundle.listD)]
def g_own (k ic : Nat) : Prop := (Bundle.ownAtoms R_A ic (g_X k) g_up).all (fun w => decide (w ∈ g_tb) || (decide (w ∈ g_nw) || decide (w ∈ g_bad))) = true
theorem g_own0 : g_own 0 105 := by unfold g_own; decide +kernel
theorem g_own1 : g_own 1 122 := by unfold g_own; decide +kernel
theorem g_own2 : g_own 2 144 := by unfold g_own; decide +kernel
def g_Z (base : Nat) (n d : String) (U : State) (H : Heap) : Prop := ∃ (c : ClassId) (k : Class) (i : Nat) (f : Field) (a : Nat) (cell : Cell) (v : Value), U.vm.findClass Bundle.tN = some c ∧ U.fieldFound? Bundle.tN n d = some (c, k, i, f) ∧ f.isStatic = true ∧ k.statics = some a ∧ H[a]? = some cell ∧ cell.vm.isStatics = true ∧ cell.cls = c ∧ f.slot < cell.slots.size ∧ k.staticTypes[f.slot]? = some f.type ∧ a < base ∧ cell.slots[f.slot]? = some v ∧ v.isRef = true
theorem g_Z.move {base : Nat} {n d : String} {u U : State} {H H1 : Heap} (hvm : u.vm.Alike U.vm) (hq : ∀ a : Nat, a < base → H1[a]? = H[a]?) (h : g_Z base n d u H) : g_Z base n d U H1 := by
  obtain ⟨c, k, i, f, a, cell, v, h1, h2, h3, h4, h5, h6, h7, h8, h9, h10, h11⟩ := h
  obtain ⟨k', hi', he⟩ := State.fieldFound?_setVm hvm h2
  exact ⟨c, k', i, f, a, cell, v, by rw [hvm.findClass]; exact h1, hi', h3, by rw [he]; exact h4, by rw [hq a h10]; exact h5, h6, h7, h8, by rw [he]; exact h9, h10, h11⟩
theorem g_Z.lay {base : Nat} {n d : String} {U : State} {A : Array Value} (h : g_Z base n d U U.heap) : (Cond.laysStatic Bundle.tN n d).before A U = true := by
  obtain ⟨c, k, i, f, a, cell, v, h1, h2, h3, h4, h5, h6, h7, h8, h9, h10, h11⟩ := h
  exact Cond.laysStatic_of h1 h2 h3 h4 h5 h6 h7 h8 h9
theorem g_Z.ref {base : Nat} {n d : String} {U : State} {A : Array Value} (h : g_Z base n d U U.heap) : (Cond.isRef (.static Bundle.tN n d)).before A U = true := by
  obtain ⟨c, k, i, f, a, cell, v, h1, h2, h3, h4, h5, h6, h7, h8, h9, h10, h11, h12⟩ := h
  have hev : (Term.static Bundle.tN n d).eval A U none [] U = some v := Term.static_eval h2 h3 h4 h5 h6 h11
  simp only [Cond.before, Cond.holds, Cond.value, hev]
  cases v <;> simp_all [Value.isRef]
def g_T (sa : Nat → Nat) (base : Nat) (U : State) : Prop := g_Z base "UNASSIGNED_STACK" Bundle.steD U U.heap ∧ g_Z base "SUPPRESSED_SENTINEL" Bundle.listD U U.heap ∧ ((∀ w ∈ g_nw, va_Nw w U) ∧ ∀ k, k < 3 → vk_R R_A (g_Sk k) (g_St k) (sa k) U) ∧ ∀ c1 c0 : ClassId, U.vm.findClass (g_X 1) = some c1 → U.vm.findClass (g_X 0) = some c0 → U.vm.assignable c1 c0 = false
theorem g_T.move {sa : Nat → Nat} {base : Nat} {s U : State} (hW : s.WarmedH U.vm) (hq : ∀ a : Nat, a < base → U.heap[a]? = s.heap[a]?) (h : g_T sa base s) : g_T sa base U := by
  refine ⟨h.1.move hW.alike hq, h.2.1.move hW.alike hq, ⟨fun w hw => ?_, fun k hk => vk_R.warm hW (h.2.2.1.2 k hk)⟩, fun c1 c0 h1 h0 => ?_⟩
  · have h1 : w.before #[] (s.setVm U.vm) = true := Cond.before_shiftedFace (State.Shifted.of_warmed hW) _ (g_nw_ok w hw).2 (h.2.2.1.1 w hw)
    exact va_tabs (g_nw_ok w hw).1 (rfl : (s.setVm U.vm).vm = U.vm) h1
  · rw [hW.alike.assignable]
    rw [hW.alike.findClass] at h1 h0
    exact h.2.2.2 c1 c0 h1 h0
theorem g_T.same {sa : Nat → Nat} {base : Nat} {s U : State} (hv : s.vm = U.vm) (hh : s.heap = U.heap) (h : g_T sa base s) : g_T sa base U := by
  have ha : s.vm.Alike U.vm := by rw [hv]; exact Vm.Alike.refl U.vm
  refine ⟨h.1.move ha (fun a _ => by rw [hh]), h.2.1.move ha (fun a _ => by rw [hh]), ⟨fun w hw => va_Nw.same (g_nw_ok w hw).1 hv (h.2.2.1.1 w hw), fun k hk => vk_R.same hv.symm (h.2.2.1.2 k hk)⟩, fun c1 c0 h1 h0 => ?_⟩
  rw [← hv] at h1 h0 ⊢
  exact h.2.2.2 c1 c0 h1 h0
theorem g_T.atoms {sa : Nat → Nat} {base : Nat} {s : State} {args : Array Value} (hts : ∀ w ∈ g_tb, w.before args s = true) (hT : g_T sa base s) {k ic : Nat} (hk : k < 3) (h : g_own k ic) : ∀ w ∈ Bundle.ownAtoms R_A ic (g_X k) g_up, w.before args s = true := by
  intro w hw
  have h1 := List.all_eq_true.mp h w hw
  simp only [Bool.or_eq_true, decide_eq_true_eq] at h1
  rcases h1 with h1 | h1 | h1
  · exact hts w h1
  · exact va_Nw.use (g_nw_ok w h1).1 (hT.2.2.1.1 w h1)
  · simp only [g_bad, List.mem_cons, List.not_mem_nil, or_false] at h1
    rcases h1 with rfl | rfl | rfl | rfl
    · exact hT.1.lay
    · exact hT.2.1.lay
    · exact hT.1.ref
    · exact hT.2.1.ref
abbrev xQ (below : List Frame) (args : Array Value) (s : State) (Xn : String) (k n : Nat) : State → Prop := fun t => ∃ o, t.status = .running ∧ Ended t below o ∧ xT Xn k n args s o t
section XR
variable {E : gE} {base bA nL : Nat} {p : Program} {l : Launch} {e : Env} {R : Room} {s : State} {m : MethodId} {args : Array Value} {below : List Frame} {meth : Method} {c : Code} {cells slots : Nat} {Q : State → Prop} {cc : ByteArray} {own : String} {L : gL} {V : gV} {pc : Nat} {lv lv' : List (Nat × gT)} {st : List gT} {sa : Nat → Nat}
theorem r_throw (hfl : l.flags = flags0) (C : gC E bA p s m args meth c cc R_A nL) (hT : g_T sa base s) (hnh : c.exceptionTable.isEmpty = true) (hbs : bA = s.heap.size) (k : Nat) (hk : k < 3) {i1 i3 : Nat} (hf1 : Bundle.fit (g_X k) = true) (w1 : Cond.classLink R_A i1 (g_X k) ∈ g_tb) (w2 : Cond.instantiable (g_X k) 6 ∈ g_tb) (w3 : Cond.initialized (g_X k) ∈ g_tb) (hat : g_own k i3) (hd0 : decode cc pc = .ok (.new i1, 3)) (hd1 : decode cc (pc + 3) = .ok (.dup, 1)) (hd2 : decode cc (pc + 3 + 1) = .ok (.ldc (g_Sk k), 2)) (hd3 : decode cc (pc + 3 + 1 + 2) = .ok (.invokespecial i3, 3)) (hd4 : decode cc (pc + 3 + 1 + 2 + 3) = .ok (.athrow, 1)) (hcl : 1 ≤ R.cells) (hsl : 6 ≤ R.slots) (hfr : 5 < R.frames) (hlo : 82 ≤ R.locals) (hLs : L.1 = s.heap.size) : vW E base bA nL p l e R s m args below meth c 0 0 (xQ below args s (g_X k) 1 6) L V pc lv [] := by
  intro H locs ls h1 h2 h3
  obtain ⟨hx, hb, hml, hown, hts, hK, hbs', hlk⟩ := C
  refine W.newc hx hb hown (hts _ w1) (hts _ w2) (hts _ w3) rfl hd0 (by omega) (by omega) fun cX kX f1 f2 f3 f4 => ?_
  refine lv_dup (m := m) (pc := pc + 3) (ls := ls) (va := .ref H.size) (rest := []) hx hb hd1 rfl ?_
  refine va_ldcS (m := m) (pc := pc + 3 + 1) (ls := ls) (rest := [.ref H.size, .ref H.size]) hx hb hown (hT.2.2.1.2 k hk) hd2 ?_
  intro T hT0 X
  have X' := Stand.forget (locs := []) X (fun q hq => by have h9 := h2.2.2 q hq; rw [← hbs]; exact h9)
  have htr : e.platform.stackTraces = false := Launch.traces_off hfl X'.admits
  have hz : H.size = s.heap.size := h1.1.trans hLs
  have hcell : T.heap[H.size]? = some (freshCell cX kX) := by rw [hT0]; simp [freshCell]
  obtain ⟨U, hsteps, hrun, hend, hW, hsame, ce, hce, K⟩ := X'.ctorThrowS hx htr (own := R_A) (cls := g_X k) (names := g_up) (ic := i3) hown hf1 (by decide +kernel) (hT.atoms hts hk hat) (fun y hy => by cases hy) f1 f2 hcell (by omega) (msg := .ref (sa k)) rfl
    (g := F0 m (pc + 3 + 1 + 2) ls [.ref (sa k), .ref H.size, .ref H.size]) rfl (by rw [hml]; exact h3.1) rfl rfl (rest := []) rfl (by rw [hb]; exact hd3) (by rw [hb]; exact hd4) (covers_of_empty hnh _) (by show 2 + 3 < R.frames; omega) (by show 2 * 0 + 1 + (13 * (2 + 1) + 42) ≤ R.locals; omega) hlk
  exact ⟨U, hsteps, .threw H.size, hrun, hend, H.size, ce, rfl, hz, hce, K.vm, K.cls, hW, hsame.mono (by omega) (by omega)⟩
def g_MetT (l : Launch) (E : gE) (base : Nat) (sa : Nat → Nat) (y : MethodName) (b : ByteArray) (mL : Nat) (ret : Option FieldType) (rm : Room) (as : List gT) (L : gL) (V : gV) (Xn : String) : Prop :=
  MetFree l y (headSpec (g_w y b mL ret) rm) (va_Pc (as.map g_val) (fun U => g_in E base L.1 L V U ∧ g_T sa base U)) (fun _ _ _ _ _ => True) (xT Xn rm.cells rm.slots)
theorem r_enterT {y : MethodName} {b : ByteArray} {mL : Nat} {ret : Option FieldType} {rm : Room} {Xn : String} (own : String) (hy : plainName y.cls = true) (hown : y.cls = own) (as : List gT) (lv : List (Nat × gT)) (hlv : g_args 0 as = lv) (hln : (as.map g_c).sum ≤ mL)
    (body : ∀ (p : Program) (e : Env) (s : State) (m : MethodId) (args : Array Value) (below : List Frame) (meth : Method) (c : Code), gC E L.1 p s m args meth c b own mL → meth.sig.returnType = ret → g_T sa base s → c.exceptionTable.isEmpty = true → L.1 = s.heap.size → vW E base L.1 mL p l e rm s m args below meth c 0 0 (xQ below args s Xn rm.cells rm.slots) L V 0 lv []) : g_MetT l E base sa y b mL ret rm as L V Xn := by
  refine MetFree.of_bodyS (code := b) (maxLocals := mL) (ret := ret) hy ?_ ?_
  · intro args s m h hn
    obtain ⟨meth, c, h1, h2, h3, h4, h5, h6, -, -⟩ := Cond.code_spec hn (atoms_spec (ws := g_w y b mL ret) h _ List.mem_cons_self)
    exact ⟨meth, c, h1, h2, h3, h4, h5, h6⟩
  · intro p e s m args below meth c s₁ B hml hv _
    obtain ⟨rfl, ⟨hP, hK, hbs⟩, hT⟩ := hv
    have hts := atoms_spec (ws := g_w y b mL ret) B.pre
    have hnm : s.vm.findClass y.cls = some m.cls := findClass_of_methodNamed B.named
    have hnh : c.exceptionTable.isEmpty = true := B.noHandlers (hts _ List.mem_cons_self)
    have hl := lv_entry (as.map g_val) (n := mL) (by rw [g_sl_eq]; exact hln)
    rw [g_args_eq, hlv] at hl
    have hh0 : s₁.heap = s.heap := by rw [B.state]; rfl
    have hw := body p e s m _ below meth c ⟨B.exec, B.bytes, hml, by rw [← hown]; exact hnm, fun w hw => hts w (List.mem_cons_of_mem _ hw), hK, hbs, B.notSynchronized⟩ B.returns hT hnh hP.1.symm s.heap [] _ hP va_S.rf hl
    rw [lg_entry_eq]
    obtain ⟨t, a1, o, b1, b2, b3⟩ := hw s₁ hh0 (Stand.of_body B)
    exact ⟨t, o, a1, b1, b2, b3⟩
theorem g_blindT {as : List Value} {L : gL} {V : gV} : FrameBlind (va_Pc as (fun U => g_in E base bA L V U ∧ g_T sa base U)) :=
  fun a U g mk q => ⟨q.1, ⟨q.2.1.1, g_K.same (s := U) (U := U.calling g mk a) rfl q.2.1.2.1, q.2.1.2.2⟩, g_T.same (s := U) (U := U.calling g mk a) rfl rfl q.2.2⟩
end XR
