/-! THROWS 1: the search through a table of handlers, cold; a call that throws and is caught in the caller -/
section XT
variable {e : Env} {f : JFrame} {a : Addr}
theorem x_row {Q : Handler → Pre} {E : CtlPost} {d : Bool} {acts : List Action} {S : State} {y : ExceptionTableEntry} {t : List ExceptionTableEntry} {c : ClassId} {cell : Cell} {hit : Bool} (hx : covers y f.pc = true) (h0 : y.catchType ≠ 0) (hl : S.vm.ClassLinks e.platform f.method.cls y.catchType c) (hcell : S.heap[a]? = some cell) (hobj : ∀ k, cell.vm ≠ .statics k) (hk : ∃ k, S.vm.classes[cell.cls]? = some k) (hc : ∃ k, S.vm.classes[c]? = some k) (hfit : S.vm.assignable cell.cls c = hit) :
    wp (findHandler.go f a (y :: t)) Q E e d acts S ↔ if hit = true then Q (.found y.handlerPc) d acts (S.setVm (S.vm.noted f.method.cls y.catchType (.cls c))) else wp (findHandler.go f a t) Q E e d acts (S.setVm (S.vm.noted f.method.cls y.catchType (.cls c))) := by
  simp only [covers] at hx
  obtain ⟨ha, ht⟩ := (resolveClass_links e.toSetting hl).op (op := VmOp.resolveClass f.method.cls y.catchType) rfl
  have hal : S.vm.Alike (S.vm.noted f.method.cls y.catchType (.cls c)) := (Vm.Alike.refl S.vm).noted _ _ _
  obtain ⟨k1, hk1⟩ := hk
  obtain ⟨k2, hk2⟩ := hc
  obtain ⟨k1', hk1', -⟩ := hal.2.2 _ _ hk1
  obtain ⟨k2', hk2', -⟩ := hal.2.2 _ _ hk2
  have hfit' : (S.vm.noted f.method.cls y.catchType (.cls c)).assignable cell.cls c = hit := by rw [hal.assignable]; exact hfit
  cases hit <;> simp [findHandler.go, hx, h0, ha, ht, hcell, hobj, hk1', hk2', hfit', VmOp.dirties, VmOp.acts]
def xR (s0 : State) (pl : Platform) (d : ClassId) (pc : Nat) (thrown : ClassId) (hit : Bool) (y : ExceptionTableEntry) : Prop := covers y pc = true ∧ y.catchType ≠ 0 ∧ ∃ c, s0.vm.ClassLinks pl d y.catchType c ∧ s0.vm.assignable thrown c = hit
theorem x_one {s0 S : State} {cell : Cell} {y : ExceptionTableEntry} {hit : Bool} (t : List ExceptionTableEntry) (hW : s0.WarmedH S.vm) (hcell : S.heap[a]? = some cell) (hobj : ∀ k, cell.vm ≠ .statics k) (hk0 : ∃ k, s0.vm.classes[cell.cls]? = some k) (h : xR s0 e.platform f.method.cls f.pc cell.cls hit y) :
    ∃ vm', s0.WarmedH vm' ∧ ∀ (Q : Handler → Pre) (E : CtlPost) (d : Bool) (acts : List Action), wp (findHandler.go f a (y :: t)) Q E e d acts S ↔ if hit = true then Q (.found y.handlerPc) d acts (S.setVm vm') else wp (findHandler.go f a t) Q E e d acts (S.setVm vm') := by
  obtain ⟨hx, h0, c, hl, hfit⟩ := h
  obtain ⟨k0, hk0⟩ := hk0
  obtain ⟨k0', hk0', -⟩ := hW.alike.2.2 _ _ hk0
  obtain ⟨dk, _, _, kt, hd, _, _, _, _, hkt, _, hopen⟩ := hl.here
  obtain ⟨kt', hkt', -⟩ := hW.alike.2.2 _ _ hkt
  exact ⟨_, hW.noted hd hopen (State.rightAt_cls hl), fun Q E d acts => x_row hx h0 (hW.classLinks hl) hcell hobj ⟨k0', hk0'⟩ ⟨kt', hkt'⟩ (by rw [hW.alike.assignable]; exact hfit)⟩
def xF (e : Env) (s : State) (f : JFrame) (a : Addr) (pc : Nat) (vm' : Vm) : Prop := ∀ (Q : Handler → Pre) (E : CtlPost) (d : Bool) (acts : List Action), wp (findHandler f a) Q E e d acts s ↔ Q (.found pc) d acts (s.setVm vm')
theorem x_first {s0 S : State} {cell : Cell} {y : ExceptionTableEntry} {t : List ExceptionTableEntry} {meth : Method} {code : Code} (hm : S.vm.method? f.method = some meth) (hc : meth.code = some code) (hs : code.exceptionTable.toList = y :: t) (hW : s0.WarmedH S.vm) (hcell : S.heap[a]? = some cell) (hobj : ∀ k, cell.vm ≠ .statics k) (hk0 : ∃ k, s0.vm.classes[cell.cls]? = some k) (h : xR s0 e.platform f.method.cls f.pc cell.cls true y) : ∃ vm', s0.WarmedH vm' ∧ xF e S f a y.handlerPc vm' := by
  obtain ⟨vm', hW', hq⟩ := x_one (e := e) (f := f) (a := a) t hW hcell hobj hk0 h
  exact ⟨vm', hW', fun Q E d acts => by rw [W.findHandler_eq hm hc, hs, hq]; simp⟩
theorem x_second {s0 S : State} {cell : Cell} {y y2 : ExceptionTableEntry} {t : List ExceptionTableEntry} {meth : Method} {code : Code} (hm : S.vm.method? f.method = some meth) (hc : meth.code = some code) (hs : code.exceptionTable.toList = y :: y2 :: t) (hW : s0.WarmedH S.vm) (hcell : S.heap[a]? = some cell) (hobj : ∀ k, cell.vm ≠ .statics k) (hk0 : ∃ k, s0.vm.classes[cell.cls]? = some k) (h : xR s0 e.platform f.method.cls f.pc cell.cls false y) (h2 : xR s0 e.platform f.method.cls f.pc cell.cls true y2) : ∃ vm', s0.WarmedH vm' ∧ xF e S f a y2.handlerPc vm' := by
  obtain ⟨vm1, hW1, hq1⟩ := x_one (e := e) (f := f) (a := a) (y2 :: t) hW hcell hobj hk0 h
  obtain ⟨vm2, hW2, hq2⟩ := x_one (e := e) (f := f) (a := a) (S := S.setVm vm1) t hW1 hcell hobj hk0 h2
  refine ⟨vm2, hW2, fun Q E d acts => ?_⟩
  rw [W.findHandler_eq hm hc, hs, hq1]
  simp only [Bool.false_eq_true, if_false]
  rw [hq2]
  simp only [if_true]
  rfl
theorem x_throwing {s : State} {r : List Frame} {pc : Nat} {vm' : Vm} (hfind : xF e s f a pc vm') : (stepThrowing e s a (.java f :: r)).Is ((s.setVm vm').setFrames (.java { f with pc := pc, stack := [.ref a] } :: r)) [] := by
  simp only [stepThrowing, searchFrame, vmDo]
  generalize hr : Sem.go _ e false [] s = res
  obtain ⟨as, rfl, ha⟩ := Sem.eq_ok_of hr (a := Handler.found pc) (s' := s.setVm vm') (acts' := []) (by simp [hfind _ _ _ _])
  exact ⟨rfl, ha⟩
theorem x_frames (u : State) (vm' : Vm) (F G : List Frame) : ((u.setFrames F).setVm vm').setFrames G = (u.setVm vm').setFrames G := by
  have h1 : (u.setFrames F).setVm vm' = (u.setVm vm').setFrames F := rfl
  rw [h1, State.setFrames_setFrames]
end XT
theorem x_same {s s' : State} {k n : Nat} (h : s.sameButNew s' [] k n) : ∀ q : Nat, q < s.heap.size → s'.heap[q]? = s.heap[q]? := by
  intro q hq
  have hc : s.heap[q]? = some s.heap[q] := Array.getElem?_eq_getElem hq
  obtain ⟨c', h1, h2, h3, h4⟩ := h.2.2.2.2.2 q _ hc
  have h5 : c'.slots = (s.heap[q]).slots := Array.ext_getElem? fun i => h4 i (by simp)
  rw [h1, hc, h2, h5]
section XC
variable {p : Program} {l : Launch} {e : Env} {R : Room} {s : State} {m : MethodId} {args : Array Value} {below : List Frame} {meth : Method} {c : Code} {T : State} {locs : List Loc} {cells slots : Nat}
theorem x_caught (X : Stand p l e R s m args below meth c T locs cells slots) (a : Addr) {g : JFrame} (hg : g.method = m) {pc : Nat} {vm' : Vm} (hW : s.WarmedH vm') (hfind : xF e ((T.setTop g).pushFrame (.throwing a)) g a pc vm') :
    Stand p l e R s m args below meth c (T.setVm vm') locs cells slots ∧ ∀ target, Steps p.tables e below ((T.setVm vm').setTop { g with pc := pc, stack := [.ref a] }) target → Steps p.tables e below ((T.setTop g).pushFrame (.throwing a)) target := by
  refine ⟨X.noted hW, fun target hrest => ?_⟩
  subst hg
  have h := X.here
  obtain ⟨hgo, hw⟩ := h.throwing a
  refine Steps.head hgo hw ?_
  rw [stepThread_throwing (frames_entered h.top _), (x_throwing (s := (T.setTop g).pushFrame (.throwing a)) hfind).1]
  obtain ⟨g₀, hg⟩ := Option.isSome_iff_exists.mp h.top
  obtain ⟨r, hr⟩ := State.topJava?_eq_some.mp hg
  have hr' : (T.setVm vm').frames = .java g₀ :: r := hr
  rw [State.setTop_of_frames _ hr'] at hrest
  rw [hr, List.tail_cons, State.pushFrame, x_frames, State.setTop_of_frames _ hr, x_frames]
  exact hrest
/-- what a method that throws comes to -/
def xT (X : String) (k n : Nat) : Array Value → State → Outcome → State → Prop := fun _ st oc t => ∃ (a : Addr) (ce : Cell), oc = .threw a ∧ a = st.heap.size ∧ t.heap[a]? = some ce ∧ ce.vm = .none ∧ st.vm.findClass X = some ce.cls ∧ st.WarmedH t.vm ∧ st.sameButNew ({ t with vm := st.vm } : State) [] k n
theorem x_call (X : Stand p l e R s m args below meth c T locs cells slots) (hexec : p.tables.exec = Jvm.exec) {own C Xn : String} {index : Nat} {y : MethodName} {bytes : ByteArray} {maxL : Nat} {ret : Option FieldType} {ws : List Cond} {rm : Room} {Pc : Array Value → State → Prop}
    (hM : MetFree l y (headSpec ws rm) Pc (fun _ _ _ _ _ => True) (xT Xn rm.cells rm.slots)) (hbl : FrameBlind Pc)
    (hws : ∀ w ∈ ws, ∀ (a' : Array Value) (U : State), s.WarmedH U.vm → w.before a' U = true) (hini : (Cond.initialized y.cls).before args s = true)
    (hR : rm.frames + 1 ≤ R.frames ∧ 8 + (maxL + 11) + rm.locals ≤ R.locals)
    (hown : s.vm.findClass own = some m.cls) (hlink : (Cond.methodLink own index y).before args s = true) (hinst : (Cond.instanceMethod y).before args s = true) (hsel : (Cond.selects C y y).before args s = true)
    (hcode : (Cond.code y bytes maxL ret).before args s = true) (hy : y.cls ≠ "java/lang/invoke/MethodHandle" ∧ y.cls ≠ "java/lang/invoke/VarHandle")
    {b : Addr} {cellB : Cell} (hcell : T.heap[b]? = some cellB) (hobj : cellB.vm.isStatics = false) (hcls : s.vm.findClass C = some cellB.cls)
    {g : JFrame} (hg : g.method = m) (hsize : g.locals.size = c.maxLocals) {argsL rest : List Value} (hlen : ∀ sig, parseMethodDescriptor y.desc = some sig → argsL.length = sig.parameters.length)
    (hstack : g.stack = argsL.reverse ++ .ref b :: rest) (hW : 2 * g.monitorRoom + (rest.map fun v => v.category).sum ≤ 8) (hdg : decode c.code g.pc = .ok (.invokevirtual index, 3))
    (hcs : cells + rm.cells ≤ R.cells) (hsl : slots + rm.slots ≤ R.slots) (hpre : ∀ vm₁, s.WarmedH vm₁ → Pc (Value.ref b :: argsL).toArray (T.setVm vm₁)) :
    ∃ (a : Addr) (ce : Cell) (T' : State), Stand p l e R s m args below meth c T' locs (cells + rm.cells) (slots + rm.slots) ∧ a = T.heap.size ∧ T'.heap[a]? = some ce ∧ ce.vm = .none ∧ s.vm.findClass Xn = some ce.cls ∧ T'.heap.size ≤ T.heap.size + rm.cells ∧ (∀ q : Nat, q < T.heap.size → T'.heap[q]? = T.heap[q]?) ∧
      ∀ target, Steps p.tables e below ((T'.setTop { g with stack := rest }).pushFrame (.throwing a)) target → Steps p.tables e below (T.setTop g) target := by
  obtain ⟨mk, methM, hnamed, hmethM, hstM, habM⟩ := Cond.instanceMethod_spec hinst
  obtain ⟨methM', cM, hmethM', hcM, -, hlM, -, -, -, hsigM⟩ := Cond.code_spec hnamed hcode
  cases hmethM.symm.trans hmethM'
  obtain ⟨c2, r2, m2, q1, q2, q3, q4, kP, hkP, hkPi⟩ := Cond.selects_spec hsel
  cases hcls.symm.trans q1
  cases (State.methodFound?_of_named hnamed hy).symm.trans q2
  cases hnamed.symm.trans q3
  have hselP : selectMethod e.platform s.vm cellB.cls mk = .method mk := by rw [Launch.admits_selectMethod X.admits]; exact q4
  obtain ⟨vm₁, X₁, hstep₁⟩ := X.invokevirtual hexec hown hlink hnamed hmethM hstM hkP hkPi hy (a := b) (cell := cellB) hcell
    (fun z h => by rw [h] at hobj; cases hobj) hselP hmethM habM hkP hkPi (g := g) hg (argsL := argsL) (rest := rest) (hlen _ hsigM) hstack hdg
  generalize hU : T.setVm vm₁ = U at X₁ hstep₁
  have hUh : U.heap = T.heap := by rw [← hU]; rfl
  have hWU : s.WarmedH U.vm := X₁.warmed
  obtain ⟨g1, hg1⟩ : ∃ g1 : JFrame, g1 = { g with stack := rest } := ⟨_, rfl⟩
  have hgm : g1.method = m := by rw [hg1]; exact hg
  have hgs : g1.locals.size = c.maxLocals := by rw [hg1]; exact hsize
  have hgd : decode c.code g1.pc = .ok (.invokevirtual index, 3) := by rw [hg1]; exact hdg
  have hnU : U.methodNamed? y = some mk := X₁.named hnamed
  have hmU : U.vm.method? mk = some methM := by rw [hWU.alike.method?]; exact hmethM
  have hcodeU : (Cond.code y bytes maxL ret).before args U = true := by
    have h9 := word_at (a' := args) hWU (Or.inl (by first | rfl | simp [Cond.onTables, Cond.keeps, Cond.steady])) hcode
    exact h9
  obtain ⟨kY, hkY, -⟩ := className_of_methodNamed hnU
  have hiniU : (Cond.initialized y.cls).before args U = true := word_at hWU (Or.inl (by first | rfl | simp [Cond.onTables, Cond.keeps, Cond.steady])) hini
  have hinitY : kY.init = .initialized := Cond.initialized_spec (findClass_of_methodNamed hnU) hkY hiniU
  have h : At U g1.method c below := by rw [hgm]; exact X₁.here
  obtain ⟨a', ha'⟩ : ∃ a' : Array Value, a' = (Value.ref b :: argsL).toArray := ⟨_, rfl⟩
  have happ : (headSpec ws rm).appliesLoose y e.platform (U.calling g1 mk a') = true :=
    Spec.appliesLoose_calling (g := g1) h hgd hnU hkY hinitY
      (X₁.room_calling (g := g1) (R' := rm) hgs hmU hcM hR.1 (by rw [hlM]; have hr9 : g1.stack = rest := by rw [hg1]
                                                                 have hm9 : g1.monitorRoom = g.monitorRoom := by rw [hg1]
                                                                 rw [hr9, hm9]; omega) hcs hsl) (atoms_intro fun w hw => hws w hw _ _ hWU)
  obtain ⟨mid, hmid⟩ := h.above
  have hfr : (U.setTop g1).frames = (.java g1 :: mid) ++ below := by rw [State.frames_setTop' g1 h.top, hmid]; rfl
  have hP9 : Pc a' (U.calling g1 mk a') := by rw [ha']; exact hbl _ _ _ _ (by rw [← hU]; exact hpre vm₁ (by have := X₁.warmed; rw [← hU] at this; exact this))
  obtain ⟨o, s₂, hsteps, -, hend, hq⟩ := Steps.callFree hM p X₁.admits X₁.cas X₁.clock (acts := []) hfr happ hP9 trivial
  have hq' : xT Xn rm.cells rm.slots a' (U.calling g1 mk a') o s₂ := hq
  rw [State.frames_setTop' g1 h.top] at hend
  obtain ⟨ex, ce, rfl, hexa, hce, hcv, hcc, hW₂, e2, r2', r3, r4, r5, r6⟩ := hq'
  have e3 : s₂ = ({ (U.calling g1 mk a').setFrames s₂.frames with heap := s₂.heap, slotsUsed := s₂.slotsUsed } : State).setVm s₂.vm := by
    have : s₂ = ({ s₂ with vm := (U.calling g1 mk a').vm } : State).setVm s₂.vm := rfl
    rw [e2] at this
    exact this
  have hf₂ : s₂.frames = .throwing ex :: .java g1 :: U.frames.tail := hend
  have hW' : U.WarmedH s₂.vm := hW₂
  obtain ⟨g₀, hg0⟩ := Option.isSome_iff_exists.mp h.top
  obtain ⟨r, hr⟩ := State.topJava?_eq_some.mp hg0
  have hs₂ : s₂ = ((({ U with heap := s₂.heap, slotsUsed := s₂.slotsUsed } : State).setVm s₂.vm).setTop g1).pushFrame (.throwing ex) := by
    have hr' : (({ U with heap := s₂.heap, slotsUsed := s₂.slotsUsed } : State).setVm s₂.vm).frames = .java g₀ :: r := hr
    refine e3.trans ?_
    rw [hf₂, State.calling_eq h.top, State.setFrames_setFrames, State.pushFrame, State.frames_setTop _ hr', State.setTop_of_frames _ hr', State.setFrames_setFrames, hr]
    rfl
  have hsame : U.sameButNew ({ U with heap := s₂.heap, slotsUsed := s₂.slotsUsed } : State) [] rm.cells rm.slots := by
    refine ⟨?_, r2', r3, r4, r5, r6⟩
    obtain ⟨t, ht, -⟩ := State.frames_cons hr
    show ({ U with heap := s₂.heap, slotsUsed := s₂.slotsUsed } : State) = { U.setFrames U.frames with heap := s₂.heap, slotsUsed := s₂.slotsUsed }
    rw [State.setFrames_self ht]
  subst hgm
  refine ⟨ex, ce, (({ U with heap := s₂.heap, slotsUsed := s₂.slotsUsed } : State).setVm s₂.vm), ⟨X₁.admits, X₁.cas, X₁.clock, X₁.frames, X₁.room, X₁.hears, X₁.method, X₁.code, (X₁.here.setHeapUsed s₂.heap s₂.slotsUsed).setVm hW'.alike, X₁.tail, State.WarmedH.trans X₁.warmed hW', X₁.limits, X₁.bytes, ?_⟩, ?_, hce, hcv, ?_, ?_, ?_, ?_⟩
  · have h9 := X₁.same.trans (hsame.setVm s.vm)
    rw [List.append_nil] at h9
    exact h9
  · rw [hexa, ← hUh]; rfl
  · rw [← hWU.alike.findClass]; exact hcc
  · show s₂.heap.size ≤ T.heap.size + rm.cells
    rw [← hUh]
    exact hsame.2.2.1
  · intro q hq
    rw [← hUh] at hq ⊢
    exact x_same hsame q hq
  · intro target hrest
    refine hstep₁ _ fun acts => ?_
    rw [doInvoke_state]
    rw [← hg1] at hrest ⊢
    rw [← ha']
    rw [← hs₂] at hrest
    exact hsteps.trans hrest
end XC
