/-! THROWS 3: handlers found; a throwing call caught in the caller; a method with a table of handlers, and its call -/
section XS
variable {E : gE} {base nL : Nat} {p : Program} {l : Launch} {e : Env} {R : Room} {s : State} {m : MethodId} {args : Array Value} {below : List Frame} {meth : Method} {c : Code} {cells slots : Nat} {Q : State → Prop} {cc : ByteArray} {own : String} {L : gL} {V : gV} {pc : Nat} {lv : List (Nat × gT)} {st : List gT} {sa : Nat → Nat}
abbrev xH (c : Code) (hh : List (Nat × Nat × Nat × Nat)) : Prop := c.exceptionTable.toList.map (fun h => (h.startPc, h.endPc, h.handlerPc, h.catchType)) = hh
def xFind (p : Program) (l : Launch) (e : Env) (R : Room) (s : State) (m : MethodId) (args : Array Value) (below : List Frame) (meth : Method) (c : Code) (pc hpc k : Nat) : Prop := ∀ (T' : State) (locs' : List Loc) (cs ss : Nat) (ex : Addr) (ce : Cell) (g' : JFrame), Stand p l e R s m args below meth c T' locs' cs ss → g'.method = m → g'.pc = pc → T'.heap[ex]? = some ce → ce.vm = .none → s.vm.findClass (g_X k) = some ce.cls → ∃ vm', s.WarmedH vm' ∧ xF e ((T'.setTop g').pushFrame (.throwing ex)) g' ex hpc vm'
theorem x_rowOf {T : State} {locs : List Loc} (X : Stand p l e R s m args below meth c T locs cells slots) (hown : s.vm.findClass own = some m.cls) {y : ExceptionTableEntry} {pc : Nat} (hx : covers y pc = true) (h0 : y.catchType ≠ 0) {Xn : String} (hl : (Cond.classLink own y.catchType Xn).before args s = true) {thrown : ClassId} {hit : Bool} (hfit : ∀ c', s.vm.findClass Xn = some c' → s.vm.assignable thrown c' = hit) : xR s e.platform m.cls pc thrown hit y := by
  have hpl : e.platform.magicAccessors = ({} : Platform).magicAccessors := by rw [X.admits.platform]
  obtain ⟨c', hc', hcl⟩ := Cond.classLink_spec hown hl e.platform hpl
  exact ⟨hx, h0, c', hcl, hfit c' hc'⟩
theorem x_self {k : Nat} (hk : k < 3) (hT : g_T sa base s) {t c' : ClassId} (h1 : s.vm.findClass (g_X k) = some t) (h2 : s.vm.findClass (g_X k) = some c') : s.vm.assignable t c' = true := by
  have hw : Cond.castable (g_X k) (g_X k) ∈ g_nw := by
    rcases (show k = 0 ∨ k = 1 ∨ k = 2 by omega) with rfl | rfl | rfl <;> decide +kernel
  obtain ⟨c3, c4, q1, q2, q3⟩ := Cond.castable_spec (hT.2.2.1.1 _ hw)
  cases h1.symm.trans q1
  cases h2.symm.trans q2
  exact q3
theorem x_find1 (hown : s.vm.findClass own = some m.cls) (hT : g_T sa base s) {k s0 e0 hpc ct : Nat} (hk : k < 3) {rest : List (Nat × Nat × Nat × Nat)} (hh : xH c ((s0, e0, hpc, ct) :: rest)) (h1 : s0 ≤ pc) (h2 : pc < e0) (h3 : ct ≠ 0) (hl : (Cond.classLink own ct (g_X k)).before args s = true) : xFind p l e R s m args below meth c pc hpc k := by
  intro T' locs' cs ss ex ce g' X hg hpc' hce hcv hcc
  obtain ⟨y, t, hyt, hy, -⟩ := List.map_eq_cons_iff.mp hh
  simp only [Prod.mk.injEq] at hy
  obtain ⟨y1, y2, y3, y4⟩ := hy
  subst hg
  rw [← y3]
  refine x_first (s0 := s) (cell := ce) (meth := meth) (code := c) (t := t) (by rw [Stand.throwing_vm]; exact X.method') X.code hyt (by rw [Stand.throwing_vm]; exact X.warmed) (by rw [Stand.throwing_heap]; exact hce) (fun q h => by rw [hcv] at h; cases h) (Vm.classAt_of_findClass hcc) ?_
  refine x_rowOf X hown (by rw [hpc']; simp [covers, y1, y2, h1, h2]) (by rw [y4]; exact h3) (by rw [y4]; exact hl) (fun c' h' => x_self hk hT hcc h')
theorem x_find2 (hown : s.vm.findClass own = some m.cls) (hT : g_T sa base s) {s0 e0 hp0 ct0 s1 e1 hpc ct : Nat} {rest : List (Nat × Nat × Nat × Nat)} (hh : xH c ((s0, e0, hp0, ct0) :: (s1, e1, hpc, ct) :: rest)) (h1 : s0 ≤ pc) (h2 : pc < e0) (h3 : ct0 ≠ 0) (h4 : s1 ≤ pc) (h5 : pc < e1) (h6 : ct ≠ 0) (hl0 : (Cond.classLink own ct0 (g_X 0)).before args s = true) (hl : (Cond.classLink own ct (g_X 1)).before args s = true) : xFind p l e R s m args below meth c pc hpc 1 := by
  intro T' locs' cs ss ex ce g' X hg hpc' hce hcv hcc
  obtain ⟨y, t, hyt, hy, hmt⟩ := List.map_eq_cons_iff.mp hh
  obtain ⟨z, t2, hzt, hz, -⟩ := List.map_eq_cons_iff.mp hmt
  simp only [Prod.mk.injEq] at hy hz
  obtain ⟨y1, y2, y3, y4⟩ := hy
  obtain ⟨z1, z2, z3, z4⟩ := hz
  subst hg
  subst hzt
  rw [← z3]
  refine x_second (s0 := s) (cell := ce) (meth := meth) (code := c) (y := y) (t := t2) (by rw [Stand.throwing_vm]; exact X.method') X.code hyt (by rw [Stand.throwing_vm]; exact X.warmed) (by rw [Stand.throwing_heap]; exact hce) (fun q h => by rw [hcv] at h; cases h) (Vm.classAt_of_findClass hcc) ?_ ?_
  · exact x_rowOf X hown (by rw [hpc']; simp [covers, y1, y2, h1, h2]) (by rw [y4]; exact h3) (by rw [y4]; exact hl0) (fun c' h' => hT.2.2.2 _ _ hcc h')
  · exact x_rowOf X hown (by rw [hpc']; simp [covers, z1, z2, h4, h5]) (by rw [z4]; exact h6) (by rw [z4]; exact hl) (fun c' h' => x_self (k := 1) (by decide) hT hcc h')
def g_oL (L : gL) : gL := (L.1 + 1, L.2)
theorem r_catch (C : gC E base p s m args meth c cc own nL) (hT : g_T sa base s) {index kk n mL a k hpc : Nat} {y : MethodName} {b : ByteArray} {ret : Option FieldType} {rm : Room} {As : List gT} (M : gM own index y n) (w1 : Cond.instanceMethod y ∈ g_tb) (w2 : Cond.selects y.cls y y ∈ g_tb) (w3 : Cond.code y b mL ret ∈ g_tb) (hcl : ∃ (T : u_T) (N : Nat), g_cl[kk]? = some (y.cls, T, N)) (hM : g_MetT l E base sa y b mL ret rm (tR (some a) :: As) L V (g_X k)) (hrc : rm.cells = 1) (hrs : rm.slots = 6) (hd : decode cc pc = .ok (.invokevirtual index, 3)) {na : Nat} (ha : L.2 kk a = some na) (hn : As.length = n) (hR : rm.frames + 1 ≤ R.frames ∧ 8 + (mL + 11) + rm.locals ≤ R.locals) (hW : (st.map g_c).sum ≤ 8) (hc : cells + 1 ≤ R.cells) (hs : slots + 6 ≤ R.slots) {st0 : List gT} (hst : st0 = As.reverse ++ tR (some a) :: st) (hfind : xFind p l e R s m args below meth c pc hpc k) (kk' : vW E base base nL p l e R s m args below meth c (cells + 1) (slots + 6) Q (g_oL L) V hpc lv [tR (some L.1)]) : vW E base base nL p l e R s m args below meth c cells slots Q L V pc lv st0 := by
  subst hst
  intro H locs ls h1 h2 h3 T hT0 X
  obtain ⟨hx, hb, hml, hown, hts, hK, hbs, hlk⟩ := C
  obtain ⟨Tt, N, hcl⟩ := hcl
  obtain ⟨-, cell, q1, q2, q3, -⟩ := (h1.2.1 kk a na ha).2.1 _ hcl
  obtain ⟨ex, ce, T', X', hexa, hce, hcv, hcc, hsz, hold, hsteps⟩ := x_call X hx hM g_blindT (pay_in hts (g_good w3)) (hts _ M.2.1) hR hown (hts _ M.1) (hts _ w1) (C := y.cls) (hts _ w2) (hts _ w3) ⟨M.2.2.1, M.2.2.2.1⟩ (b := a) (cellB := cell) (by rw [hT0]; exact q1) (by rw [q3]; rfl) (by rw [q2]; exact (hK.1.1 kk _ hcl).2.1)
    (g := F0 m pc ls ((As.reverse ++ tR (some a) :: st).map g_val)) rfl (by rw [hml]; exact h3.1) (argsL := As.map g_val) (rest := st.map g_val) (fun sig hsg => by
      have h9 := M.2.2.2.2
      rw [hsg] at h9
      have h8 : sig.parameters.length = n := Option.some.inj h9
      rw [List.length_map, hn, h8]) (by show (As.reverse ++ tR (some a) :: st).map g_val = _; rw [List.map_append, List.map_reverse]; rfl) (by rw [List.map_map]; show 2 * 0 + (st.map fun t => (g_val t).category).sum ≤ 8; rw [g_c_eq]; omega) (by rw [hb]; exact hd) (by rw [hrc]; exact hc) (by rw [hrs]; exact hs)
    (fun vm₁ hw1 => ⟨rfl, ⟨by show g_hp E base L V T.heap; rw [hT0]; exact h1, hK.warm (U := T.setVm vm₁) hw1, by show L.1 ≤ T.heap.size; rw [hT0, h1.1]; exact Nat.le_refl _⟩, g_T.move (U := T.setVm vm₁) hw1 (fun q hq => by show T.heap[q]? = s.heap[q]?; rw [hT0]; exact h2.2.1 q (Nat.lt_of_lt_of_le hq hbs) (Nat.not_le.mpr hq)) hT⟩)
  obtain ⟨vm', hW', hf⟩ := hfind T' _ _ _ ex ce { F0 m pc ls ((As.reverse ++ tR (some a) :: st).map g_val) with stack := st.map g_val } X' rfl rfl hce hcv hcc
  obtain ⟨X'', hs''⟩ := x_caught X' ex rfl hW' hf
  have hex : ex = L.1 := by rw [hexa, hT0]; exact h1.1
  have hTH : T.heap = H := hT0
  rw [hTH] at hsz hold
  have hz : T'.heap.size = H.size + 1 := by
    have hlt : ex < T'.heap.size := (Array.getElem?_eq_some_iff.mp hce).1
    rw [hex] at hlt
    rw [h1.1, hrc] at hsz
    rw [h1.1]
    exact Nat.le_antisymm hsz hlt
  have hp' : g_hp E base (g_oL L) V T'.heap := by
    refine ⟨by rw [hz, h1.1]; rfl, fun k' a' n' h' => ?_, h1.2.2⟩
    exact ⟨(h1.2.1 k' a' n' h').1, (h1.2.1 k' a' n' h').2.kept (hold a' (h1.2.1 k' a' n' h').2.lt)⟩
  have hS' : va_S (g_A base) s.heap T'.heap locs := ⟨Nat.le_trans h2.1 (by rw [hz]; exact Nat.le_succ _), fun q a1 a2 => by rw [hold q (Nat.lt_of_lt_of_le a1 h2.1)]; exact h2.2.1 q a1 a2, h2.2.2⟩
  have hw := kk' T'.heap locs ls hp' hS' h3
  rw [hrc, hrs] at X''
  obtain ⟨t, a1, b1⟩ := hw (T'.setVm vm') rfl X''
  refine ⟨t, hsteps _ (hs'' _ ?_), b1⟩
  rw [hex]
  exact a1
def g_wW (y : MethodName) (b : ByteArray) (mL : Nat) (ret : Option FieldType) (hh : List (Nat × Nat × Nat × Nat)) : List Cond := .codeWith y b mL ret hh :: g_tb
def g_MetW (l : Launch) (E : gE) (base : Nat) (sa : Nat → Nat) (y : MethodName) (b : ByteArray) (mL : Nat) (ret : Option FieldType) (hh : List (Nat × Nat × Nat × Nat)) (rm : Room) (as : List gT) (L : gL) (V : gV) (o : Option gT) (L' : gL) (V' : gV) : Prop :=
  Met l y (g_wW y b mL ret hh) rm (va_Pc (as.map g_val) (fun U => g_in E base base L V U ∧ g_T sa base U)) (g_out E base base L' V' o) rm.cells rm.slots (g_A base)
theorem r_enterW {y : MethodName} {b : ByteArray} {mL : Nat} {ret : Option FieldType} {hh : List (Nat × Nat × Nat × Nat)} {rm : Room} {o : Option gT} {L' : gL} {V' : gV} (own : String) (hy : plainName y.cls = true) (hown : y.cls = own) (as : List gT) (lv : List (Nat × gT)) (hlv : g_args 0 as = lv) (hln : (as.map g_c).sum ≤ mL)
    (body : ∀ (p : Program) (e : Env) (s : State) (m : MethodId) (args : Array Value) (below : List Frame) (meth : Method) (c : Code), gC E base p s m args meth c b own mL → meth.sig.returnType = ret → g_T sa base s → xH c hh → vW E base base mL p l e rm s m args below meth c 0 0 (g_MQ E base base below args s rm.cells rm.slots L' V' o) L V 0 lv []) : g_MetW l E base sa y b mL ret hh rm as L V o L' V' := by
  refine va_MetW (cc := b) (maxL := mL) (ret := ret) (hh := hh) hy rfl ?_
  intro p e s m args below meth c s₁ B hml hv
  obtain ⟨rfl, ⟨hP, hK, hbs⟩, hT⟩ := hv
  have hts := atoms_spec (ws := g_wW y b mL ret hh) B.pre
  have hnm : s.vm.findClass y.cls = some m.cls := findClass_of_methodNamed B.named
  have hH : xH c hh := by
    obtain ⟨m', meth', c', r1, r2, r3, -, -, r6, -⟩ := Cond.codeWith_spec (hts _ List.mem_cons_self)
    cases B.named.symm.trans r1
    cases B.method.symm.trans r2
    cases (Stand.of_body B).code.symm.trans r3
    exact r6
  have hl := lv_entry (as.map g_val) (n := mL) (by rw [g_sl_eq]; exact hln)
  rw [g_args_eq, hlv] at hl
  rw [lg_entry_eq]
  exact body p e s m _ below meth c ⟨B.exec, B.bytes, hml, by rw [← hown]; exact hnm, fun w hw => hts w (List.mem_cons_of_mem _ hw), hK, hbs, B.notSynchronized⟩ B.returns hT hH s.heap [] _ hP va_S.rf hl
theorem r_callSW (C : gC E base p s m args meth c cc own nL) (hT : g_T sa base s) {index n mL : Nat} {y : MethodName} {b : ByteArray} {ret : Option FieldType} {hh : List (Nat × Nat × Nat × Nat)} {rm : Room} {As : List gT} {o : Option gT} {L' : gL} {V' : gV} (M : gM own index y n) (w1 : Cond.static y ∈ g_tb) (w3 : Cond.codeWith y b mL ret hh ∈ g_tb) (hM : g_MetW l E base sa y b mL ret hh rm As L V o L' V') (hd : decode cc pc = .ok (.invokestatic index, 3)) (hn : As.length = n) (hR : rm.frames + 1 ≤ R.frames ∧ 8 + (mL + 11) + rm.locals ≤ R.locals) (hW : (st.map g_c).sum ≤ 8) (hc : cells + rm.cells ≤ R.cells) (hs : slots + rm.slots ≤ R.slots) {st0 : List gT} (hst : st0 = As.reverse ++ st) (kk : vW E base base nL p l e R s m args below meth c (cells + rm.cells) (slots + rm.slots) Q L' V' (pc + 3) lv (o.toList ++ st)) : vW E base base nL p l e R s m args below meth c cells slots Q L V pc lv st0 := by
  subst hst
  refine r_run (a := (As.map g_val).toArray) (fun H locs ls h1 h2 h3 => ?_) kk
  obtain ⟨hx, hb, hml, hown, hts, hK, hbs, hlk⟩ := C
  have hgood : GoodIn g_tb (g_wW y b mL ret hh) := by
    intro w hw
    rcases List.mem_cons.mp hw with rfl | hw
    · exact g_allgood _ w3
    · exact g_allgood _ hw
  have hBk : Back l R p e below s args y 3 8 (PreOf R rm.cells rm.slots (va_Pc (As.map g_val) (fun U => g_in E base base L V U ∧ g_T sa base U))) (PostOf (g_out E base base L' V' o) rm.cells rm.slots (g_A base)) := va_backW (hh := hh) (bytes := b) (maxL := mL) (ret := ret) hM g_blindT rfl rfl hR.1 hR.2 (pay_in hts hgood) List.mem_cons_self (fun a' U hWm => word_at hWm (Or.inl (by first | rfl | simp [Cond.onTables, Cond.keeps, Cond.steady])) (hts _ M.2.1))
  intro T hT0 X
  obtain ⟨mk, methM, cM, hnamed, hmethM, -, -, -, -, -, -, hsigM⟩ := Cond.codeWith_spec (hts _ w3)
  have hstatic : methM.isStatic = true := Cond.static_spec hnamed hmethM (hts _ w1)
  obtain ⟨kP, hkP, -⟩ := className_of_methodNamed hnamed
  have hinitP : kP.init = .initialized := Cond.initialized_spec (findClass_of_methodNamed hnamed) hkP (hts _ M.2.1)
  have hlen : (As.map g_val).length = methM.sig.parameters.length := by
    have h9 := M.2.2.2.2
    rw [hsigM] at h9
    have h8 : methM.sig.parameters.length = n := Option.some.inj h9
    rw [List.length_map, hn, h8]
  have hstk : (F0 m pc ls ((As.reverse ++ st).map g_val)).stack = (As.map g_val).reverse ++ st.map g_val := by
    show (As.reverse ++ st).map g_val = _
    rw [List.map_append, List.map_reverse]
  obtain ⟨vm₁, X₁, hstep₁⟩ := X.invokestatic hx hown (hts _ M.1) hnamed hmethM hstatic hkP hinitP ⟨M.2.2.1, M.2.2.2.1⟩ (g := F0 m pc ls ((As.reverse ++ st).map g_val)) rfl (argsL := As.map g_val) (rest := st.map g_val) hlen hstk (by rw [hb]; exact hd)
  obtain ⟨v, B, X', hpost, hsteps⟩ := hBk m meth c ⟨T.setVm vm₁, locs, cells, slots⟩ { F0 m pc ls ((As.reverse ++ st).map g_val) with stack := st.map g_val } (.invokestatic index) mk (As.map g_val).toArray X₁ rfl (by rw [hml]; exact h3.1) (by rw [hb]; exact hd) (by rw [List.map_map]; show 2 * 0 + (st.map fun t => (g_val t).category).sum ≤ 8; rw [g_c_eq]; omega) (X₁.named hnamed)
    ⟨hc, hs, rfl, ⟨by show g_hp E base L V T.heap; rw [hT0]; exact h1, hK.warm (U := T.setVm vm₁) X₁.warmed, by show base ≤ T.heap.size; rw [hT0]; exact Nat.le_trans hbs h2.1⟩, g_T.move (U := T.setVm vm₁) X₁.warmed (fun q hq => by show T.heap[q]? = s.heap[q]?; rw [hT0]; exact h2.2.1 q (Nat.lt_of_lt_of_le hq hbs) (Nat.not_le.mpr hq)) hT⟩
  obtain ⟨U', l2, c2, s2⟩ := B
  obtain ⟨g', mk', t, Ls, e1, e2, hq, q1, hL, q2, q3⟩ := hpost
  dsimp only [Pt.U, Pt.locs, Pt.cells, Pt.slots] at X' e1 e2 q1 q2 q3 hsteps
  subst q1; subst q2; subst q3
  exact ⟨v, (T.setVm vm₁).calling g' mk' (As.map g_val).toArray, t, U', Ls, hT0, X', hL, e1, e2, hq, fun target h => hstep₁ _ fun acts => by rw [doInvoke_state]; exact hsteps.trans h⟩
end XS
