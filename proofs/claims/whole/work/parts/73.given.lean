def R_law : String := "EarlyCutLaw"
def lw_P (b : Addr) (xs : List Int32) (args : Array Value) (s : State) : Prop := args = #[.ref b] ∧ s.IntsAt b xs ∧ xs.length ≤ 2560 ∧ (Jvm.Cond.and given_1 narrow_1).before args s = true
def lw_Q (_ : Array Value) (s : State) (o : Outcome) (t : State) : Prop := o = .returned (some (.int 1)) ∧ Framed s o t [] 601024 7293034
def lw_Z (below : List Frame) (a : Array Value) (s : State) : State → Prop := fun t => ∃ o, t.status = .running ∧ Ended t below o ∧ lw_Q a s o t
theorem lw_ret {p : Program} {l : Launch} {e : Env} {s : State} {m : MethodId} {below : List Frame} {meth : Method} {c : Code} {b : Nat} (hx : p.tables.exec = Jvm.exec) (hb : c.code = code) (hr : meth.sig.returnType = ret) (hlocks : meth.locks = false) {pc : Nat} {H : Heap} {ls : Array Slot} (hdg : decode code pc = .ok (.ireturn, 1)) : W p l e room_1 s m #[Value.ref b] below meth c H [] 601024 7293034 (lw_Z below #[Value.ref b] s) (F0 m pc ls [.int 1]) := by
  intro T hT X
  obtain ⟨fs, hret, hrun, hended, hW, hframe⟩ := X.leave (v := some (.int 1)) (hlocks := hlocks) (fun h => by rw [hr] at h; cases h)
  have hmeth' : T.vm.method? m = some meth := X.method'
  refine ⟨T.setFrames fs, ?_, .returned (some (.int 1)), hrun, hended, rfl, ⟨_, rfl⟩, hW, hframe⟩
  jvm_step X.here [X.here.top, hx, hb, hdg, hmeth', hr, ret, narrow_b1]
  (try refine ⟨rfl, ?_⟩); (try refine ⟨rfl, ?_⟩)
  first | (intro acts; rw [hret _ acts rfl rfl rfl]) | rw [hret _ _ rfl rfl rfl]
  exact Steps.refl _
def lw_At (p : Program) (s : State) (m : MethodId) (meth : Method) (c : Code) (b L : Nat) (xs : Nat → Int32) : Prop :=
  p.tables.exec = Jvm.exec ∧ c.code = code ∧ meth.sig.returnType = ret ∧ c.maxLocals = 8 ∧ s.vm.findClass R_law = some m.cls ∧ (∀ w ∈ lw_tbl, w.before #[Value.ref b] s = true) ∧ va_X b L xs s s.heap ∧ b < s.heap.size ∧ meth.locks = false ∧ (Jvm.Cond.and given_1 narrow_1).before #[Value.ref b] s = true
theorem x_t1 {w : Cond} (i : Nat) (h : tables_1_1[i]? = some w) : w ∈ lw_tbl := List.mem_append_right _ (List.mem_append_left _ <| List.mem_of_getElem? h)
theorem x_t2 {w : Cond} (i : Nat) (h : tables_1_2[i]? = some w) : w ∈ lw_tbl := List.mem_append_right _ (List.mem_append_right _ <| List.mem_append_left _ <| List.mem_of_getElem? h)
theorem r_lawend {E : gE} {p : Program} {l : Launch} {e : Env} {s : State} {m : MethodId} {below : List Frame} {meth : Method} {c : Code} {b : Nat} (C : gC E s.heap.size p s m #[Value.ref b] meth c b_W_law R_W 8) (hr : meth.sig.returnType = ret) (L : gL) (V : gV) (cells slots : Nat) (lv : List (Nat × gT)) (h1 : cells ≤ 601024) (h2 : slots ≤ 7293034) : vW E s.heap.size s.heap.size 8 p l e room_1 s m #[Value.ref b] below meth c cells slots (lw_Z below #[Value.ref b] s) L V 866 lv [tI 1] := by
  intro H locs ls g1 g2 g3
  refine W.widen h1 h2 (va_forget (fun q hq => g2.2.2 q hq) ?_)
  exact lw_ret C.1 C.2.1 hr C.2.2.2.2.2.2.2 d_W_law_866
theorem x_gZ {s : State} {A : Array Value} {n d : String} (h1 : (Cond.laysStatic Bundle.tN n d).before A s = true) (h2 : (Cond.isRef (.static Bundle.tN n d)).before A s = true) : g_Z s.heap.size n d s s.heap := by
  obtain ⟨c, k, i, f, a, cell, a1, a2, a3, a4, a5, a6, a7, a8, a9⟩ := Cond.laysStatic_spec h1
  have ha : a < s.heap.size := (Array.getElem?_eq_some_iff.mp a5).1
  obtain ⟨v, hv⟩ : ∃ v, cell.slots[f.slot]? = some v := ⟨cell.slots[f.slot], Array.getElem?_eq_getElem a8⟩
  refine ⟨c, k, i, f, a, cell, v, a1, a2, a3, a4, a5, a6, a7, a8, a9, ha, hv, ?_⟩
  have hev : (Term.static Bundle.tN n d).eval A s none [] s = some v := Term.static_eval a2 a3 a4 a5 a6 hv
  simp only [Cond.before, Cond.holds, Cond.value, hev] at h2
  cases v <;> simp_all [Value.isRef]
theorem x_nca {s : State} {A : Array Value} {C T : String} (h : (Cond.not (Cond.castable C T)).before A s = true) (c1 c0 : ClassId) (h1 : s.vm.findClass C = some c1) (h0 : s.vm.findClass T = some c0) : s.vm.assignable c1 c0 = false := by
  simp only [Cond.before, Cond.holds, Cond.value, h1, h0] at h
  simpa using h
theorem x_arr {s : State} {A : Array Value} {ty : FieldType} (h : (Cond.arrayClass ty).before A s = true) : ∃ cA : ClassId, ArrOfT s cA ty ∧ s.vm.findClass ("[" ++ ty.toString) = some cA := by
  obtain ⟨c, k, comp, h1, h2, h3⟩ := Cond.arrayClass_spec h
  exact ⟨c, fun N z => ⟨fun k h => (by cases h), k, h2, comp, h3⟩, h1⟩
theorem x_arrO {s : State} {A : Array Value} {C : String} (h : (Cond.arrayOver (.object C)).before A s = true) : ∃ cA : ClassId, ArrOfT s cA (.object C) ∧ va_RA s cA (.object C) := by
  obtain ⟨comp, c, k, h1, h2, h3, h4, h5⟩ := Cond.arrayOver_spec h
  exact ⟨c, fun N z => ⟨fun k h => (by cases h), k, h3, comp, h4⟩, k, comp, h3, h4, h1, h5⟩
theorem x_nwm : ∀ w ∈ g_nw, w ∈ lw_tbl := by decide +kernel
theorem x_gK {s : State} {A : Array Value} (hl : ∀ w ∈ lw_tbl, w.before A s = true) (hts : ∀ w ∈ g_tb, w.before A s = true) : ∃ E : gE, g_K E s := by
  obtain ⟨cN, iN, hN⟩ := u_known hts i_N (hts _ w_33)
  obtain ⟨cS, iS, hS⟩ := u_known hts i_S (hts _ w_85)
  obtain ⟨cT, iT, hT⟩ := u_known hts i_T (hts _ w_98)
  obtain ⟨cA, iA, hA⟩ := u_known hts i_A (hts _ w_W_2)
  obtain ⟨cM, iM, hM⟩ := u_known hts i_M (hts _ w_W_7)
  obtain ⟨q0, p0, r0⟩ := x_arr (hts _ w_20)
  obtain ⟨q1, p1, r1⟩ := x_arr (hts _ w_5)
  obtain ⟨q2, p2, r2⟩ := x_arr (hts _ w_3)
  have oS : (Cond.arrayOver (.object R_S)).before A s = true := hl _ (x_t1 22 rfl)
  have oT : (Cond.arrayOver (.object R_T)).before A s = true := hl _ (x_t1 24 rfl)
  have oN : (Cond.arrayOver (.object R_N)).before A s = true := hl _ (x_t1 92 rfl)
  obtain ⟨q3, p3, r3⟩ := x_arrO oS
  obtain ⟨q4, p4, r4⟩ := x_arrO oT
  obtain ⟨q5, p5, r5⟩ := x_arrO oN
  refine ⟨(fun k => match k with | 0 => cN | 1 => cS | 2 => cT | 3 => cA | _ => cM, fun k => match k with | 0 => iN | 1 => iS | 2 => iT | 3 => iA | _ => iM, fun k => match k with | 100 => q0 | 101 => q1 | 102 => q2 | 103 => q3 | 104 => q4 | _ => q5), ⟨?_, ?_⟩, ?_, ?_⟩
  · intro k q hq
    rcases k with _ | _ | _ | _ | _ | k
    · cases hq; exact hN
    · cases hq; exact hS
    · cases hq; exact hT
    · cases hq; exact hA
    · cases hq; exact hM
    · cases hq
  · intro k q hq
    rcases k with _ | _ | _ | _ | _ | _ | k
    · cases hq; exact ⟨p0, r0⟩
    · cases hq; exact ⟨p1, r1⟩
    · cases hq; exact ⟨p2, r2⟩
    · cases hq; exact ⟨p3, r3⟩
    · cases hq; exact ⟨p4, r4⟩
    · cases hq; exact ⟨p5, r5⟩
    · cases hq
  · exact va_Nw.of (w := g_nest) rfl (hl _ (x_t1 94 rfl))
  · intro C hC
    simp only [g_ao, List.mem_cons, List.not_mem_nil, or_false] at hC
    rcases hC with rfl | rfl | rfl
    · exact va_AO.of oS
    · exact va_AO.of oT
    · exact va_AO.of oN
theorem x_gT {s : State} {A : Array Value} (hl : ∀ w ∈ lw_tbl, w.before A s = true) (hts : ∀ w ∈ g_tb, w.before A s = true) (hg : (Jvm.Cond.and given_1 narrow_1).before A s = true) : ∃ sa : Nat → Nat, g_T sa s.heap.size s := by
  have hf := flat_of_before _ hg
  obtain ⟨cA, iA, hA⟩ := u_known hts i_A (hts _ w_W_2)
  have hcur : s.vm.findClass R_A = some cA := hA.2.1
  have s0 : (Cond.stringRef R_A 103 (g_St 0)).before A s = true := hl _ (x_t2 168 rfl)
  have s1 : (Cond.stringRef R_A 120 (g_St 1)).before A s = true := hl _ (x_t2 204 rfl)
  have s2 : (Cond.stringRef R_A 142 (g_St 2)).before A s = true := hl _ (x_t2 228 rfl)
  obtain ⟨-, -, -, a0, -, -, -, -, -, e0⟩ := Cond.stringRef_spec hcur s0
  obtain ⟨-, -, -, a1, -, -, -, -, -, e1⟩ := Cond.stringRef_spec hcur s1
  obtain ⟨-, -, -, a2, -, -, -, -, -, e2⟩ := Cond.stringRef_spec hcur s2
  refine ⟨fun k => match k with | 0 => a0 | 1 => a1 | _ => a2, x_gZ (A := A) (hl _ (x_t2 154 rfl)) (hf _ (by decide +kernel)), x_gZ (A := A) (hl _ (x_t2 156 rfl)) (hf _ (by decide +kernel)), ⟨fun w hw => ?_, fun k hk => ?_⟩, ?_⟩
  · exact va_Nw.of (g_nw_ok w hw).1 (hl w (x_nwm w hw))
  · have hk' : k = 0 ∨ k = 1 ∨ k = 2 := by omega
    rcases hk' with rfl | rfl | rfl
    · exact vk_R.of s0 e0
    · exact vk_R.of s1 e1
    · exact vk_R.of s2 e2
  · intro c1 c0 h1 h0
    exact x_nca (A := A) (C := g_X 1) (T := g_X 0) (hf _ (by decide +kernel)) c1 c0 h1 h0
theorem whole_start {p : Program} {e : Env} {s : State} {m : MethodId} {below : List Frame} {meth : Method} {c : Code} (l : Launch) (hfl : l.flags = flags0) {b L : Nat} {xs : Nat → Int32} (hL : L ≤ 2560) (C0 : lw_At p s m meth c b L xs) : W p l e room_1 s m #[Value.ref b] below meth c s.heap [] 0 0 (lw_Z below #[Value.ref b] s) (entryFrame m ([Value.ref b] : List Value).toArray 8) := by
  obtain ⟨hx, hb, hr, hml, hown, hl, hX, hbl, hlk, hg⟩ := C0
  have hts : ∀ w ∈ g_tb, w.before #[Value.ref b] s = true := fun w hw => hl w (List.mem_filter.mp hw).1
  obtain ⟨E, hK⟩ := x_gK hl hts
  obtain ⟨sa, hT⟩ := x_gT hl hts hg
  have C : gC E s.heap.size p s m #[Value.ref b] meth c b_W_law R_W 8 := ⟨hx, hb, hml, hown, hts, hK, Nat.le_refl _, hlk⟩
  have hen := lv_entry (([tR (some b)] : List gT).map g_val) (n := 8) (by rw [g_sl_eq]; exact Nat.le_of_ble_eq_true rfl)
  rw [g_args_eq, show g_args 0 [tR (some b)] = [(0, tR (some b))] from rfl] at hen
  have hP : g_hp E s.heap.size (s.heap.size, fun _ _ => none) (fun _ _ _ => tI 0) s.heap := ⟨rfl, fun k a n h => (by cases h), fun k k1 a n n1 h => (by cases h)⟩
  have hw := t_start (e := e) (below := below) (Q := lw_Z below #[Value.ref b] s) (sa := sa) C hX ⟨hbl, rfl⟩ hfl hT (fun L V cells slots lv => r_lawend C hr L V cells slots lv) 1000 (Nat.le_refl _) (s.heap.size, fun _ _ => none) (fun _ _ _ => tI 0) (d_start (n := 1000) (by omega) (by omega) _ _) s.heap [] _ hP va_S.rf hen
  rw [lg_entry_eq]
  exact hw
