section
-- ===== PART A: goes FIRST, ahead of the names: the tables' words, and 'selects' of the private methods out of them =====
/-- a private method of a class that the tables say can be made, by its rows of tables_1 -/
def lw_okq (q : MethodName × Nat) : Prop := (q.1.cls ≠ "java/lang/invoke/MethodHandle" ∧ q.1.cls ≠ "java/lang/invoke/VarHandle") ∧ Cond.instantiable q.1.cls q.2 ∈ tables_1 ∧ Cond.privateMethod q.1 ∈ tables_1 ∧ Cond.instanceMethod q.1 ∈ tables_1
theorem lw_p0 : lw_okq (⟨"EarlyCut", "sourceAt", "(I)LEarlyCut$Source;"⟩, 7) := ⟨⟨by decide +kernel, by decide +kernel⟩, List.mem_of_getElem? (i := 14) (by decide +kernel), List.mem_of_getElem? (i := 75) (by decide +kernel), List.mem_of_getElem? (i := 76) (by decide +kernel)⟩
theorem lw_p1 : lw_okq (⟨"EarlyCut", "stepAt", "(I)LEarlyCut$Step;"⟩, 7) := ⟨⟨by decide +kernel, by decide +kernel⟩, List.mem_of_getElem? (i := 14) (by decide +kernel), List.mem_of_getElem? (i := 172) (by decide +kernel), List.mem_of_getElem? (i := 173) (by decide +kernel)⟩
theorem lw_p2 : lw_okq (⟨"EarlyCut", "forgetLatestBuild", "()V"⟩, 7) := ⟨⟨by decide +kernel, by decide +kernel⟩, List.mem_of_getElem? (i := 14) (by decide +kernel), List.mem_of_getElem? (i := 205) (by decide +kernel), List.mem_of_getElem? (i := 206) (by decide +kernel)⟩
theorem lw_p3 : lw_okq (⟨"EarlyCut", "takeNeeded", "(I)V"⟩, 7) := ⟨⟨by decide +kernel, by decide +kernel⟩, List.mem_of_getElem? (i := 14) (by decide +kernel), List.mem_of_getElem? (i := 213) (by decide +kernel), List.mem_of_getElem? (i := 214) (by decide +kernel)⟩
theorem lw_p4 : lw_okq (⟨"EarlyCut", "takeStepsReadBy", "(LEarlyCut$Step;)V"⟩, 7) := ⟨⟨by decide +kernel, by decide +kernel⟩, List.mem_of_getElem? (i := 14) (by decide +kernel), List.mem_of_getElem? (i := 217) (by decide +kernel), List.mem_of_getElem? (i := 218) (by decide +kernel)⟩
theorem lw_p5 : lw_okq (⟨"EarlyCut", "stepOfCode", "(I)LEarlyCut$Step;"⟩, 7) := ⟨⟨by decide +kernel, by decide +kernel⟩, List.mem_of_getElem? (i := 14) (by decide +kernel), List.mem_of_getElem? (i := 224) (by decide +kernel), List.mem_of_getElem? (i := 225) (by decide +kernel)⟩
theorem lw_p6 : lw_okq (⟨"EarlyCut", "buildOne", "(LEarlyCut$Step;)V"⟩, 7) := ⟨⟨by decide +kernel, by decide +kernel⟩, List.mem_of_getElem? (i := 14) (by decide +kernel), List.mem_of_getElem? (i := 228) (by decide +kernel), List.mem_of_getElem? (i := 229) (by decide +kernel)⟩
theorem lw_p7 : lw_okq (⟨"EarlyCut", "isMarked", "(LEarlyCut$Step;)Z"⟩, 7) := ⟨⟨by decide +kernel, by decide +kernel⟩, List.mem_of_getElem? (i := 14) (by decide +kernel), List.mem_of_getElem? (i := 232) (by decide +kernel), List.mem_of_getElem? (i := 233) (by decide +kernel)⟩
theorem lw_p8 : lw_okq (⟨"EarlyCut", "marksItsReader", "(ILEarlyCut$Entry;I)Z"⟩, 7) := ⟨⟨by decide +kernel, by decide +kernel⟩, List.mem_of_getElem? (i := 14) (by decide +kernel), List.mem_of_getElem? (i := 240) (by decide +kernel), List.mem_of_getElem? (i := 241) (by decide +kernel)⟩
theorem lw_p9 : lw_okq (⟨"EarlyCut", "isThereNow", "(I)Z"⟩, 7) := ⟨⟨by decide +kernel, by decide +kernel⟩, List.mem_of_getElem? (i := 14) (by decide +kernel), List.mem_of_getElem? (i := 244) (by decide +kernel), List.mem_of_getElem? (i := 245) (by decide +kernel)⟩
theorem lw_p10 : lw_okq (⟨"EarlyCut", "valueNow", "(I)J"⟩, 7) := ⟨⟨by decide +kernel, by decide +kernel⟩, List.mem_of_getElem? (i := 14) (by decide +kernel), List.mem_of_getElem? (i := 248) (by decide +kernel), List.mem_of_getElem? (i := 249) (by decide +kernel)⟩
theorem lw_p11 : lw_okq (⟨"EarlyCut", "isBlocked", "(LEarlyCut$Step;)Z"⟩, 7) := ⟨⟨by decide +kernel, by decide +kernel⟩, List.mem_of_getElem? (i := 14) (by decide +kernel), List.mem_of_getElem? (i := 263) (by decide +kernel), List.mem_of_getElem? (i := 264) (by decide +kernel)⟩
theorem lw_p12 : lw_okq (⟨"EarlyCut", "bringUpToDate", "(LEarlyCut$Step;)V"⟩, 7) := ⟨⟨by decide +kernel, by decide +kernel⟩, List.mem_of_getElem? (i := 14) (by decide +kernel), List.mem_of_getElem? (i := 271) (by decide +kernel), List.mem_of_getElem? (i := 272) (by decide +kernel)⟩
theorem lw_p13 : lw_okq (⟨"EarlyCut", "readNow", "(LEarlyCut$Step;)LEarlyCut$Entry;"⟩, 7) := ⟨⟨by decide +kernel, by decide +kernel⟩, List.mem_of_getElem? (i := 14) (by decide +kernel), List.mem_of_getElem? (i := 275) (by decide +kernel), List.mem_of_getElem? (i := 276) (by decide +kernel)⟩
theorem lw_p14 : lw_okq (⟨"EarlyCut", "compareOutputs", "(LEarlyCut$Entry;LEarlyCut$Step;)V"⟩, 7) := ⟨⟨by decide +kernel, by decide +kernel⟩, List.mem_of_getElem? (i := 14) (by decide +kernel), List.mem_of_getElem? (i := 326) (by decide +kernel), List.mem_of_getElem? (i := 327) (by decide +kernel)⟩
theorem lw_p15 : lw_okq (⟨"java/lang/Throwable", "fillInStackTrace", "(I)Ljava/lang/Throwable;"⟩, 6) := ⟨⟨by decide +kernel, by decide +kernel⟩, List.mem_of_getElem? (i := 406) (by decide +kernel), List.mem_of_getElem? (i := 404) (by decide +kernel), List.mem_of_getElem? (i := 405) (by decide +kernel)⟩
def lw_privs_1 : List (MethodName × Nat) := [(⟨"EarlyCut", "sourceAt", "(I)LEarlyCut$Source;"⟩, 7), (⟨"EarlyCut", "stepAt", "(I)LEarlyCut$Step;"⟩, 7), (⟨"EarlyCut", "forgetLatestBuild", "()V"⟩, 7), (⟨"EarlyCut", "takeNeeded", "(I)V"⟩, 7), (⟨"EarlyCut", "takeStepsReadBy", "(LEarlyCut$Step;)V"⟩, 7), (⟨"EarlyCut", "stepOfCode", "(I)LEarlyCut$Step;"⟩, 7), (⟨"EarlyCut", "buildOne", "(LEarlyCut$Step;)V"⟩, 7), (⟨"EarlyCut", "isMarked", "(LEarlyCut$Step;)Z"⟩, 7), (⟨"EarlyCut", "marksItsReader", "(ILEarlyCut$Entry;I)Z"⟩, 7), (⟨"EarlyCut", "isThereNow", "(I)Z"⟩, 7), (⟨"EarlyCut", "valueNow", "(I)J"⟩, 7), (⟨"EarlyCut", "isBlocked", "(LEarlyCut$Step;)Z"⟩, 7), (⟨"EarlyCut", "bringUpToDate", "(LEarlyCut$Step;)V"⟩, 7), (⟨"EarlyCut", "readNow", "(LEarlyCut$Step;)LEarlyCut$Entry;"⟩, 7), (⟨"EarlyCut", "compareOutputs", "(LEarlyCut$Entry;LEarlyCut$Step;)V"⟩, 7), (⟨"java/lang/Throwable", "fillInStackTrace", "(I)Ljava/lang/Throwable;"⟩, 6)]
theorem lw_r1 : ∀ q ∈ lw_privs_1, lw_okq q := List.forall_mem_cons.mpr ⟨lw_p0, List.forall_mem_cons.mpr ⟨lw_p1, List.forall_mem_cons.mpr ⟨lw_p2, List.forall_mem_cons.mpr ⟨lw_p3, List.forall_mem_cons.mpr ⟨lw_p4, List.forall_mem_cons.mpr ⟨lw_p5, List.forall_mem_cons.mpr ⟨lw_p6, List.forall_mem_cons.mpr ⟨lw_p7, List.forall_mem_cons.mpr ⟨lw_p8, List.forall_mem_cons.mpr ⟨lw_p9, List.forall_mem_cons.mpr ⟨lw_p10, List.forall_mem_cons.mpr ⟨lw_p11, List.forall_mem_cons.mpr ⟨lw_p12, List.forall_mem_cons.mpr ⟨lw_p13, List.forall_mem_cons.mpr ⟨lw_p14, List.forall_mem_cons.mpr ⟨lw_p15, fun _ h => absurd h List.not_mem_nil⟩⟩⟩⟩⟩⟩⟩⟩⟩⟩⟩⟩⟩⟩⟩⟩
theorem lw_p16 : lw_okq (⟨"EarlyCutModel", "isFile", "(I)Z"⟩, 25) := ⟨⟨by decide +kernel, by decide +kernel⟩, List.mem_of_getElem? (i := 476) (by decide +kernel), List.mem_of_getElem? (i := 570) (by decide +kernel), List.mem_of_getElem? (i := 571) (by decide +kernel)⟩
theorem lw_p17 : lw_okq (⟨"EarlyCutModel", "isStep", "(I)Z"⟩, 25) := ⟨⟨by decide +kernel, by decide +kernel⟩, List.mem_of_getElem? (i := 476) (by decide +kernel), List.mem_of_getElem? (i := 586) (by decide +kernel), List.mem_of_getElem? (i := 587) (by decide +kernel)⟩
theorem lw_p18 : lw_okq (⟨"EarlyCutModel", "more", "(III)Z"⟩, 25) := ⟨⟨by decide +kernel, by decide +kernel⟩, List.mem_of_getElem? (i := 476) (by decide +kernel), List.mem_of_getElem? (i := 590) (by decide +kernel), List.mem_of_getElem? (i := 591) (by decide +kernel)⟩
theorem lw_p19 : lw_okq (⟨"EarlyCutModel", "take", "(I)V"⟩, 25) := ⟨⟨by decide +kernel, by decide +kernel⟩, List.mem_of_getElem? (i := 476) (by decide +kernel), List.mem_of_getElem? (i := 606) (by decide +kernel), List.mem_of_getElem? (i := 607) (by decide +kernel)⟩
theorem lw_p20 : lw_okq (⟨"EarlyCutModel", "isFileRead", "(II)Z"⟩, 25) := ⟨⟨by decide +kernel, by decide +kernel⟩, List.mem_of_getElem? (i := 476) (by decide +kernel), List.mem_of_getElem? (i := 610) (by decide +kernel), List.mem_of_getElem? (i := 611) (by decide +kernel)⟩
theorem lw_p21 : lw_okq (⟨"EarlyCutModel", "mark", "()V"⟩, 25) := ⟨⟨by decide +kernel, by decide +kernel⟩, List.mem_of_getElem? (i := 476) (by decide +kernel), List.mem_of_getElem? (i := 614) (by decide +kernel), List.mem_of_getElem? (i := 615) (by decide +kernel)⟩
theorem lw_p22 : lw_okq (⟨"EarlyCutModel", "isAsWas", "(III)Z"⟩, 25) := ⟨⟨by decide +kernel, by decide +kernel⟩, List.mem_of_getElem? (i := 476) (by decide +kernel), List.mem_of_getElem? (i := 618) (by decide +kernel), List.mem_of_getElem? (i := 619) (by decide +kernel)⟩
theorem lw_p23 : lw_okq (⟨"EarlyCutModel", "thereNow", "(II)Z"⟩, 25) := ⟨⟨by decide +kernel, by decide +kernel⟩, List.mem_of_getElem? (i := 476) (by decide +kernel), List.mem_of_getElem? (i := 625) (by decide +kernel), List.mem_of_getElem? (i := 626) (by decide +kernel)⟩
theorem lw_p24 : lw_okq (⟨"EarlyCutModel", "valueNow", "(II)J"⟩, 25) := ⟨⟨by decide +kernel, by decide +kernel⟩, List.mem_of_getElem? (i := 476) (by decide +kernel), List.mem_of_getElem? (i := 629) (by decide +kernel), List.mem_of_getElem? (i := 630) (by decide +kernel)⟩
theorem lw_p25 : lw_okq (⟨"EarlyCutModel", "partOf", "(II)J"⟩, 25) := ⟨⟨by decide +kernel, by decide +kernel⟩, List.mem_of_getElem? (i := 476) (by decide +kernel), List.mem_of_getElem? (i := 633) (by decide +kernel), List.mem_of_getElem? (i := 634) (by decide +kernel)⟩
theorem lw_p26 : lw_okq (⟨"EarlyCutModel", "go", "(I)I"⟩, 25) := ⟨⟨by decide +kernel, by decide +kernel⟩, List.mem_of_getElem? (i := 476) (by decide +kernel), List.mem_of_getElem? (i := 637) (by decide +kernel), List.mem_of_getElem? (i := 638) (by decide +kernel)⟩
theorem lw_p27 : lw_okq (⟨"EarlyCutModel", "isBlocked", "(I)Z"⟩, 25) := ⟨⟨by decide +kernel, by decide +kernel⟩, List.mem_of_getElem? (i := 476) (by decide +kernel), List.mem_of_getElem? (i := 641) (by decide +kernel), List.mem_of_getElem? (i := 642) (by decide +kernel)⟩
theorem lw_p28 : lw_okq (⟨"EarlyCutModel", "hasOutput", "(I)Z"⟩, 25) := ⟨⟨by decide +kernel, by decide +kernel⟩, List.mem_of_getElem? (i := 476) (by decide +kernel), List.mem_of_getElem? (i := 645) (by decide +kernel), List.mem_of_getElem? (i := 646) (by decide +kernel)⟩
theorem lw_p29 : lw_okq (⟨"EarlyCutModel", "matching", "(I)I"⟩, 25) := ⟨⟨by decide +kernel, by decide +kernel⟩, List.mem_of_getElem? (i := 476) (by decide +kernel), List.mem_of_getElem? (i := 649) (by decide +kernel), List.mem_of_getElem? (i := 650) (by decide +kernel)⟩
theorem lw_p30 : lw_okq (⟨"EarlyCutModel", "bring", "(II)V"⟩, 25) := ⟨⟨by decide +kernel, by decide +kernel⟩, List.mem_of_getElem? (i := 476) (by decide +kernel), List.mem_of_getElem? (i := 653) (by decide +kernel), List.mem_of_getElem? (i := 654) (by decide +kernel)⟩
theorem lw_p31 : lw_okq (⟨"EarlyCutModel", "copy", "(III)V"⟩, 25) := ⟨⟨by decide +kernel, by decide +kernel⟩, List.mem_of_getElem? (i := 476) (by decide +kernel), List.mem_of_getElem? (i := 657) (by decide +kernel), List.mem_of_getElem? (i := 658) (by decide +kernel)⟩
def lw_privs_2 : List (MethodName × Nat) := [(⟨"EarlyCutModel", "isFile", "(I)Z"⟩, 25), (⟨"EarlyCutModel", "isStep", "(I)Z"⟩, 25), (⟨"EarlyCutModel", "more", "(III)Z"⟩, 25), (⟨"EarlyCutModel", "take", "(I)V"⟩, 25), (⟨"EarlyCutModel", "isFileRead", "(II)Z"⟩, 25), (⟨"EarlyCutModel", "mark", "()V"⟩, 25), (⟨"EarlyCutModel", "isAsWas", "(III)Z"⟩, 25), (⟨"EarlyCutModel", "thereNow", "(II)Z"⟩, 25), (⟨"EarlyCutModel", "valueNow", "(II)J"⟩, 25), (⟨"EarlyCutModel", "partOf", "(II)J"⟩, 25), (⟨"EarlyCutModel", "go", "(I)I"⟩, 25), (⟨"EarlyCutModel", "isBlocked", "(I)Z"⟩, 25), (⟨"EarlyCutModel", "hasOutput", "(I)Z"⟩, 25), (⟨"EarlyCutModel", "matching", "(I)I"⟩, 25), (⟨"EarlyCutModel", "bring", "(II)V"⟩, 25), (⟨"EarlyCutModel", "copy", "(III)V"⟩, 25)]
theorem lw_r2 : ∀ q ∈ lw_privs_2, lw_okq q := List.forall_mem_cons.mpr ⟨lw_p16, List.forall_mem_cons.mpr ⟨lw_p17, List.forall_mem_cons.mpr ⟨lw_p18, List.forall_mem_cons.mpr ⟨lw_p19, List.forall_mem_cons.mpr ⟨lw_p20, List.forall_mem_cons.mpr ⟨lw_p21, List.forall_mem_cons.mpr ⟨lw_p22, List.forall_mem_cons.mpr ⟨lw_p23, List.forall_mem_cons.mpr ⟨lw_p24, List.forall_mem_cons.mpr ⟨lw_p25, List.forall_mem_cons.mpr ⟨lw_p26, List.forall_mem_cons.mpr ⟨lw_p27, List.forall_mem_cons.mpr ⟨lw_p28, List.forall_mem_cons.mpr ⟨lw_p29, List.forall_mem_cons.mpr ⟨lw_p30, List.forall_mem_cons.mpr ⟨lw_p31, fun _ h => absurd h List.not_mem_nil⟩⟩⟩⟩⟩⟩⟩⟩⟩⟩⟩⟩⟩⟩⟩⟩
theorem lw_p32 : lw_okq (⟨"EarlyCutModel", "moveBack", "(II)V"⟩, 25) := ⟨⟨by decide +kernel, by decide +kernel⟩, List.mem_of_getElem? (i := 476) (by decide +kernel), List.mem_of_getElem? (i := 661) (by decide +kernel), List.mem_of_getElem? (i := 662) (by decide +kernel)⟩
theorem lw_p33 : lw_okq (⟨"EarlyCutModel", "compare", "(IZJJZ)V"⟩, 25) := ⟨⟨by decide +kernel, by decide +kernel⟩, List.mem_of_getElem? (i := 476) (by decide +kernel), List.mem_of_getElem? (i := 665) (by decide +kernel), List.mem_of_getElem? (i := 666) (by decide +kernel)⟩
theorem lw_p34 : lw_okq (⟨"EarlyCutModel", "causeOf", "(I)I"⟩, 25) := ⟨⟨by decide +kernel, by decide +kernel⟩, List.mem_of_getElem? (i := 476) (by decide +kernel), List.mem_of_getElem? (i := 669) (by decide +kernel), List.mem_of_getElem? (i := 670) (by decide +kernel)⟩
theorem lw_p35 : lw_okq (⟨"EarlyCutModel", "work", "(I)V"⟩, 25) := ⟨⟨by decide +kernel, by decide +kernel⟩, List.mem_of_getElem? (i := 476) (by decide +kernel), List.mem_of_getElem? (i := 673) (by decide +kernel), List.mem_of_getElem? (i := 674) (by decide +kernel)⟩
def lw_privs_3 : List (MethodName × Nat) := [(⟨"EarlyCutModel", "moveBack", "(II)V"⟩, 25), (⟨"EarlyCutModel", "compare", "(IZJJZ)V"⟩, 25), (⟨"EarlyCutModel", "causeOf", "(I)I"⟩, 25), (⟨"EarlyCutModel", "work", "(I)V"⟩, 25)]
theorem lw_r3 : ∀ q ∈ lw_privs_3, lw_okq q := List.forall_mem_cons.mpr ⟨lw_p32, List.forall_mem_cons.mpr ⟨lw_p33, List.forall_mem_cons.mpr ⟨lw_p34, List.forall_mem_cons.mpr ⟨lw_p35, fun _ h => absurd h List.not_mem_nil⟩⟩⟩⟩
def lw_privs : List (MethodName × Nat) := lw_privs_1 ++ (lw_privs_2 ++ (lw_privs_3))
def lw_tbl : List Cond := k2_sels lw_privs ++ tables_1
theorem lw_privs_ok : ∀ q ∈ lw_privs, lw_okq q := by
  show ∀ q ∈ lw_privs_1 ++ (lw_privs_2 ++ (lw_privs_3)), lw_okq q
  exact List.forall_mem_append.mpr ⟨lw_r1, List.forall_mem_append.mpr ⟨lw_r2, lw_r3⟩⟩
end
section
/-! NAMES: classes, fields, methods (by program) -/
def R_N : String := "EarlyCut$Entry"
def F_N : u_T := fun k => match k with
  | 0 => ("EarlyCut$Entry", "there", "[Z", true)
  | 1 => ("EarlyCut$Entry", "values", "[J", true)
  | 2 => ("EarlyCut$Entry", "failure", "I", false)
  | 3 => ("EarlyCut$Entry", "face", "J", false)
  | _ => ("EarlyCut$Entry", "body", "J", false)
def ty_N : Nat → FieldType := fun k => match k with
  | 0 => (.array .boolean)
  | 1 => (.array .long)
  | 2 => .int
  | 3 => .long
  | _ => .long
def R_S : String := "EarlyCut$Source"
def F_S : u_T := fun k => match k with
  | 0 => ("EarlyCut$Source", "there", "Z", false)
  | 1 => ("EarlyCut$Source", "content", "J", false)
  | _ => ("EarlyCut$Source", "touches", "I", false)
def ty_S : Nat → FieldType := fun k => match k with
  | 0 => .boolean
  | 1 => .long
  | _ => .int
def R_T : String := "EarlyCut$Step"
def F_T : u_T := fun k => match k with
  | 0 => ("EarlyCut$Step", "mask", "J", true)
  | 1 => ("EarlyCut$Step", "modulus", "J", true)
  | 2 => ("EarlyCut$Step", "reads", "[I", true)
  | 3 => ("EarlyCut$Step", "readCount", "I", false)
  | 4 => ("EarlyCut$Step", "entries", "[LEarlyCut$Entry;", true)
  | 5 => ("EarlyCut$Step", "entryCount", "I", false)
  | 6 => ("EarlyCut$Step", "forced", "Z", false)
  | 7 => ("EarlyCut$Step", "taken", "Z", false)
  | 8 => ("EarlyCut$Step", "marked", "Z", false)
  | 9 => ("EarlyCut$Step", "latestState", "I", false)
  | _ => ("EarlyCut$Step", "latestCause", "I", false)
def ty_T : Nat → FieldType := fun k => match k with
  | 0 => .long
  | 1 => .long
  | 2 => (.array .int)
  | 3 => .int
  | 4 => (.array (.object "EarlyCut$Entry"))
  | 5 => .int
  | 6 => .boolean
  | 7 => .boolean
  | 8 => .boolean
  | 9 => .int
  | _ => .int
def R_A : String := "EarlyCut"
def F_A : u_T := fun k => match k with
  | 0 => ("EarlyCut", "allFiles", "[LEarlyCut$Source;", true)
  | 1 => ("EarlyCut", "fileCount", "I", false)
  | 2 => ("EarlyCut", "allSteps", "[LEarlyCut$Step;", true)
  | 3 => ("EarlyCut", "stepCount", "I", false)
  | 4 => ("EarlyCut", "latestCounts", "[I", true)
  | 5 => ("EarlyCut", "doneByCause", "[I", true)
  | _ => ("EarlyCut", "cutOfDone", "I", false)
def ty_A : Nat → FieldType := fun k => match k with
  | 0 => (.array (.object "EarlyCut$Source"))
  | 1 => .int
  | 2 => (.array (.object "EarlyCut$Step"))
  | 3 => .int
  | 4 => (.array .int)
  | 5 => (.array .int)
  | _ => .int
def R_M : String := "EarlyCutModel"
def F_M : u_T := fun k => match k with
  | 0 => ("EarlyCutModel", "code", "I", false)
  | 1 => ("EarlyCutModel", "files", "I", false)
  | 2 => ("EarlyCutModel", "steps", "I", false)
  | 3 => ("EarlyCutModel", "content", "[J", true)
  | 4 => ("EarlyCutModel", "mask", "[J", true)
  | 5 => ("EarlyCutModel", "modulus", "[J", true)
  | 6 => ("EarlyCutModel", "isThere", "[Z", true)
  | 7 => ("EarlyCutModel", "forced", "[Z", true)
  | 8 => ("EarlyCutModel", "touched", "[I", true)
  | 9 => ("EarlyCutModel", "reads", "[I", true)
  | 10 => ("EarlyCutModel", "readOf", "[I", true)
  | 11 => ("EarlyCutModel", "readPart", "[I", true)
  | 12 => ("EarlyCutModel", "records", "[I", true)
  | 13 => ("EarlyCutModel", "failedBy", "[I", true)
  | 14 => ("EarlyCutModel", "body", "[J", true)
  | 15 => ("EarlyCutModel", "was", "[J", true)
  | 16 => ("EarlyCutModel", "wasThere", "[Z", true)
  | 17 => ("EarlyCutModel", "state", "[I", true)
  | 18 => ("EarlyCutModel", "cause", "[I", true)
  | 19 => ("EarlyCutModel", "counts", "[I", true)
  | 20 => ("EarlyCutModel", "totals", "[I", true)
  | 21 => ("EarlyCutModel", "taken", "[Z", true)
  | 22 => ("EarlyCutModel", "marked", "[Z", true)
  | 23 => ("EarlyCutModel", "cutDone", "I", false)
  | _ => ("EarlyCutModel", "allDone", "I", false)
def ty_M : Nat → FieldType := fun k => match k with
  | 0 => .int
  | 1 => .int
  | 2 => .int
  | 3 => (.array .long)
  | 4 => (.array .long)
  | 5 => (.array .long)
  | 6 => (.array .boolean)
  | 7 => (.array .boolean)
  | 8 => (.array .int)
  | 9 => (.array .int)
  | 10 => (.array .int)
  | 11 => (.array .int)
  | 12 => (.array .int)
  | 13 => (.array .int)
  | 14 => (.array .long)
  | 15 => (.array .long)
  | 16 => (.array .boolean)
  | 17 => (.array .int)
  | 18 => (.array .int)
  | 19 => (.array .int)
  | 20 => (.array .int)
  | 21 => (.array .boolean)
  | 22 => (.array .boolean)
  | 23 => .int
  | _ => .int
def R_W : String := "EarlyCutLaw"
abbrev g_cl : List vw_C := [(R_N, F_N, 5), (R_S, F_S, 3), (R_T, F_T, 11), (R_A, F_A, 7), (R_M, F_M, 25)]
abbrev gE : Type := (Nat → ClassId) × (Nat → Nat → Nat) × (Nat → ClassId)
def g_tys (E : gE) : List (ClassId × FieldType) := [(E.2.2 100, .int), (E.2.2 101, .long), (E.2.2 102, .boolean), (E.2.2 103, (.object "EarlyCut$Source")), (E.2.2 104, (.object "EarlyCut$Step")), (E.2.2 105, (.object "EarlyCut$Entry"))]
def g_tb : List Cond := lw_tbl.filter goodWord
theorem g_allgood : ∀ w ∈ g_tb, w ∈ g_tb ∧ ((w.onTables && w.keeps) = true ∨ ∃ ty, w = .arrayClass ty) := fun w h => ⟨h, good_of_word (List.mem_filter.mp h).2⟩
theorem g_m1 {w : Cond} (i : Nat) (h : tables_1_1[i]? = some w) (hg : goodWord w = true) : w ∈ g_tb := List.mem_filter.mpr ⟨List.mem_append_right _ (List.mem_append_left _ <| List.mem_of_getElem? h), hg⟩
theorem g_m2 {w : Cond} (i : Nat) (h : tables_1_2[i]? = some w) (hg : goodWord w = true) : w ∈ g_tb := List.mem_filter.mpr ⟨List.mem_append_right _ (List.mem_append_right _ <| List.mem_append_left _ <| List.mem_of_getElem? h), hg⟩
theorem g_m3 {w : Cond} (i : Nat) (h : tables_1_3[i]? = some w) (hg : goodWord w = true) : w ∈ g_tb := List.mem_filter.mpr ⟨List.mem_append_right _ (List.mem_append_right _ <| List.mem_append_right _ <| List.mem_of_getElem? h), hg⟩
theorem g_mp {w : Cond} (h : w ∈ k2_sels lw_privs) (hg : goodWord w = true) : w ∈ g_tb := List.mem_filter.mpr ⟨List.mem_append_left _ h, hg⟩
theorem n_N : ∀ a, a < 5 → ∀ b, b < 5 → a ≠ b → (F_N a).2.1 ≠ (F_N b).2.1 := by decide +kernel
theorem ty_N_ok : ∀ k, k < 5 → parseFieldDescriptor (F_N k).2.2.1 = some (ty_N k) := by decide +kernel
theorem i_N : ∀ w ∈ u_ws R_N F_N 5, w ∈ g_tb := by decide +kernel
theorem n_S : ∀ a, a < 3 → ∀ b, b < 3 → a ≠ b → (F_S a).2.1 ≠ (F_S b).2.1 := by decide +kernel
theorem ty_S_ok : ∀ k, k < 3 → parseFieldDescriptor (F_S k).2.2.1 = some (ty_S k) := by decide +kernel
theorem i_S : ∀ w ∈ u_ws R_S F_S 3, w ∈ g_tb := by decide +kernel
theorem n_T : ∀ a, a < 11 → ∀ b, b < 11 → a ≠ b → (F_T a).2.1 ≠ (F_T b).2.1 := by decide +kernel
theorem ty_T_ok : ∀ k, k < 11 → parseFieldDescriptor (F_T k).2.2.1 = some (ty_T k) := by decide +kernel
theorem i_T : ∀ w ∈ u_ws R_T F_T 11, w ∈ g_tb := by decide +kernel
theorem n_A : ∀ a, a < 7 → ∀ b, b < 7 → a ≠ b → (F_A a).2.1 ≠ (F_A b).2.1 := by decide +kernel
theorem ty_A_ok : ∀ k, k < 7 → parseFieldDescriptor (F_A k).2.2.1 = some (ty_A k) := by decide +kernel
theorem i_A : ∀ w ∈ u_ws R_A F_A 7, w ∈ g_tb := by decide +kernel
theorem n_M : ∀ a, a < 25 → ∀ b, b < 25 → a ≠ b → (F_M a).2.1 ≠ (F_M b).2.1 := by decide +kernel
theorem ty_M_ok : ∀ k, k < 25 → parseFieldDescriptor (F_M k).2.2.1 = some (ty_M k) := by decide +kernel
theorem i_M : ∀ w ∈ u_ws R_M F_M 25, w ∈ g_tb := by decide +kernel
abbrev b_A_init : ByteArray := prog_1_method_1_code
def y_A_init : MethodName := ⟨R_A, "<init>", "()V"⟩
abbrev b_A_file : ByteArray := prog_1_method_2_code
def y_A_file : MethodName := ⟨R_A, "file", "(J)I"⟩
abbrev b_A_set : ByteArray := prog_1_method_3_code
def y_A_set : MethodName := ⟨R_A, "set", "(IZJ)Z"⟩
abbrev b_A_touch : ByteArray := prog_1_method_4_code
def y_A_touch : MethodName := ⟨R_A, "touch", "(I)I"⟩
abbrev b_A_step : ByteArray := prog_1_method_5_code
def y_A_step : MethodName := ⟨R_A, "step", "(JJ)I"⟩
abbrev b_A_readsFile : ByteArray := prog_1_method_6_code
def y_A_readsFile : MethodName := ⟨R_A, "readsFile", "(II)Z"⟩
abbrev b_A_readsPart : ByteArray := prog_1_method_7_code
def y_A_readsPart : MethodName := ⟨R_A, "readsPart", "(III)Z"⟩
abbrev b_A_force : ByteArray := prog_1_method_8_code
def y_A_force : MethodName := ⟨R_A, "force", "(I)Z"⟩
abbrev b_A_build : ByteArray := prog_1_method_9_code
def y_A_build : MethodName := ⟨R_A, "build", "(I)I"⟩
abbrev b_A_state : ByteArray := prog_1_method_10_code
def y_A_state : MethodName := ⟨R_A, "state", "(I)I"⟩
abbrev b_A_cause : ByteArray := prog_1_method_11_code
def y_A_cause : MethodName := ⟨R_A, "cause", "(I)I"⟩
abbrev b_A_counted : ByteArray := prog_1_method_12_code
def y_A_counted : MethodName := ⟨R_A, "counted", "(I)I"⟩
abbrev b_A_output : ByteArray := prog_1_method_13_code
def y_A_output : MethodName := ⟨R_A, "output", "(II)J"⟩
abbrev b_A_records : ByteArray := prog_1_method_14_code
def y_A_records : MethodName := ⟨R_A, "records", "(I)I"⟩
abbrev b_A_record : ByteArray := prog_1_method_15_code
def y_A_record : MethodName := ⟨R_A, "record", "(III)J"⟩
abbrev b_A_failed : ByteArray := prog_1_method_16_code
def y_A_failed : MethodName := ⟨R_A, "failed", "(II)I"⟩
abbrev b_A_total : ByteArray := prog_1_method_17_code
def y_A_total : MethodName := ⟨R_A, "total", "(I)I"⟩
abbrev b_A_share : ByteArray := prog_1_method_18_code
def y_A_share : MethodName := ⟨R_A, "share", "()I"⟩
abbrev b_A_sourceAt : ByteArray := prog_1_method_19_code
def y_A_sourceAt : MethodName := ⟨R_A, "sourceAt", "(I)LEarlyCut$Source;"⟩
abbrev b_A_stepAt : ByteArray := prog_1_method_20_code
def y_A_stepAt : MethodName := ⟨R_A, "stepAt", "(I)LEarlyCut$Step;"⟩
abbrev b_A_isPart : ByteArray := prog_1_method_21_code
def y_A_isPart : MethodName := ⟨R_A, "isPart", "(I)Z"⟩
abbrev b_A_codeOfFile : ByteArray := prog_1_method_22_code
def y_A_codeOfFile : MethodName := ⟨R_A, "codeOfFile", "(I)I"⟩
abbrev b_A_codeOfPart : ByteArray := prog_1_method_23_code
def y_A_codeOfPart : MethodName := ⟨R_A, "codeOfPart", "(II)I"⟩
abbrev b_A_isFileCode : ByteArray := prog_1_method_24_code
def y_A_isFileCode : MethodName := ⟨R_A, "isFileCode", "(I)Z"⟩
abbrev b_A_stepOfCode : ByteArray := prog_1_method_25_code
def y_A_stepOfCode : MethodName := ⟨R_A, "stepOfCode", "(I)LEarlyCut$Step;"⟩
abbrev b_A_partOfCode : ByteArray := prog_1_method_26_code
def y_A_partOfCode : MethodName := ⟨R_A, "partOfCode", "(I)I"⟩
abbrev b_A_forgetLatestBuild : ByteArray := prog_1_method_27_code
def y_A_forgetLatestBuild : MethodName := ⟨R_A, "forgetLatestBuild", "()V"⟩
abbrev b_A_takeNeeded : ByteArray := prog_1_method_28_code
def y_A_takeNeeded : MethodName := ⟨R_A, "takeNeeded", "(I)V"⟩
abbrev b_A_takeStepsReadBy : ByteArray := prog_1_method_29_code
def y_A_takeStepsReadBy : MethodName := ⟨R_A, "takeStepsReadBy", "(LEarlyCut$Step;)V"⟩
abbrev b_A_buildOne : ByteArray := prog_1_method_30_code
def y_A_buildOne : MethodName := ⟨R_A, "buildOne", "(LEarlyCut$Step;)V"⟩
abbrev b_A_isMarked : ByteArray := prog_1_method_31_code
def y_A_isMarked : MethodName := ⟨R_A, "isMarked", "(LEarlyCut$Step;)Z"⟩
abbrev b_A_marksItsReader : ByteArray := prog_1_method_32_code
def y_A_marksItsReader : MethodName := ⟨R_A, "marksItsReader", "(ILEarlyCut$Entry;I)Z"⟩
abbrev b_A_isBlocked : ByteArray := prog_1_method_33_code
def y_A_isBlocked : MethodName := ⟨R_A, "isBlocked", "(LEarlyCut$Step;)Z"⟩
abbrev b_A_bringUpToDate : ByteArray := prog_1_method_34_code
def y_A_bringUpToDate : MethodName := ⟨R_A, "bringUpToDate", "(LEarlyCut$Step;)V"⟩
abbrev b_A_readNow : ByteArray := prog_1_method_35_code
def y_A_readNow : MethodName := ⟨R_A, "readNow", "(LEarlyCut$Step;)LEarlyCut$Entry;"⟩
abbrev b_A_isThereNow : ByteArray := prog_1_method_36_code
def y_A_isThereNow : MethodName := ⟨R_A, "isThereNow", "(I)Z"⟩
abbrev b_A_valueNow : ByteArray := prog_1_method_37_code
def y_A_valueNow : MethodName := ⟨R_A, "valueNow", "(I)J"⟩
abbrev b_A_causeToRedo : ByteArray := prog_1_method_38_code
def y_A_causeToRedo : MethodName := ⟨R_A, "causeToRedo", "(LEarlyCut$Step;LEarlyCut$Entry;)I"⟩
abbrev b_A_compareOutputs : ByteArray := prog_1_method_39_code
def y_A_compareOutputs : MethodName := ⟨R_A, "compareOutputs", "(LEarlyCut$Entry;LEarlyCut$Step;)V"⟩
abbrev b_M_init : ByteArray := prog_6_method_1_code
def y_M_init : MethodName := ⟨R_M, "<init>", "()V"⟩
abbrev b_M_thrown : ByteArray := prog_6_method_2_code
def y_M_thrown : MethodName := ⟨R_M, "thrown", "()I"⟩
abbrev b_M_isFile : ByteArray := prog_6_method_3_code
def y_M_isFile : MethodName := ⟨R_M, "isFile", "(I)Z"⟩
abbrev b_M_isStep : ByteArray := prog_6_method_4_code
def y_M_isStep : MethodName := ⟨R_M, "isStep", "(I)Z"⟩
abbrev b_M_file : ByteArray := prog_6_method_5_code
def y_M_file : MethodName := ⟨R_M, "file", "(J)I"⟩
abbrev b_M_set : ByteArray := prog_6_method_6_code
def y_M_set : MethodName := ⟨R_M, "set", "(IZJ)Z"⟩
abbrev b_M_touch : ByteArray := prog_6_method_7_code
def y_M_touch : MethodName := ⟨R_M, "touch", "(I)I"⟩
abbrev b_M_step : ByteArray := prog_6_method_8_code
def y_M_step : MethodName := ⟨R_M, "step", "(JJ)I"⟩
abbrev b_M_more : ByteArray := prog_6_method_9_code
def y_M_more : MethodName := ⟨R_M, "more", "(III)Z"⟩
abbrev b_M_readsFile : ByteArray := prog_6_method_10_code
def y_M_readsFile : MethodName := ⟨R_M, "readsFile", "(II)Z"⟩
abbrev b_M_readsPart : ByteArray := prog_6_method_11_code
def y_M_readsPart : MethodName := ⟨R_M, "readsPart", "(III)Z"⟩
abbrev b_M_force : ByteArray := prog_6_method_12_code
def y_M_force : MethodName := ⟨R_M, "force", "(I)Z"⟩
abbrev b_M_record4 : ByteArray := prog_6_method_13_code
def y_M_record4 : MethodName := ⟨R_M, "record4", "(II)I"⟩
abbrev b_M_isFileRead : ByteArray := prog_6_method_14_code
def y_M_isFileRead : MethodName := ⟨R_M, "isFileRead", "(II)Z"⟩
abbrev b_M_partOf : ByteArray := prog_6_method_15_code
def y_M_partOf : MethodName := ⟨R_M, "partOf", "(II)J"⟩
abbrev b_M_valueNow : ByteArray := prog_6_method_16_code
def y_M_valueNow : MethodName := ⟨R_M, "valueNow", "(II)J"⟩
abbrev b_M_thereNow : ByteArray := prog_6_method_17_code
def y_M_thereNow : MethodName := ⟨R_M, "thereNow", "(II)Z"⟩
abbrev b_M_isAsWas : ByteArray := prog_6_method_18_code
def y_M_isAsWas : MethodName := ⟨R_M, "isAsWas", "(III)Z"⟩
abbrev b_M_matching : ByteArray := prog_6_method_19_code
def y_M_matching : MethodName := ⟨R_M, "matching", "(I)I"⟩
abbrev b_M_copy : ByteArray := prog_6_method_20_code
def y_M_copy : MethodName := ⟨R_M, "copy", "(III)V"⟩
abbrev b_M_moveBack : ByteArray := prog_6_method_21_code
def y_M_moveBack : MethodName := ⟨R_M, "moveBack", "(II)V"⟩
abbrev b_M_bring : ByteArray := prog_6_method_22_code
def y_M_bring : MethodName := ⟨R_M, "bring", "(II)V"⟩
abbrev b_M_hasOutput : ByteArray := prog_6_method_23_code
def y_M_hasOutput : MethodName := ⟨R_M, "hasOutput", "(I)Z"⟩
abbrev b_M_take : ByteArray := prog_6_method_24_code
def y_M_take : MethodName := ⟨R_M, "take", "(I)V"⟩
abbrev b_M_mark : ByteArray := prog_6_method_25_code
def y_M_mark : MethodName := ⟨R_M, "mark", "()V"⟩
abbrev b_M_isBlocked : ByteArray := prog_6_method_26_code
def y_M_isBlocked : MethodName := ⟨R_M, "isBlocked", "(I)Z"⟩
abbrev b_M_causeOf : ByteArray := prog_6_method_27_code
def y_M_causeOf : MethodName := ⟨R_M, "causeOf", "(I)I"⟩
abbrev b_M_work : ByteArray := prog_6_method_28_code
def y_M_work : MethodName := ⟨R_M, "work", "(I)V"⟩
abbrev b_M_compare : ByteArray := prog_6_method_29_code
def y_M_compare : MethodName := ⟨R_M, "compare", "(IZJJZ)V"⟩
abbrev b_M_go : ByteArray := prog_6_method_30_code
def y_M_go : MethodName := ⟨R_M, "go", "(I)I"⟩
abbrev b_M_build : ByteArray := prog_6_method_31_code
def y_M_build : MethodName := ⟨R_M, "build", "(I)I"⟩
abbrev b_M_state : ByteArray := prog_6_method_32_code
def y_M_state : MethodName := ⟨R_M, "state", "(I)I"⟩
abbrev b_M_cause : ByteArray := prog_6_method_33_code
def y_M_cause : MethodName := ⟨R_M, "cause", "(I)I"⟩
abbrev b_M_counted : ByteArray := prog_6_method_34_code
def y_M_counted : MethodName := ⟨R_M, "counted", "(I)I"⟩
abbrev b_M_output : ByteArray := prog_6_method_35_code
def y_M_output : MethodName := ⟨R_M, "output", "(II)J"⟩
abbrev b_M_records : ByteArray := prog_6_method_36_code
def y_M_records : MethodName := ⟨R_M, "records", "(I)I"⟩
abbrev b_M_record : ByteArray := prog_6_method_37_code
def y_M_record : MethodName := ⟨R_M, "record", "(III)J"⟩
abbrev b_M_failed : ByteArray := prog_6_method_38_code
def y_M_failed : MethodName := ⟨R_M, "failed", "(II)I"⟩
abbrev b_M_total : ByteArray := prog_6_method_39_code
def y_M_total : MethodName := ⟨R_M, "total", "(I)I"⟩
abbrev b_M_share : ByteArray := prog_6_method_40_code
def y_M_share : MethodName := ⟨R_M, "share", "()I"⟩
abbrev b_N_init : ByteArray := prog_2_method_1_code
def y_N_init : MethodName := ⟨R_N, "<init>", "()V"⟩
abbrev b_N_hasFailed : ByteArray := prog_2_method_2_code
def y_N_hasFailed : MethodName := ⟨R_N, "hasFailed", "()Z"⟩
abbrev b_N_partOfOutput : ByteArray := prog_2_method_3_code
def y_N_partOfOutput : MethodName := ⟨R_N, "partOfOutput", "(I)J"⟩
abbrev b_N_differsAt : ByteArray := prog_2_method_4_code
def y_N_differsAt : MethodName := ⟨R_N, "differsAt", "(IZJ)Z"⟩
abbrev b_N_firstDifference : ByteArray := prog_2_method_5_code
def y_N_firstDifference : MethodName := ⟨R_N, "firstDifference", "(LEarlyCut$Entry;I)I"⟩
abbrev b_N_firstMissing : ByteArray := prog_2_method_6_code
def y_N_firstMissing : MethodName := ⟨R_N, "firstMissing", "(I)I"⟩
abbrev b_S_init : ByteArray := prog_3_method_1_code
def y_S_init : MethodName := ⟨R_S, "<init>", "(J)V"⟩
abbrev b_T_init : ByteArray := prog_4_method_1_code
def y_T_init : MethodName := ⟨R_T, "<init>", "(JJ)V"⟩
abbrev b_T_entryAt : ByteArray := prog_4_method_2_code
def y_T_entryAt : MethodName := ⟨R_T, "entryAt", "(I)LEarlyCut$Entry;"⟩
abbrev b_T_spareEntry : ByteArray := prog_4_method_3_code
def y_T_spareEntry : MethodName := ⟨R_T, "spareEntry", "()LEarlyCut$Entry;"⟩
abbrev b_T_addRead : ByteArray := prog_4_method_4_code
def y_T_addRead : MethodName := ⟨R_T, "addRead", "(I)Z"⟩
abbrev b_T_hasRead : ByteArray := prog_4_method_5_code
def y_T_hasRead : MethodName := ⟨R_T, "hasRead", "(I)Z"⟩
abbrev b_T_forgetLatestBuild : ByteArray := prog_4_method_6_code
def y_T_forgetLatestBuild : MethodName := ⟨R_T, "forgetLatestBuild", "()V"⟩
abbrev b_T_isWithoutOutput : ByteArray := prog_4_method_7_code
def y_T_isWithoutOutput : MethodName := ⟨R_T, "isWithoutOutput", "()Z"⟩
abbrev b_T_placeOfSameReads : ByteArray := prog_4_method_8_code
def y_T_placeOfSameReads : MethodName := ⟨R_T, "placeOfSameReads", "(LEarlyCut$Entry;)I"⟩
abbrev b_T_reuse : ByteArray := prog_4_method_9_code
def y_T_reuse : MethodName := ⟨R_T, "reuse", "(I)V"⟩
abbrev b_T_redo : ByteArray := prog_4_method_10_code
def y_T_redo : MethodName := ⟨R_T, "redo", "(I)V"⟩
abbrev b_T_fillOutcome : ByteArray := prog_4_method_11_code
def y_T_fillOutcome : MethodName := ⟨R_T, "fillOutcome", "(LEarlyCut$Entry;)V"⟩
abbrev b_T_bringFirst : ByteArray := prog_4_method_12_code
def y_T_bringFirst : MethodName := ⟨R_T, "bringFirst", "(I)V"⟩
abbrev b_W_output : ByteArray := method_3_code
def y_W_output : MethodName := ⟨R_W, "output", "(LEarlyCut;II[J)I"⟩
abbrev b_W_share : ByteArray := method_4_code
def y_W_share : MethodName := ⟨R_W, "share", "(LEarlyCut;[J)I"⟩
def g_nest : Cond := .methodLinkNest R_T 51 y_N_init "EarlyCut"
end
section
/-! BASE: a lighter machine over the kit's. Values are typed (gT); the heap is a picture: L says which cells there are (kind, address, size), V what they hold (kind, address, place). Kinds below 100 are classes (places in g_cl), those from 100 on are arrays (their types in g_tys). vW is W at any heap that holds the picture. -/
abbrev gT : Type := Int32 ⊕ Int64 ⊕ Option Nat
abbrev tI (x : Int32) : gT := .inl x
abbrev tJ (x : Int64) : gT := .inr (.inl x)
abbrev tR (x : Option Nat) : gT := .inr (.inr x)
def g_val (t : gT) : Value := match t with
  | .inl x => .int x
  | .inr (.inl y) => .long y
  | .inr (.inr r) => va_rf r
def g_two (t : gT) : Bool := match t with
  | .inr (.inl _) => true
  | _ => false
theorem g_cat (t : gT) : (g_val t).category = if g_two t = true then 2 else 1 := by
  rcases t with x | y | r
  · rfl
  · rfl
  · cases r <;> rfl
def g_c (t : gT) : Nat := match t with
  | .inr (.inl _) => 2
  | _ => 1
theorem g_c_eq : (fun t => (g_val t).category) = g_c := by
  funext t
  rcases t with x | y | r
  · rfl
  · rfl
  · cases r <;> rfl
abbrev gL : Type := Nat × (Nat → Nat → Option Nat)
abbrev gV : Type := Nat → Nat → Nat → gT
def g_st (V : gV) (k a i : Nat) (t : gT) : gV := fun k' a' i' => if k' = k ∧ a' = a ∧ i' = i then t else V k' a' i'
def g_f (V : gV) (k a : Nat) : Nat → Value := fun i => g_val (V k a i)
def g_at (E : gE) (k a n : Nat) (f : Nat → Value) (H : Heap) : Prop := (∀ r : vw_C, g_cl[k]? = some r → n = r.2.2 ∧ t_OB a (E.1 k) r.2.2 (E.2.1 k) H f) ∧ (g_cl[k]? = none → H[a]? = some (arrV (E.2.2 k) n f))
def g_hp (E : gE) (base : Nat) (L : gL) (V : gV) (H : Heap) : Prop :=
  H.size = L.1 ∧ (∀ k a n : Nat, L.2 k a = some n → base ≤ a ∧ g_at E k a n (g_f V k a) H) ∧ ∀ k k' a n n' : Nat, L.2 k a = some n → L.2 k' a = some n' → k = k'
theorem g_at.kept {E : gE} {k a n : Nat} {f : Nat → Value} {H H1 : Heap} (h : g_at E k a n f H) (hq : H1[a]? = H[a]?) : g_at E k a n f H1 :=
  ⟨fun r hr => ⟨(h.1 r hr).1, (h.1 r hr).2.kept hq⟩, fun hn => hq.trans (h.2 hn)⟩
theorem g_at.lt {E : gE} {k a n : Nat} {f : Nat → Value} {H : Heap} (h : g_at E k a n f H) : a < H.size := by
  cases hc : g_cl[k]? with
  | none => exact (Array.getElem?_eq_some_iff.mp (h.2 hc)).1
  | some r =>
    obtain ⟨-, cell, hcell, -⟩ := h.1 r hc
    exact (Array.getElem?_eq_some_iff.mp hcell).1
theorem g_hp.put {E : gE} {base : Nat} {L : gL} {V : gV} {H H1 : Heap} {k a n i : Nat} {t : gT} (h : g_hp E base L V H) (hL : L.2 k a = some n) (hz : H1.size = H.size) (oq : ∀ q : Nat, q ≠ a → H1[q]? = H[q]?) (ha : g_at E k a n (updV (g_f V k a) i (g_val t)) H1) : g_hp E base L (g_st V k a i t) H1 := by
  refine ⟨hz.trans h.1, fun k' a' n' h' => ⟨(h.2.1 k' a' n' h').1, ?_⟩, h.2.2⟩
  by_cases e : a' = a
  · subst e
    have ek : k' = k := h.2.2 _ _ _ _ _ h' hL
    subst ek
    have en : n' = n := Option.some.inj (h'.symm.trans hL)
    subst en
    have ef : g_f (g_st V k' a' i t) k' a' = updV (g_f V k' a') i (g_val t) := by
      funext j
      by_cases hj : j = i <;> simp [g_f, g_st, updV, hj]
    rw [ef]
    exact ha
  · have ef : g_f (g_st V k a i t) k' a' = g_f V k' a' := by
      funext j
      simp [g_f, g_st, e]
    rw [ef]
    exact (h.2.1 k' a' n' h').2.kept (oq a' e)
-- a new cell
def g_nL (L : gL) (k n : Nat) : gL := (L.1 + 1, fun k' a' => if k' = k ∧ a' = L.1 then some n else L.2 k' a')
def g_nV (V : gV) (k a : Nat) (d : Nat → gT) : gV := fun k' a' i' => if k' = k ∧ a' = a then d i' else V k' a' i'
theorem g_hp.new {E : gE} {base : Nat} {L : gL} {V : gV} {H H1 : Heap} {k n : Nat} {d : Nat → gT} (h : g_hp E base L V H) (hb : base ≤ H.size) (hz : H1.size = H.size + 1) (oq : ∀ q : Nat, q < H.size → H1[q]? = H[q]?) (ha : g_at E k H.size n (fun i => g_val (d i)) H1) : g_hp E base (g_nL L k n) (g_nV V k L.1 d) H1 := by
  have hfr : ∀ k a n : Nat, L.2 k a = some n → a ≠ L.1 := fun k a n hq e => by
    have := (h.2.1 k a n hq).2.lt
    rw [h.1] at this
    omega
  refine ⟨by rw [hz, h.1]; rfl, fun k' a' n' h' => ?_, fun k1 k2 a n1 n2 h1 h2 => ?_⟩
  · by_cases e : k' = k ∧ a' = L.1
    · obtain ⟨rfl, rfl⟩ := e
      have en : n' = n := by simpa [g_nL] using h'.symm
      subst en
      have ef : g_f (g_nV V k' L.1 d) k' L.1 = fun i => g_val (d i) := by
        funext j
        simp [g_f, g_nV]
      rw [ef, ← h.1]
      exact ⟨hb, ha⟩
    · have h2 : L.2 k' a' = some n' := by simpa [g_nL, e] using h'
      have ef : g_f (g_nV V k L.1 d) k' a' = g_f V k' a' := by
        funext j
        simp [g_f, g_nV, e]
      rw [ef]
      exact ⟨(h.2.1 k' a' n' h2).1, (h.2.1 k' a' n' h2).2.kept (oq a' (h.2.1 k' a' n' h2).2.lt)⟩
  · by_cases e1 : k1 = k ∧ a = L.1
    · by_cases e2 : k2 = k ∧ a = L.1
      · exact e1.1.trans e2.1.symm
      · have g2 : L.2 k2 a = some n2 := by simpa [g_nL, e2] using h2
        exact absurd e1.2 (hfr _ _ _ g2)
    · have g1 : L.2 k1 a = some n1 := by simpa [g_nL, e1] using h1
      by_cases e2 : k2 = k ∧ a = L.1
      · exact absurd e2.2 (hfr _ _ _ g1)
      · have g2 : L.2 k2 a = some n2 := by simpa [g_nL, e2] using h2
        exact h.2.2 _ _ _ _ _ g1 g2
-- reads and writes of the picture
def g_rd (L : gL) (V : gV) (k a i : Nat) : Option gT := match L.2 k a with
  | none => none
  | some n => if i < n then some (V k a i) else none
def g_toI (t : gT) : Option Int32 := match t with
  | .inl x => some x
  | _ => none
def g_toJ (t : gT) : Option Int64 := match t with
  | .inr (.inl x) => some x
  | _ => none
def g_toR (t : gT) : Option (Option Nat) := match t with
  | .inr (.inr x) => some x
  | _ => none
def g_rI (L : gL) (V : gV) (k a i : Nat) : Option Int32 := (g_rd L V k a i).bind g_toI
def g_rJ (L : gL) (V : gV) (k a i : Nat) : Option Int64 := (g_rd L V k a i).bind g_toJ
def g_rR (L : gL) (V : gV) (k a i : Nat) : Option (Option Nat) := (g_rd L V k a i).bind g_toR
def g_ix (L : gL) (k a : Nat) (x : Int32) : Option Nat := match L.2 k a with
  | none => none
  | some n => if x < 0 ∨ n ≤ x.toNatClampNeg then none else some x.toNatClampNeg
def g_aI (L : gL) (V : gV) (k a : Nat) (x : Int32) : Option Int32 := (g_ix L k a x).bind fun i => g_toI (V k a i)
def g_aJ (L : gL) (V : gV) (k a : Nat) (x : Int32) : Option Int64 := (g_ix L k a x).bind fun i => g_toJ (V k a i)
def g_aR (L : gL) (V : gV) (k a : Nat) (x : Int32) : Option (Option Nat) := (g_ix L k a x).bind fun i => g_toR (V k a i)
def g_wr (L : gL) (V : gV) (k a i : Nat) (t : gT) : Option gV := match L.2 k a with
  | none => none
  | some n => if i < n then some (g_st V k a i t) else none
def g_wa (L : gL) (V : gV) (k a : Nat) (x : Int32) (t : gT) : Option gV := (g_ix L k a x).bind fun i => some (g_st V k a i t)
def g_bz (x : Int32) : Option Unit := if x = 0 ∨ x = 1 then some () else none
def g_nz {α : Type} (c : Prop) (f : Decidable c) (r : Option α) : Option α := @ite _ c f none r
def g_on {α : Type} (r : Option Nat) (x : Option α) (f : Nat → Option α) : Option α := match r with
  | none => x
  | some a => f a
def g_b2 {α β : Type} (o : Option (α × gV)) (f : α → gV → Option β) : Option β := match o with
  | none => none
  | some z => f z.1 z.2
def g_b3 {α β : Type} (o : Option (α × gL × gV)) (f : α → gL → gV → Option β) : Option β := match o with
  | none => none
  | some z => f z.1 z.2.1 z.2.2
def g_new (L : gL) (V : gV) (k n : Nat) (d : Nat → gT) : Option (gL × gV) := some (g_nL L k n, g_nV V k L.1 d)
def g_bn {β : Type} (o : Option (gL × gV)) (f : gL → gV → Option β) : Option β := match o with
  | none => none
  | some z => f z.1 z.2
theorem g_ob {α β : Type} {o : Option α} {f : α → Option β} {z : β} (h : Option.bind o f = some z) : ∃ x, o = some x ∧ f x = some z := by
  cases o with
  | none => cases h
  | some x => exact ⟨x, rfl, h⟩
theorem g_o2 {α β : Type} {o : Option (α × gV)} {f : α → gV → Option β} {z : β} (h : g_b2 o f = some z) : ∃ x V, o = some (x, V) ∧ f x V = some z := by
  cases o with
  | none => cases h
  | some x => exact ⟨x.1, x.2, rfl, h⟩
theorem g_o3 {α β : Type} {o : Option (α × gL × gV)} {f : α → gL → gV → Option β} {z : β} (h : g_b3 o f = some z) : ∃ x L V, o = some (x, L, V) ∧ f x L V = some z := by
  cases o with
  | none => cases h
  | some x => exact ⟨x.1, x.2.1, x.2.2, rfl, h⟩
theorem g_obn {β : Type} {o : Option (gL × gV)} {f : gL → gV → Option β} {z : β} (h : g_bn o f = some z) : ∃ L V, o = some (L, V) ∧ f L V = some z := by
  cases o with
  | none => cases h
  | some x => exact ⟨x.1, x.2, rfl, h⟩
theorem g_oon {α : Type} {r : Option Nat} {x : Option α} {f : Nat → Option α} {z : α} (h : g_on r x f = some z) : (r = none ∧ x = some z) ∨ ∃ a, r = some a ∧ f a = some z := by
  cases r with
  | none => exact Or.inl ⟨rfl, h⟩
  | some a => exact Or.inr ⟨a, rfl, h⟩
theorem g_bz_spec {x : Int32} {u : Unit} (h : g_bz x = some u) : x = 0 ∨ x = 1 := by
  unfold g_bz at h
  by_cases hx : x = 0 ∨ x = 1
  · exact hx
  · rw [if_neg hx] at h; cases h
theorem g_rd_spec {L : gL} {V : gV} {k a i : Nat} {t : gT} (h : g_rd L V k a i = some t) : ∃ n, L.2 k a = some n ∧ i < n ∧ V k a i = t := by
  unfold g_rd at h
  cases hL : L.2 k a with
  | none => rw [hL] at h; cases h
  | some n =>
    rw [hL] at h
    by_cases hi : i < n
    · exact ⟨n, rfl, hi, by simpa [hi] using h⟩
    · simp [hi] at h
theorem g_rI_spec {L : gL} {V : gV} {k a i : Nat} {x : Int32} (h : g_rI L V k a i = some x) : g_rd L V k a i = some (tI x) := by
  obtain ⟨t, h1, h2⟩ := g_ob h
  rcases t with y | y | y <;> simp [g_toI] at h2
  rw [h1, h2]
theorem g_rJ_spec {L : gL} {V : gV} {k a i : Nat} {x : Int64} (h : g_rJ L V k a i = some x) : g_rd L V k a i = some (tJ x) := by
  obtain ⟨t, h1, h2⟩ := g_ob h
  rcases t with y | y | y <;> simp [g_toJ] at h2
  rw [h1, h2]
theorem g_rR_spec {L : gL} {V : gV} {k a i : Nat} {x : Option Nat} (h : g_rR L V k a i = some x) : g_rd L V k a i = some (tR x) := by
  obtain ⟨t, h1, h2⟩ := g_ob h
  rcases t with y | y | y <;> simp [g_toR] at h2
  rw [h1, h2]
theorem g_ix_spec {L : gL} {k a i : Nat} {x : Int32} (h : g_ix L k a x = some i) : ∃ n, L.2 k a = some n ∧ vp_in x n ∧ i = x.toNatClampNeg ∧ i < n := by
  unfold g_ix at h
  cases hL : L.2 k a with
  | none => rw [hL] at h; cases h
  | some n =>
    rw [hL] at h
    by_cases hi : x < 0 ∨ n ≤ x.toNatClampNeg
    · simp [hi] at h
    · have e : i = x.toNatClampNeg := by simpa [hi] using h.symm
      exact ⟨n, rfl, hi, e, by rw [e]; exact Nat.not_le.mp fun q => hi (Or.inr q)⟩
theorem g_aI_spec {L : gL} {V : gV} {k a : Nat} {x : Int32} {y : Int32} (h : g_aI L V k a x = some y) : ∃ i, g_ix L k a x = some i ∧ V k a i = tI y := by
  obtain ⟨i, h1, h2⟩ := g_ob h
  refine ⟨i, h1, ?_⟩
  rcases hv : V k a i with y | y | y <;> rw [hv] at h2 <;> simp [g_toI] at h2
  rw [h2]
theorem g_aJ_spec {L : gL} {V : gV} {k a : Nat} {x : Int32} {y : Int64} (h : g_aJ L V k a x = some y) : ∃ i, g_ix L k a x = some i ∧ V k a i = tJ y := by
  obtain ⟨i, h1, h2⟩ := g_ob h
  refine ⟨i, h1, ?_⟩
  rcases hv : V k a i with y | y | y <;> rw [hv] at h2 <;> simp [g_toJ] at h2
  rw [h2]
theorem g_aR_spec {L : gL} {V : gV} {k a : Nat} {x : Int32} {y : Option Nat} (h : g_aR L V k a x = some y) : ∃ i, g_ix L k a x = some i ∧ V k a i = tR y := by
  obtain ⟨i, h1, h2⟩ := g_ob h
  refine ⟨i, h1, ?_⟩
  rcases hv : V k a i with y | y | y <;> rw [hv] at h2 <;> simp [g_toR] at h2
  rw [h2]
theorem g_wr_spec {L : gL} {V V' : gV} {k a i : Nat} {t : gT} (h : g_wr L V k a i t = some V') : ∃ n, L.2 k a = some n ∧ i < n ∧ V' = g_st V k a i t := by
  unfold g_wr at h
  cases hL : L.2 k a with
  | none => rw [hL] at h; cases h
  | some n =>
    rw [hL] at h
    by_cases hi : i < n
    · exact ⟨n, rfl, hi, by simpa [hi] using h.symm⟩
    · simp [hi] at h
theorem g_wa_spec {L : gL} {V V' : gV} {k a : Nat} {x : Int32} {t : gT} (h : g_wa L V k a x t = some V') : ∃ i n, L.2 k a = some n ∧ vp_in x n ∧ i = x.toNatClampNeg ∧ i < n ∧ V' = g_st V k a i t := by
  obtain ⟨i, h1, h2⟩ := g_ob h
  obtain ⟨n, g1, g2, g3, g4⟩ := g_ix_spec h1
  exact ⟨i, n, g1, g2, g3, g4, (Option.some.inj h2).symm⟩
-- locals
def g_q (q : Nat × gT) : Nat × Value := (q.1, g_val q.2)
def g_lk : List (Nat × gT) → Nat → Option gT
  | [], _ => none
  | q :: r, i => bif Nat.beq q.1 i then some q.2 else g_lk r i
theorem g_lk_mem : ∀ {l : List (Nat × gT)} {i : Nat} {t : gT}, g_lk l i = some t → (i, t) ∈ l
  | [], _, _, h => by cases h
  | q :: r, i, t, h => by
    unfold g_lk at h
    cases hq : Nat.beq q.1 i with
    | true =>
      rw [hq] at h
      have e1 : q.1 = i := Nat.eq_of_beq_eq_true hq
      have e2 : q.2 = t := Option.some.inj h
      rw [← e1, ← e2]
      exact List.mem_cons_self
    | false =>
      rw [hq] at h
      exact List.mem_cons_of_mem _ (g_lk_mem h)
theorem g_lk_at {ls : Array Slot} {nL : Nat} {lv : List (Nat × gT)} {i : Nat} {t : gT} (h : lv_has ls nL (lv.map g_q)) (hk : g_lk lv i = some t) : ls[i]? = some (.val (g_val t)) := h.2.2 (i, g_val t) (List.mem_map.mpr ⟨(i, t), g_lk_mem hk, rfl⟩)
def g_s1 (lv : List (Nat × gT)) (i : Nat) (t : gT) : List (Nat × gT) := (i, t) :: lv.filter (fun q => !(Nat.beq q.1 i) && !(Nat.beq (q.1 + 1) i && g_two q.2))
def g_s2 (lv : List (Nat × gT)) (i : Nat) (t : gT) : List (Nat × gT) := (i, t) :: lv.filter (fun q => !(Nat.beq q.1 i) && (!(Nat.beq q.1 (i + 1)) && !(Nat.beq (q.1 + 1) i && g_two q.2)))
theorem g_beq (a b : Nat) : (a == b) = Nat.beq a b := by
  rw [Bool.eq_iff_iff, Nat.beq_eq, beq_iff_eq]
theorem g_cat2 (t : gT) : ((g_val t).category == 2) = g_two t := by
  rw [g_cat]
  cases g_two t <;> rfl
theorem g_has1 {ls : Array Slot} {nL : Nat} {lv : List (Nat × gT)} {i : Nat} {t : gT} (h : lv_has ls nL ((i, g_val t) :: (lv.map g_q).filter (fun q => !(q.1 == i) && !(q.1 + 1 == i && q.2.category == 2)))) : lv_has ls nL ((g_s1 lv i t).map g_q) := by
  refine ⟨h.1, h.2.1, fun q hq => ?_⟩
  obtain ⟨w, hw, rfl⟩ := List.mem_map.mp hq
  apply h.2.2
  rcases List.mem_cons.mp hw with rfl | hw
  · exact List.mem_cons_self
  · obtain ⟨h1, h2⟩ := List.mem_filter.mp hw
    refine List.mem_cons_of_mem _ (List.mem_filter.mpr ⟨List.mem_map.mpr ⟨w, h1, rfl⟩, ?_⟩)
    show (!(w.1 == i) && !(w.1 + 1 == i && (g_val w.2).category == 2)) = true
    rw [g_cat2]
    simp only [g_beq]
    exact h2
theorem g_has2 {ls : Array Slot} {nL : Nat} {lv : List (Nat × gT)} {i : Nat} {t : gT} (h : lv_has ls nL ((i, g_val t) :: (lv.map g_q).filter (fun q => !(q.1 == i) && (!(q.1 == i + 1) && !(q.1 + 1 == i && q.2.category == 2))))) : lv_has ls nL ((g_s2 lv i t).map g_q) := by
  refine ⟨h.1, h.2.1, fun q hq => ?_⟩
  obtain ⟨w, hw, rfl⟩ := List.mem_map.mp hq
  apply h.2.2
  rcases List.mem_cons.mp hw with rfl | hw
  · exact List.mem_cons_self
  · obtain ⟨h1, h2⟩ := List.mem_filter.mp hw
    refine List.mem_cons_of_mem _ (List.mem_filter.mpr ⟨List.mem_map.mpr ⟨w, h1, rfl⟩, ?_⟩)
    show (!(w.1 == i) && (!(w.1 == i + 1) && !(w.1 + 1 == i && (g_val w.2).category == 2))) = true
    rw [g_cat2]
    simp only [g_beq]
    exact h2
-- the judgement and what is fixed in a method's body
def g_ao : List String := [R_S, R_T, R_N]
def g_K (E : gE) (U : State) : Prop := va_K (E.1, E.2.1) g_cl (g_tys E) U ∧ va_Nw g_nest U ∧ ∀ C ∈ g_ao, va_AO C U
theorem g_K.warm {E : gE} {s U : State} (hW : s.WarmedH U.vm) (h : g_K E s) : g_K E U := ⟨va_K.moved hW.alike h.1, va_Nw.warmM hW h.2.1, fun C hC => va_AO.moved hW.alike (h.2.2 C hC)⟩
theorem g_K.same {E : gE} {s U : State} (hv : s.vm = U.vm) (h : g_K E s) : g_K E U :=
  have ha : s.vm.Alike U.vm := by rw [hv]; exact Vm.Alike.refl U.vm
  ⟨va_K.moved ha h.1, va_Nw.same rfl hv h.2.1, fun C hC => va_AO.moved ha (h.2.2 C hC)⟩
abbrev g_A (base : Nat) : Nat → Prop := fun q => base ≤ q
def vW (E : gE) (base bA nL : Nat) (p : Program) (l : Launch) (e : Env) (R : Room) (s : State) (m : MethodId) (args : Array Value) (below : List Frame) (meth : Method) (c : Code) (cells slots : Nat) (Q : State → Prop) (L : gL) (V : gV) (pc : Nat) (lv : List (Nat × gT)) (st : List gT) : Prop :=
  ∀ (H : Heap) (locs : List Loc) (ls : Array Slot), g_hp E base L V H → va_S (g_A bA) s.heap H locs → lv_has ls nL (lv.map g_q) → W p l e R s m args below meth c H locs cells slots Q (F0 m pc ls (st.map g_val))
def gC (E : gE) (bA : Nat) (p : Program) (s : State) (m : MethodId) (args : Array Value) (meth : Method) (c : Code) (cc : ByteArray) (own : String) (nL : Nat) : Prop :=
  p.tables.exec = Jvm.exec ∧ c.code = cc ∧ c.maxLocals = nL ∧ s.vm.findClass own = some m.cls ∧ (∀ w ∈ g_tb, w.before args s = true) ∧ g_K E s ∧ bA ≤ s.heap.size ∧ meth.locks = false
def g_in (E : gE) (base bA : Nat) (L : gL) (V : gV) (U : State) : Prop := g_hp E base L V U.heap ∧ g_K E U ∧ bA ≤ U.heap.size
def g_out (E : gE) (base bA : Nat) (L : gL) (V : gV) (o : Option gT) : Array Value → State → Outcome → State → Prop := fun _ st oc t => oc = .returned (o.map g_val) ∧ (g_hp E base L V t.heap ∧ g_K E t) ∧ va_F (g_A bA) st t
def g_w (y : MethodName) (b : ByteArray) (mL : Nat) (ret : Option FieldType) : List Cond := .code y b mL ret :: g_tb
def g_Met (l : Launch) (E : gE) (base bA : Nat) (y : MethodName) (b : ByteArray) (mL : Nat) (ret : Option FieldType) (rm : Room) (as : List gT) (L : gL) (V : gV) (o : Option gT) (L' : gL) (V' : gV) : Prop :=
  Met l y (g_w y b mL ret) rm (va_Pc (as.map g_val) (g_in E base bA L V)) (g_out E base bA L' V' o) rm.cells rm.slots (g_A bA)
abbrev g_MQ (E : gE) (base bA : Nat) (below : List Frame) (args : Array Value) (s : State) (mc ms : Nat) (L : gL) (V : gV) (o : Option gT) : State → Prop := MQ below (g_out E base bA L V o) args s mc ms (g_A bA)
end
section
/-! ROWS: an instruction a row, over vW -/
section GR
variable {E : gE} {base bA nL : Nat} {p : Program} {l : Launch} {e : Env} {R : Room} {s : State} {m : MethodId} {args : Array Value} {below : List Frame} {meth : Method} {c : Code} {cells slots : Nat} {Q : State → Prop} {cc : ByteArray} {own : String} {L : gL} {V : gV} {pc : Nat} {lv lv' : List (Nat × gT)} {st : List gT}
theorem r_iconst (C : gC E bA p s m args meth c cc own nL) {n : Int} (v : Int32) (hd : decode cc pc = .ok (.iconst n, 1)) (hv : Int32.ofInt n = v) (k : vW E base bA nL p l e R s m args below meth c cells slots Q L V (pc + 1) lv (tI v :: st)) : vW E base bA nL p l e R s m args below meth c cells slots Q L V pc lv st :=
  fun H locs ls h1 h2 h3 => lv_iconst C.1 C.2.1 hd hv (k H locs ls h1 h2 h3)
theorem r_bipush (C : gC E bA p s m args meth c cc own nL) {n : Int} (v : Int32) (hd : decode cc pc = .ok (.bipush n, 2)) (hv : (Int8.ofInt n).toInt32 = v) (k : vW E base bA nL p l e R s m args below meth c cells slots Q L V (pc + 2) lv (tI v :: st)) : vW E base bA nL p l e R s m args below meth c cells slots Q L V pc lv st :=
  fun H locs ls h1 h2 h3 => lv_bipush C.1 C.2.1 hd hv (k H locs ls h1 h2 h3)
theorem r_sipush (C : gC E bA p s m args meth c cc own nL) {n : Int} (v : Int32) (hd : decode cc pc = .ok (.sipush n, 3)) (hv : (Int16.ofInt n).toInt32 = v) (k : vW E base bA nL p l e R s m args below meth c cells slots Q L V (pc + 3) lv (tI v :: st)) : vW E base bA nL p l e R s m args below meth c cells slots Q L V pc lv st :=
  fun H locs ls h1 h2 h3 => lv_sipush C.1 C.2.1 hd hv (k H locs ls h1 h2 h3)
theorem r_lconst (C : gC E bA p s m args meth c cc own nL) {n : Fin 2} (v : Int64) (hd : decode cc pc = .ok (.lconst n, 1)) (hv : Int64.ofNat (n : Nat) = v) (k : vW E base bA nL p l e R s m args below meth c cells slots Q L V (pc + 1) lv (tJ v :: st)) : vW E base bA nL p l e R s m args below meth c cells slots Q L V pc lv st :=
  fun H locs ls h1 h2 h3 => lv_lconst C.1 C.2.1 hd hv (k H locs ls h1 h2 h3)
theorem r_ldc (C : gC E bA p s m args meth c cc own nL) {index : Nat} (v : Int32) (hd : decode cc pc = .ok (.ldc index, 2)) (hw : Jvm.Cond.constant own index v ∈ g_tb) (k : vW E base bA nL p l e R s m args below meth c cells slots Q L V (pc + 2) lv (tI v :: st)) : vW E base bA nL p l e R s m args below meth c cells slots Q L V pc lv st :=
  fun H locs ls h1 h2 h3 => lv_ldc C.1 C.2.1 C.2.2.2.1 (C.2.2.2.2.1 _ hw) hd (k H locs ls h1 h2 h3)
theorem r_ldc2 (C : gC E bA p s m args meth c cc own nL) {index : Nat} (v : Int64) (hd : decode cc pc = .ok (.ldc2_w index, 3)) (hw : Jvm.Cond.constantLong own index v ∈ g_tb) (k : vW E base bA nL p l e R s m args below meth c cells slots Q L V (pc + 3) lv (tJ v :: st)) : vW E base bA nL p l e R s m args below meth c cells slots Q L V pc lv st :=
  fun H locs ls h1 h2 h3 => lv_ldc2 C.1 C.2.1 C.2.2.2.1 (C.2.2.2.2.1 _ hw) hd (k H locs ls h1 h2 h3)
theorem r_null (C : gC E bA p s m args meth c cc own nL)  (hd : decode cc pc = .ok (.aconst_null, 1))  (k : vW E base bA nL p l e R s m args below meth c cells slots Q L V (pc + 1) lv (tR none :: st)) : vW E base bA nL p l e R s m args below meth c cells slots Q L V pc lv st :=
  fun H locs ls h1 h2 h3 => lv_null C.1 C.2.1 hd (k H locs ls h1 h2 h3)
theorem r_iload_n (C : gC E bA p s m args meth c cc own nL) {k : Fin 4} {i : Nat} {x : Int32} (hd : decode cc pc = .ok (.iload_n k, 1)) (hi : (k : Nat) = i) (hl : g_lk lv i = some (tI x)) (kk : vW E base bA nL p l e R s m args below meth c cells slots Q L V (pc + 1) lv (tI x :: st)) : vW E base bA nL p l e R s m args below meth c cells slots Q L V pc lv st :=
  fun H locs ls h1 h2 h3 => lv_iload_n C.1 C.2.1 hd hi (g_lk_at h3 hl) (kk H locs ls h1 h2 h3)
theorem r_iload (C : gC E bA p s m args meth c cc own nL) {i : Nat} {x : Int32} (hd : decode cc pc = .ok (.iload i, 2)) (hl : g_lk lv i = some (tI x)) (kk : vW E base bA nL p l e R s m args below meth c cells slots Q L V (pc + 2) lv (tI x :: st)) : vW E base bA nL p l e R s m args below meth c cells slots Q L V pc lv st :=
  fun H locs ls h1 h2 h3 => lv_iload C.1 C.2.1 hd (g_lk_at h3 hl) (kk H locs ls h1 h2 h3)
theorem r_lload_n (C : gC E bA p s m args meth c cc own nL) {k : Fin 4} {i : Nat} {x : Int64} (hd : decode cc pc = .ok (.lload_n k, 1)) (hi : (k : Nat) = i) (hl : g_lk lv i = some (tJ x)) (kk : vW E base bA nL p l e R s m args below meth c cells slots Q L V (pc + 1) lv (tJ x :: st)) : vW E base bA nL p l e R s m args below meth c cells slots Q L V pc lv st :=
  fun H locs ls h1 h2 h3 => lv_lload_n C.1 C.2.1 hd hi (g_lk_at h3 hl) (kk H locs ls h1 h2 h3)
theorem r_lload (C : gC E bA p s m args meth c cc own nL) {i : Nat} {x : Int64} (hd : decode cc pc = .ok (.lload i, 2)) (hl : g_lk lv i = some (tJ x)) (kk : vW E base bA nL p l e R s m args below meth c cells slots Q L V (pc + 2) lv (tJ x :: st)) : vW E base bA nL p l e R s m args below meth c cells slots Q L V pc lv st :=
  fun H locs ls h1 h2 h3 => lv_lload C.1 C.2.1 hd (g_lk_at h3 hl) (kk H locs ls h1 h2 h3)
theorem r_aload_n (C : gC E bA p s m args meth c cc own nL) {k : Fin 4} {i : Nat} {x : Option Nat} (hd : decode cc pc = .ok (.aload_n k, 1)) (hi : (k : Nat) = i) (hl : g_lk lv i = some (tR x)) (kk : vW E base bA nL p l e R s m args below meth c cells slots Q L V (pc + 1) lv (tR x :: st)) : vW E base bA nL p l e R s m args below meth c cells slots Q L V pc lv st := by
  intro H locs ls h1 h2 h3
  have hk := kk H locs ls h1 h2 h3
  have hg := g_lk_at h3 hl
  cases x with
  | none => exact lv_aload_nN C.1 C.2.1 hd hi hg hk
  | some x => exact lv_aload_n C.1 C.2.1 hd hi hg hk
theorem r_aload (C : gC E bA p s m args meth c cc own nL) {i : Nat} {x : Option Nat} (hd : decode cc pc = .ok (.aload i, 2)) (hl : g_lk lv i = some (tR x)) (kk : vW E base bA nL p l e R s m args below meth c cells slots Q L V (pc + 2) lv (tR x :: st)) : vW E base bA nL p l e R s m args below meth c cells slots Q L V pc lv st := by
  intro H locs ls h1 h2 h3
  have hk := kk H locs ls h1 h2 h3
  have hg := g_lk_at h3 hl
  cases x with
  | none => exact lv_aloadN C.1 C.2.1 hd hg hk
  | some x => exact lv_aload C.1 C.2.1 hd hg hk
theorem r_istore_n (C : gC E bA p s m args meth c cc own nL) {k : Fin 4} {i : Nat} {x : Int32} (hd : decode cc pc = .ok (.istore_n k, 1)) (hi : (k : Nat) = i) (hn : i < nL) (hl : g_s1 lv i (tI x) = lv') (kk : vW E base bA nL p l e R s m args below meth c cells slots Q L V (pc + 1) lv' st) : vW E base bA nL p l e R s m args below meth c cells slots Q L V pc lv (tI x :: st) := by
  intro H locs ls h1 h2 h3
  refine lv_istore_n C.1 C.2.1 hd hi h3 hn rfl (fun ls' h' => ?_)
  subst hl
  exact kk H locs ls' h1 h2 (g_has1 (t := tI x) h')
theorem r_istore (C : gC E bA p s m args meth c cc own nL) {i : Nat} {x : Int32} (hd : decode cc pc = .ok (.istore i, 2)) (hn : i < nL) (hl : g_s1 lv i (tI x) = lv') (kk : vW E base bA nL p l e R s m args below meth c cells slots Q L V (pc + 2) lv' st) : vW E base bA nL p l e R s m args below meth c cells slots Q L V pc lv (tI x :: st) := by
  intro H locs ls h1 h2 h3
  refine lv_istore C.1 C.2.1 hd h3 hn rfl (fun ls' h' => ?_)
  subst hl
  exact kk H locs ls' h1 h2 (g_has1 (t := tI x) h')
theorem r_lstore_n (C : gC E bA p s m args meth c cc own nL) {k : Fin 4} {i : Nat} {x : Int64} (hd : decode cc pc = .ok (.lstore_n k, 1)) (hi : (k : Nat) = i) (hn : i + 1 < nL) (hl : g_s2 lv i (tJ x) = lv') (kk : vW E base bA nL p l e R s m args below meth c cells slots Q L V (pc + 1) lv' st) : vW E base bA nL p l e R s m args below meth c cells slots Q L V pc lv (tJ x :: st) := by
  intro H locs ls h1 h2 h3
  refine lv_lstore_n C.1 C.2.1 hd hi h3 hn rfl (fun ls' h' => ?_)
  subst hl
  exact kk H locs ls' h1 h2 (g_has2 (t := tJ x) h')
theorem r_lstore (C : gC E bA p s m args meth c cc own nL) {i : Nat} {x : Int64} (hd : decode cc pc = .ok (.lstore i, 2)) (hn : i + 1 < nL) (hl : g_s2 lv i (tJ x) = lv') (kk : vW E base bA nL p l e R s m args below meth c cells slots Q L V (pc + 2) lv' st) : vW E base bA nL p l e R s m args below meth c cells slots Q L V pc lv (tJ x :: st) := by
  intro H locs ls h1 h2 h3
  refine lv_lstore C.1 C.2.1 hd h3 hn rfl (fun ls' h' => ?_)
  subst hl
  exact kk H locs ls' h1 h2 (g_has2 (t := tJ x) h')
theorem r_astore_n (C : gC E bA p s m args meth c cc own nL) {k : Fin 4} {i : Nat} {x : Option Nat} (hd : decode cc pc = .ok (.astore_n k, 1)) (hi : (k : Nat) = i) (hn : i < nL) (hl : g_s1 lv i (tR x) = lv') (kk : vW E base bA nL p l e R s m args below meth c cells slots Q L V (pc + 1) lv' st) : vW E base bA nL p l e R s m args below meth c cells slots Q L V pc lv (tR x :: st) := by
  intro H locs ls h1 h2 h3
  subst hl
  cases x with
  | none => exact lv_astore_nN C.1 C.2.1 hd hi h3 hn rfl (fun ls' h' => kk H locs ls' h1 h2 (g_has1 (t := tR none) h'))
  | some x => exact lv_astore_n C.1 C.2.1 hd hi h3 hn rfl (fun ls' h' => kk H locs ls' h1 h2 (g_has1 (t := tR (some x)) h'))
theorem r_astore (C : gC E bA p s m args meth c cc own nL) {i : Nat} {x : Option Nat} (hd : decode cc pc = .ok (.astore i, 2)) (hn : i < nL) (hl : g_s1 lv i (tR x) = lv') (kk : vW E base bA nL p l e R s m args below meth c cells slots Q L V (pc + 2) lv' st) : vW E base bA nL p l e R s m args below meth c cells slots Q L V pc lv (tR x :: st) := by
  intro H locs ls h1 h2 h3
  subst hl
  cases x with
  | none => exact lv_astoreN C.1 C.2.1 hd h3 hn rfl (fun ls' h' => kk H locs ls' h1 h2 (g_has1 (t := tR none) h'))
  | some x => exact lv_astore C.1 C.2.1 hd h3 hn rfl (fun ls' h' => kk H locs ls' h1 h2 (g_has1 (t := tR (some x)) h'))
theorem g_lk_pos : ∀ {l : List (Nat × gT)} {i : Nat} {t : gT}, g_lk l i = some t → ∃ k : Nat, (l.map g_q)[k]? = some (i, g_val t) := fun {l i t} h => List.getElem?_of_mem (List.mem_map.mpr ⟨(i, t), g_lk_mem h, rfl⟩)
theorem r_iinc (C : gC E bA p s m args meth c cc own nL) {i : Nat} {n : Int} {x v : Int32} (hd : decode cc pc = .ok (.iinc i n, 3)) (hk : g_lk lv i = some (tI x)) (hv : x + Int32.ofInt n = v) (hn : i < nL) (hl : g_s1 lv i (tI v) = lv') (kk : vW E base bA nL p l e R s m args below meth c cells slots Q L V (pc + 3) lv' st) : vW E base bA nL p l e R s m args below meth c cells slots Q L V pc lv st := by
  intro H locs ls h1 h2 h3
  obtain ⟨j, hj⟩ := g_lk_pos hk
  refine lv_iinc C.1 C.2.1 hd h3 hj hv hn rfl (fun ls' h' => ?_)
  subst hl
  exact kk H locs ls' h1 h2 (g_has1 (t := tI v) h')
theorem r_iadd (C : gC E bA p s m args meth c cc own nL) {x y : Int32} (hd : decode cc pc = .ok (.iadd, 1))  (k : vW E base bA nL p l e R s m args below meth c cells slots Q L V (pc + 1) lv (tI (x + y) :: st)) : vW E base bA nL p l e R s m args below meth c cells slots Q L V pc lv (tI y :: tI x :: st) :=
  fun H locs ls h1 h2 h3 => lv_iadd C.1 C.2.1 hd (k H locs ls h1 h2 h3)
theorem r_isub (C : gC E bA p s m args meth c cc own nL) {x y : Int32} (hd : decode cc pc = .ok (.isub, 1))  (k : vW E base bA nL p l e R s m args below meth c cells slots Q L V (pc + 1) lv (tI (x - y) :: st)) : vW E base bA nL p l e R s m args below meth c cells slots Q L V pc lv (tI y :: tI x :: st) :=
  fun H locs ls h1 h2 h3 => lv_isub C.1 C.2.1 hd (k H locs ls h1 h2 h3)
theorem r_imul (C : gC E bA p s m args meth c cc own nL) {x y : Int32} (hd : decode cc pc = .ok (.imul, 1))  (k : vW E base bA nL p l e R s m args below meth c cells slots Q L V (pc + 1) lv (tI (x * y) :: st)) : vW E base bA nL p l e R s m args below meth c cells slots Q L V pc lv (tI y :: tI x :: st) :=
  fun H locs ls h1 h2 h3 => lv_imul C.1 C.2.1 hd (k H locs ls h1 h2 h3)
theorem r_iand (C : gC E bA p s m args meth c cc own nL) {x y : Int32} (hd : decode cc pc = .ok (.iand, 1))  (k : vW E base bA nL p l e R s m args below meth c cells slots Q L V (pc + 1) lv (tI (x &&& y) :: st)) : vW E base bA nL p l e R s m args below meth c cells slots Q L V pc lv (tI y :: tI x :: st) :=
  fun H locs ls h1 h2 h3 => lv_iand C.1 C.2.1 hd (k H locs ls h1 h2 h3)
theorem r_ior (C : gC E bA p s m args meth c cc own nL) {x y : Int32} (hd : decode cc pc = .ok (.ior, 1))  (k : vW E base bA nL p l e R s m args below meth c cells slots Q L V (pc + 1) lv (tI (x ||| y) :: st)) : vW E base bA nL p l e R s m args below meth c cells slots Q L V pc lv (tI y :: tI x :: st) :=
  fun H locs ls h1 h2 h3 => lv_ior C.1 C.2.1 hd (k H locs ls h1 h2 h3)
theorem r_ixor (C : gC E bA p s m args meth c cc own nL) {x y : Int32} (hd : decode cc pc = .ok (.ixor, 1))  (k : vW E base bA nL p l e R s m args below meth c cells slots Q L V (pc + 1) lv (tI (x ^^^ y) :: st)) : vW E base bA nL p l e R s m args below meth c cells slots Q L V pc lv (tI y :: tI x :: st) :=
  fun H locs ls h1 h2 h3 => lv_ixor C.1 C.2.1 hd (k H locs ls h1 h2 h3)
theorem r_idiv (C : gC E bA p s m args meth c cc own nL) {x y : Int32} (hd : decode cc pc = .ok (.idiv, 1)) (hne : ¬ y = 0) (k : vW E base bA nL p l e R s m args below meth c cells slots Q L V (pc + 1) lv (tI (x / y) :: st)) : vW E base bA nL p l e R s m args below meth c cells slots Q L V pc lv (tI y :: tI x :: st) :=
  fun H locs ls h1 h2 h3 => lv_idiv C.1 C.2.1 hd hne (k H locs ls h1 h2 h3)
theorem r_irem (C : gC E bA p s m args meth c cc own nL) {x y : Int32} (hd : decode cc pc = .ok (.irem, 1)) (hne : ¬ y = 0) (k : vW E base bA nL p l e R s m args below meth c cells slots Q L V (pc + 1) lv (tI (x - x / y * y) :: st)) : vW E base bA nL p l e R s m args below meth c cells slots Q L V pc lv (tI y :: tI x :: st) :=
  fun H locs ls h1 h2 h3 => lv_irem C.1 C.2.1 hd hne (k H locs ls h1 h2 h3)
theorem r_ladd (C : gC E bA p s m args meth c cc own nL) {x y : Int64} (hd : decode cc pc = .ok (.ladd, 1))  (k : vW E base bA nL p l e R s m args below meth c cells slots Q L V (pc + 1) lv (tJ (x + y) :: st)) : vW E base bA nL p l e R s m args below meth c cells slots Q L V pc lv (tJ y :: tJ x :: st) :=
  fun H locs ls h1 h2 h3 => lv_ladd C.1 C.2.1 hd (k H locs ls h1 h2 h3)
theorem r_lsub (C : gC E bA p s m args meth c cc own nL) {x y : Int64} (hd : decode cc pc = .ok (.lsub, 1))  (k : vW E base bA nL p l e R s m args below meth c cells slots Q L V (pc + 1) lv (tJ (x - y) :: st)) : vW E base bA nL p l e R s m args below meth c cells slots Q L V pc lv (tJ y :: tJ x :: st) :=
  fun H locs ls h1 h2 h3 => lv_lsub C.1 C.2.1 hd (k H locs ls h1 h2 h3)
theorem r_lmul (C : gC E bA p s m args meth c cc own nL) {x y : Int64} (hd : decode cc pc = .ok (.lmul, 1))  (k : vW E base bA nL p l e R s m args below meth c cells slots Q L V (pc + 1) lv (tJ (x * y) :: st)) : vW E base bA nL p l e R s m args below meth c cells slots Q L V pc lv (tJ y :: tJ x :: st) :=
  fun H locs ls h1 h2 h3 => lv_lmul C.1 C.2.1 hd (k H locs ls h1 h2 h3)
theorem r_land (C : gC E bA p s m args meth c cc own nL) {x y : Int64} (hd : decode cc pc = .ok (.land, 1))  (k : vW E base bA nL p l e R s m args below meth c cells slots Q L V (pc + 1) lv (tJ (x &&& y) :: st)) : vW E base bA nL p l e R s m args below meth c cells slots Q L V pc lv (tJ y :: tJ x :: st) :=
  fun H locs ls h1 h2 h3 => lv_land C.1 C.2.1 hd (k H locs ls h1 h2 h3)
theorem r_lor (C : gC E bA p s m args meth c cc own nL) {x y : Int64} (hd : decode cc pc = .ok (.lor, 1))  (k : vW E base bA nL p l e R s m args below meth c cells slots Q L V (pc + 1) lv (tJ (x ||| y) :: st)) : vW E base bA nL p l e R s m args below meth c cells slots Q L V pc lv (tJ y :: tJ x :: st) :=
  fun H locs ls h1 h2 h3 => lv_lor C.1 C.2.1 hd (k H locs ls h1 h2 h3)
theorem r_lxor (C : gC E bA p s m args meth c cc own nL) {x y : Int64} (hd : decode cc pc = .ok (.lxor, 1))  (k : vW E base bA nL p l e R s m args below meth c cells slots Q L V (pc + 1) lv (tJ (x ^^^ y) :: st)) : vW E base bA nL p l e R s m args below meth c cells slots Q L V pc lv (tJ y :: tJ x :: st) :=
  fun H locs ls h1 h2 h3 => lv_lxor C.1 C.2.1 hd (k H locs ls h1 h2 h3)
theorem r_ldiv (C : gC E bA p s m args meth c cc own nL) {x y : Int64} (hd : decode cc pc = .ok (.ldiv, 1)) (hne : ¬ y = 0) (k : vW E base bA nL p l e R s m args below meth c cells slots Q L V (pc + 1) lv (tJ (x / y) :: st)) : vW E base bA nL p l e R s m args below meth c cells slots Q L V pc lv (tJ y :: tJ x :: st) :=
  fun H locs ls h1 h2 h3 => lv_ldiv C.1 C.2.1 hd hne (k H locs ls h1 h2 h3)
theorem r_lrem (C : gC E bA p s m args meth c cc own nL) {x y : Int64} (hd : decode cc pc = .ok (.lrem, 1)) (hne : ¬ y = 0) (k : vW E base bA nL p l e R s m args below meth c cells slots Q L V (pc + 1) lv (tJ (x - x / y * y) :: st)) : vW E base bA nL p l e R s m args below meth c cells slots Q L V pc lv (tJ y :: tJ x :: st) :=
  fun H locs ls h1 h2 h3 => lv_lrem C.1 C.2.1 hd hne (k H locs ls h1 h2 h3)
theorem r_ineg (C : gC E bA p s m args meth c cc own nL) {x : Int32} (hd : decode cc pc = .ok (.ineg, 1))  (k : vW E base bA nL p l e R s m args below meth c cells slots Q L V (pc + 1) lv (tI (-x) :: st)) : vW E base bA nL p l e R s m args below meth c cells slots Q L V pc lv (tI x :: st) :=
  fun H locs ls h1 h2 h3 => lv_ineg C.1 C.2.1 hd (k H locs ls h1 h2 h3)
theorem r_lcmp (C : gC E bA p s m args meth c cc own nL) {x y : Int64} (hd : decode cc pc = .ok (.lcmp, 1))  (k : vW E base bA nL p l e R s m args below meth c cells slots Q L V (pc + 1) lv (tI (lg_cmp x y) :: st)) : vW E base bA nL p l e R s m args below meth c cells slots Q L V pc lv (tJ y :: tJ x :: st) :=
  fun H locs ls h1 h2 h3 => W.lcmp C.1 C.2.1 hd (k H locs ls h1 h2 h3)
theorem r_i2l (C : gC E bA p s m args meth c cc own nL) {x : Int32} (hd : decode cc pc = .ok (.i2l, 1))  (k : vW E base bA nL p l e R s m args below meth c cells slots Q L V (pc + 1) lv (tJ x.toInt64 :: st)) : vW E base bA nL p l e R s m args below meth c cells slots Q L V pc lv (tI x :: st) :=
  fun H locs ls h1 h2 h3 => lv_i2l C.1 C.2.1 hd rfl (k H locs ls h1 h2 h3)
theorem r_l2i (C : gC E bA p s m args meth c cc own nL) {x : Int64} (hd : decode cc pc = .ok (.l2i, 1))  (k : vW E base bA nL p l e R s m args below meth c cells slots Q L V (pc + 1) lv (tI x.toInt32 :: st)) : vW E base bA nL p l e R s m args below meth c cells slots Q L V pc lv (tJ x :: st) :=
  fun H locs ls h1 h2 h3 => lv_l2i C.1 C.2.1 hd rfl (k H locs ls h1 h2 h3)
theorem r_iushr (C : gC E bA p s m args meth c cc own nL) {x y : Int32} (hd : decode cc pc = .ok (.iushr, 1))  (k : vW E base bA nL p l e R s m args below meth c cells slots Q L V (pc + 1) lv (tI ((x.toUInt32 >>> (y.toUInt32 &&& Int32.toUInt32 31)).toInt32) :: st)) : vW E base bA nL p l e R s m args below meth c cells slots Q L V pc lv (tI y :: tI x :: st) :=
  fun H locs ls h1 h2 h3 => lv_iushr C.1 C.2.1 hd rfl (k H locs ls h1 h2 h3)
theorem r_ishl (C : gC E bA p s m args meth c cc own nL) {x y : Int32} (hd : decode cc pc = .ok (.ishl, 1))  (k : vW E base bA nL p l e R s m args below meth c cells slots Q L V (pc + 1) lv (tI (x <<< (y &&& 31)) :: st)) : vW E base bA nL p l e R s m args below meth c cells slots Q L V pc lv (tI y :: tI x :: st) :=
  fun H locs ls h1 h2 h3 => lv_ishl C.1 C.2.1 hd (k H locs ls h1 h2 h3)
theorem r_ishr (C : gC E bA p s m args meth c cc own nL) {x y : Int32} (hd : decode cc pc = .ok (.ishr, 1))  (k : vW E base bA nL p l e R s m args below meth c cells slots Q L V (pc + 1) lv (tI (x >>> (y &&& 31)) :: st)) : vW E base bA nL p l e R s m args below meth c cells slots Q L V pc lv (tI y :: tI x :: st) :=
  fun H locs ls h1 h2 h3 => lv_ishr C.1 C.2.1 hd (k H locs ls h1 h2 h3)
theorem r_lshl (C : gC E bA p s m args meth c cc own nL) {x : Int64} {y : Int32} (hd : decode cc pc = .ok (.lshl, 1))  (k : vW E base bA nL p l e R s m args below meth c cells slots Q L V (pc + 1) lv (tJ (x <<< (y.toInt64 &&& 63)) :: st)) : vW E base bA nL p l e R s m args below meth c cells slots Q L V pc lv (tI y :: tJ x :: st) :=
  fun H locs ls h1 h2 h3 => lv_lshl C.1 C.2.1 hd rfl (k H locs ls h1 h2 h3)
theorem r_lshr (C : gC E bA p s m args meth c cc own nL) {x : Int64} {y : Int32} (hd : decode cc pc = .ok (.lshr, 1))  (k : vW E base bA nL p l e R s m args below meth c cells slots Q L V (pc + 1) lv (tJ (x >>> (y.toInt64 &&& 63)) :: st)) : vW E base bA nL p l e R s m args below meth c cells slots Q L V pc lv (tI y :: tJ x :: st) :=
  fun H locs ls h1 h2 h3 => lv_lshr C.1 C.2.1 hd rfl (k H locs ls h1 h2 h3)
theorem r_lushr (C : gC E bA p s m args meth c cc own nL) {x : Int64} {y : Int32} (hd : decode cc pc = .ok (.lushr, 1))  (k : vW E base bA nL p l e R s m args below meth c cells slots Q L V (pc + 1) lv (tJ ((x.toUInt64 >>> (y.toInt64.toUInt64 &&& Int64.toUInt64 63)).toInt64) :: st)) : vW E base bA nL p l e R s m args below meth c cells slots Q L V pc lv (tI y :: tJ x :: st) :=
  fun H locs ls h1 h2 h3 => lv_lushr C.1 C.2.1 hd rfl (k H locs ls h1 h2 h3)
theorem g_cat1 {t : gT} (h : g_two t = false) : (g_val t).category = 1 := by rw [g_cat, h]; rfl
theorem g_cat22 {t : gT} (h : g_two t = true) : (g_val t).category = 2 := by rw [g_cat, h]; rfl
theorem r_dup (C : gC E bA p s m args meth c cc own nL) {t : gT} (hd : decode cc pc = .ok (.dup, 1)) (ht : g_two t = false) (k : vW E base bA nL p l e R s m args below meth c cells slots Q L V (pc + 1) lv (t :: t :: st)) : vW E base bA nL p l e R s m args below meth c cells slots Q L V pc lv (t :: st) :=
  fun H locs ls h1 h2 h3 => lv_dup C.1 C.2.1 hd (g_cat1 ht) (k H locs ls h1 h2 h3)
theorem r_pop (C : gC E bA p s m args meth c cc own nL) {t : gT} (hd : decode cc pc = .ok (.pop, 1)) (ht : g_two t = false) (k : vW E base bA nL p l e R s m args below meth c cells slots Q L V (pc + 1) lv st) : vW E base bA nL p l e R s m args below meth c cells slots Q L V pc lv (t :: st) :=
  fun H locs ls h1 h2 h3 => lv_pop C.1 C.2.1 hd (g_cat1 ht) (k H locs ls h1 h2 h3)
theorem r_dup_x1 (C : gC E bA p s m args meth c cc own nL) {t u : gT} (hd : decode cc pc = .ok (.dup_x1, 1)) (ht : g_two t = false) (hu : g_two u = false) (k : vW E base bA nL p l e R s m args below meth c cells slots Q L V (pc + 1) lv (t :: u :: t :: st)) : vW E base bA nL p l e R s m args below meth c cells slots Q L V pc lv (t :: u :: st) :=
  fun H locs ls h1 h2 h3 => lv_dup_x1 C.1 C.2.1 hd (g_cat1 ht) (g_cat1 hu) (k H locs ls h1 h2 h3)
theorem r_dup2 (C : gC E bA p s m args meth c cc own nL) {t u : gT} (hd : decode cc pc = .ok (.dup2, 1)) (ht : g_two t = false) (hu : g_two u = false) (k : vW E base bA nL p l e R s m args below meth c cells slots Q L V (pc + 1) lv (t :: u :: t :: u :: st)) : vW E base bA nL p l e R s m args below meth c cells slots Q L V pc lv (t :: u :: st) :=
  fun H locs ls h1 h2 h3 => lv_dup2_11 C.1 C.2.1 hd (g_cat1 ht) (g_cat1 hu) (k H locs ls h1 h2 h3)
theorem r_dup2_2 (C : gC E bA p s m args meth c cc own nL) {t : gT} (hd : decode cc pc = .ok (.dup2, 1)) (ht : g_two t = true) (k : vW E base bA nL p l e R s m args below meth c cells slots Q L V (pc + 1) lv (t :: t :: st)) : vW E base bA nL p l e R s m args below meth c cells slots Q L V pc lv (t :: st) :=
  fun H locs ls h1 h2 h3 => lv_dup2_2 C.1 C.2.1 hd (g_cat22 ht) (k H locs ls h1 h2 h3)
theorem r_if_eq (C : gC E bA p s m args meth c cc own nL) {x : Int32} {off : Int} (tgt : Nat) (hd : decode cc pc = .ok (.ifCond .eq off, 3)) (ht : (pc : Int) + off = (tgt : Int)) (kt : x = 0 → vW E base bA nL p l e R s m args below meth c cells slots Q L V tgt lv st) (kf : ¬ x = 0 → vW E base bA nL p l e R s m args below meth c cells slots Q L V (pc + 3) lv st) : vW E base bA nL p l e R s m args below meth c cells slots Q L V pc lv (tI x :: st) :=
  fun H locs ls h1 h2 h3 => lv_if_eq C.1 C.2.1 hd ht (fun q => kt q H locs ls h1 h2 h3) (fun q => kf q H locs ls h1 h2 h3)
theorem r_icmp_eq (C : gC E bA p s m args meth c cc own nL) {x y : Int32} {off : Int} (tgt : Nat) (hd : decode cc pc = .ok (.if_icmp .eq off, 3)) (ht : (pc : Int) + off = (tgt : Int)) (kt : x = y → vW E base bA nL p l e R s m args below meth c cells slots Q L V tgt lv st) (kf : ¬ x = y → vW E base bA nL p l e R s m args below meth c cells slots Q L V (pc + 3) lv st) : vW E base bA nL p l e R s m args below meth c cells slots Q L V pc lv (tI y :: tI x :: st) :=
  fun H locs ls h1 h2 h3 => lv_icmp_eq C.1 C.2.1 hd ht (fun q => kt q H locs ls h1 h2 h3) (fun q => kf q H locs ls h1 h2 h3)
theorem r_if_ne (C : gC E bA p s m args meth c cc own nL) {x : Int32} {off : Int} (tgt : Nat) (hd : decode cc pc = .ok (.ifCond .ne off, 3)) (ht : (pc : Int) + off = (tgt : Int)) (kt : ¬ x = 0 → vW E base bA nL p l e R s m args below meth c cells slots Q L V tgt lv st) (kf : x = 0 → vW E base bA nL p l e R s m args below meth c cells slots Q L V (pc + 3) lv st) : vW E base bA nL p l e R s m args below meth c cells slots Q L V pc lv (tI x :: st) :=
  fun H locs ls h1 h2 h3 => lv_if_ne C.1 C.2.1 hd ht (fun q => kt q H locs ls h1 h2 h3) (fun q => kf q H locs ls h1 h2 h3)
theorem r_icmp_ne (C : gC E bA p s m args meth c cc own nL) {x y : Int32} {off : Int} (tgt : Nat) (hd : decode cc pc = .ok (.if_icmp .ne off, 3)) (ht : (pc : Int) + off = (tgt : Int)) (kt : ¬ x = y → vW E base bA nL p l e R s m args below meth c cells slots Q L V tgt lv st) (kf : x = y → vW E base bA nL p l e R s m args below meth c cells slots Q L V (pc + 3) lv st) : vW E base bA nL p l e R s m args below meth c cells slots Q L V pc lv (tI y :: tI x :: st) :=
  fun H locs ls h1 h2 h3 => lv_icmp_ne C.1 C.2.1 hd ht (fun q => kt q H locs ls h1 h2 h3) (fun q => kf q H locs ls h1 h2 h3)
theorem r_if_lt (C : gC E bA p s m args meth c cc own nL) {x : Int32} {off : Int} (tgt : Nat) (hd : decode cc pc = .ok (.ifCond .lt off, 3)) (ht : (pc : Int) + off = (tgt : Int)) (kt : x < 0 → vW E base bA nL p l e R s m args below meth c cells slots Q L V tgt lv st) (kf : ¬ x < 0 → vW E base bA nL p l e R s m args below meth c cells slots Q L V (pc + 3) lv st) : vW E base bA nL p l e R s m args below meth c cells slots Q L V pc lv (tI x :: st) :=
  fun H locs ls h1 h2 h3 => lv_if_lt C.1 C.2.1 hd ht (fun q => kt q H locs ls h1 h2 h3) (fun q => kf q H locs ls h1 h2 h3)
theorem r_icmp_lt (C : gC E bA p s m args meth c cc own nL) {x y : Int32} {off : Int} (tgt : Nat) (hd : decode cc pc = .ok (.if_icmp .lt off, 3)) (ht : (pc : Int) + off = (tgt : Int)) (kt : x < y → vW E base bA nL p l e R s m args below meth c cells slots Q L V tgt lv st) (kf : ¬ x < y → vW E base bA nL p l e R s m args below meth c cells slots Q L V (pc + 3) lv st) : vW E base bA nL p l e R s m args below meth c cells slots Q L V pc lv (tI y :: tI x :: st) :=
  fun H locs ls h1 h2 h3 => lv_icmp_lt C.1 C.2.1 hd ht (fun q => kt q H locs ls h1 h2 h3) (fun q => kf q H locs ls h1 h2 h3)
theorem r_if_ge (C : gC E bA p s m args meth c cc own nL) {x : Int32} {off : Int} (tgt : Nat) (hd : decode cc pc = .ok (.ifCond .ge off, 3)) (ht : (pc : Int) + off = (tgt : Int)) (kt : 0 ≤ x → vW E base bA nL p l e R s m args below meth c cells slots Q L V tgt lv st) (kf : ¬ 0 ≤ x → vW E base bA nL p l e R s m args below meth c cells slots Q L V (pc + 3) lv st) : vW E base bA nL p l e R s m args below meth c cells slots Q L V pc lv (tI x :: st) :=
  fun H locs ls h1 h2 h3 => lv_if_ge C.1 C.2.1 hd ht (fun q => kt q H locs ls h1 h2 h3) (fun q => kf q H locs ls h1 h2 h3)
theorem r_icmp_ge (C : gC E bA p s m args meth c cc own nL) {x y : Int32} {off : Int} (tgt : Nat) (hd : decode cc pc = .ok (.if_icmp .ge off, 3)) (ht : (pc : Int) + off = (tgt : Int)) (kt : y ≤ x → vW E base bA nL p l e R s m args below meth c cells slots Q L V tgt lv st) (kf : ¬ y ≤ x → vW E base bA nL p l e R s m args below meth c cells slots Q L V (pc + 3) lv st) : vW E base bA nL p l e R s m args below meth c cells slots Q L V pc lv (tI y :: tI x :: st) :=
  fun H locs ls h1 h2 h3 => lv_icmp_ge C.1 C.2.1 hd ht (fun q => kt q H locs ls h1 h2 h3) (fun q => kf q H locs ls h1 h2 h3)
theorem r_if_gt (C : gC E bA p s m args meth c cc own nL) {x : Int32} {off : Int} (tgt : Nat) (hd : decode cc pc = .ok (.ifCond .gt off, 3)) (ht : (pc : Int) + off = (tgt : Int)) (kt : 0 < x → vW E base bA nL p l e R s m args below meth c cells slots Q L V tgt lv st) (kf : ¬ 0 < x → vW E base bA nL p l e R s m args below meth c cells slots Q L V (pc + 3) lv st) : vW E base bA nL p l e R s m args below meth c cells slots Q L V pc lv (tI x :: st) :=
  fun H locs ls h1 h2 h3 => lv_if_gt C.1 C.2.1 hd ht (fun q => kt q H locs ls h1 h2 h3) (fun q => kf q H locs ls h1 h2 h3)
theorem r_icmp_gt (C : gC E bA p s m args meth c cc own nL) {x y : Int32} {off : Int} (tgt : Nat) (hd : decode cc pc = .ok (.if_icmp .gt off, 3)) (ht : (pc : Int) + off = (tgt : Int)) (kt : y < x → vW E base bA nL p l e R s m args below meth c cells slots Q L V tgt lv st) (kf : ¬ y < x → vW E base bA nL p l e R s m args below meth c cells slots Q L V (pc + 3) lv st) : vW E base bA nL p l e R s m args below meth c cells slots Q L V pc lv (tI y :: tI x :: st) :=
  fun H locs ls h1 h2 h3 => lv_icmp_gt C.1 C.2.1 hd ht (fun q => kt q H locs ls h1 h2 h3) (fun q => kf q H locs ls h1 h2 h3)
theorem r_if_le (C : gC E bA p s m args meth c cc own nL) {x : Int32} {off : Int} (tgt : Nat) (hd : decode cc pc = .ok (.ifCond .le off, 3)) (ht : (pc : Int) + off = (tgt : Int)) (kt : x ≤ 0 → vW E base bA nL p l e R s m args below meth c cells slots Q L V tgt lv st) (kf : ¬ x ≤ 0 → vW E base bA nL p l e R s m args below meth c cells slots Q L V (pc + 3) lv st) : vW E base bA nL p l e R s m args below meth c cells slots Q L V pc lv (tI x :: st) :=
  fun H locs ls h1 h2 h3 => lv_if_le C.1 C.2.1 hd ht (fun q => kt q H locs ls h1 h2 h3) (fun q => kf q H locs ls h1 h2 h3)
theorem r_icmp_le (C : gC E bA p s m args meth c cc own nL) {x y : Int32} {off : Int} (tgt : Nat) (hd : decode cc pc = .ok (.if_icmp .le off, 3)) (ht : (pc : Int) + off = (tgt : Int)) (kt : x ≤ y → vW E base bA nL p l e R s m args below meth c cells slots Q L V tgt lv st) (kf : ¬ x ≤ y → vW E base bA nL p l e R s m args below meth c cells slots Q L V (pc + 3) lv st) : vW E base bA nL p l e R s m args below meth c cells slots Q L V pc lv (tI y :: tI x :: st) :=
  fun H locs ls h1 h2 h3 => lv_icmp_le C.1 C.2.1 hd ht (fun q => kt q H locs ls h1 h2 h3) (fun q => kf q H locs ls h1 h2 h3)
theorem r_goto (C : gC E bA p s m args meth c cc own nL) {off : Int} (tgt : Nat) (hd : decode cc pc = .ok (.goto off, 3)) (ht : (pc : Int) + off = (tgt : Int)) (k : vW E base bA nL p l e R s m args below meth c cells slots Q L V tgt lv st) : vW E base bA nL p l e R s m args below meth c cells slots Q L V pc lv st :=
  fun H locs ls h1 h2 h3 => lv_goto C.1 C.2.1 hd ht (k H locs ls h1 h2 h3)
theorem r_ifnull_f (C : gC E bA p s m args meth c cc own nL) {x : Nat} {off : Int} (hd : decode cc pc = .ok (.ifnull off, 3)) (k : vW E base bA nL p l e R s m args below meth c cells slots Q L V (pc + 3) lv st) : vW E base bA nL p l e R s m args below meth c cells slots Q L V pc lv (tR (some x) :: st) :=
  fun H locs ls h1 h2 h3 => lv_ifnull C.1 C.2.1 hd (k H locs ls h1 h2 h3)
theorem r_ifnull_t (C : gC E bA p s m args meth c cc own nL) {off : Int} (tgt : Nat) (hd : decode cc pc = .ok (.ifnull off, 3)) (ht : (pc : Int) + off = (tgt : Int)) (k : vW E base bA nL p l e R s m args below meth c cells slots Q L V tgt lv st) : vW E base bA nL p l e R s m args below meth c cells slots Q L V pc lv (tR none :: st) :=
  fun H locs ls h1 h2 h3 => lv_ifnullN C.1 C.2.1 hd ht (k H locs ls h1 h2 h3)
theorem r_ifnonnull_t (C : gC E bA p s m args meth c cc own nL) {x : Nat} {off : Int} (tgt : Nat) (hd : decode cc pc = .ok (.ifnonnull off, 3)) (ht : (pc : Int) + off = (tgt : Int)) (k : vW E base bA nL p l e R s m args below meth c cells slots Q L V tgt lv st) : vW E base bA nL p l e R s m args below meth c cells slots Q L V pc lv (tR (some x) :: st) :=
  fun H locs ls h1 h2 h3 => lv_ifnonnull C.1 C.2.1 hd ht (k H locs ls h1 h2 h3)
theorem r_ifnonnull_f (C : gC E bA p s m args meth c cc own nL) {off : Int} (hd : decode cc pc = .ok (.ifnonnull off, 3)) (k : vW E base bA nL p l e R s m args below meth c cells slots Q L V (pc + 3) lv st) : vW E base bA nL p l e R s m args below meth c cells slots Q L V pc lv (tR none :: st) :=
  fun H locs ls h1 h2 h3 => lv_ifnonnullN C.1 C.2.1 hd (k H locs ls h1 h2 h3)
theorem r_lv (ks : List Nat) (hl : ks.filterMap (fun k => lv[k]?) = lv') (k : vW E base bA nL p l e R s m args below meth c cells slots Q L V pc lv' st) : vW E base bA nL p l e R s m args below meth c cells slots Q L V pc lv st := by
  intro H locs ls h1 h2 h3
  refine k H locs ls h1 h2 ⟨h3.1, h3.2.1, fun q hq => ?_⟩
  obtain ⟨w, hw, rfl⟩ := List.mem_map.mp hq
  rw [← hl] at hw
  obtain ⟨j, -, hj⟩ := List.mem_filterMap.mp hw
  exact h3.2.2 _ (List.mem_map.mpr ⟨w, List.mem_of_getElem? hj, rfl⟩)
theorem r_wid {k n : Nat} (h1 : cells ≤ k) (h2 : slots ≤ n) (kk : vW E base bA nL p l e R s m args below meth c k n Q L V pc lv st) : vW E base bA nL p l e R s m args below meth c cells slots Q L V pc lv st :=
  fun H locs ls g1 g2 g3 => W.widen h1 h2 (kk H locs ls g1 g2 g3)
end GR
end
section
/-! ROWS: fields, arrays, new cells, calls, returns, entry -/
def gF (own : String) (index k i : Nat) (ty : FieldType) (fin : Bool) : Prop := ∃ (Cn : String) (T : u_T) (N : Nat) (t : Nat → FieldType), g_cl[k]? = some (Cn, T, N) ∧ i < N ∧ (∀ w ∈ u_ws Cn T N, w ∈ g_tb) ∧ Cond.fieldLink own index (T i).1 (T i).2.1 (T i).2.2.1 ∈ g_tb ∧ (∀ j, j < N → parseFieldDescriptor (T j).2.2.1 = some (t j)) ∧ (∀ a, a < N → ∀ b, b < N → a ≠ b → (T a).2.1 ≠ (T b).2.1) ∧ t i = ty ∧ (T i).2.2.2 = fin
def gAk (k : Nat) (ty : FieldType) : Prop := g_cl[k]? = none ∧ ∃ j : Nat, ∀ E : gE, (g_tys E)[j]? = some (E.2.2 k, ty)
def gNw (own : String) (index k N : Nat) (d : Nat → gT) : Prop := ∃ (Cn : String) (T : u_T) (t : Nat → FieldType), g_cl[k]? = some (Cn, T, N) ∧ (∀ w ∈ u_ws Cn T N, w ∈ g_tb) ∧ (∀ j, j < N → parseFieldDescriptor (T j).2.2.1 = some (t j)) ∧ Cond.classLink own index Cn ∈ g_tb ∧ Cond.instantiable Cn N ∈ g_tb ∧ Cond.initialized Cn ∈ g_tb ∧ ∀ j, j < N → defaultValue (t j) = g_val (d j)
section GF
variable {E : gE} {base bA nL : Nat} {p : Program} {l : Launch} {e : Env} {R : Room} {s : State} {m : MethodId} {args : Array Value} {below : List Frame} {meth : Method} {c : Code} {cells slots : Nat} {Q : State → Prop} {cc : ByteArray} {own : String} {L : gL} {V : gV} {pc : Nat} {lv lv' : List (Nat × gT)} {st : List gT}
theorem r_get (C : gC E bA p s m args meth c cc own nL) {index k i a : Nat} {ty : FieldType} {fin : Bool} (F : gF own index k i ty fin) (hd : decode cc pc = .ok (.getfield index, 3)) {t : gT} (h : g_rd L V k a i = some t) (kk : vW E base bA nL p l e R s m args below meth c cells slots Q L V (pc + 3) lv (t :: st)) : vW E base bA nL p l e R s m args below meth c cells slots Q L V pc lv (tR (some a) :: st) := by
  intro H locs ls h1 h2 h3
  obtain ⟨hx, hb, hml, hown, hts, hK, hbs, hlk⟩ := C
  obtain ⟨Cn, T, N, t0, hc, hi, hin, hlink, hty, hnm, -, -⟩ := F
  obtain ⟨n, hn, hin2, hv⟩ := g_rd_spec h
  obtain ⟨en, cell, q1, q2, q3, q4⟩ := (h1.2.1 k a n hn).2.1 _ hc
  obtain ⟨hS, hfc, kC, hkC, hkind⟩ := hK.1.1 k _ hc
  obtain ⟨cf, kf, fi, f, hfi, hsl⟩ := hS i hi
  refine W.getf hx hb hown (hts _ hlink) hfi (u_facts hfc hkC (u_lays hts hin hi) hfi).1 q1 (by rw [q3]; exact fun h => by cases h) (v := g_val t) ?_ rfl rfl hd (kk H locs ls h1 h2 h3)
  rw [hsl, q4 i hi, ← hv]
  rfl
theorem r_getI (C : gC E bA p s m args meth c cc own nL) {index k i a : Nat} {ty : FieldType} {fin : Bool} (F : gF own index k i ty fin) (hd : decode cc pc = .ok (.getfield index, 3)) {x : Int32} (h : g_rI L V k a i = some x) (kk : vW E base bA nL p l e R s m args below meth c cells slots Q L V (pc + 3) lv (tI x :: st)) : vW E base bA nL p l e R s m args below meth c cells slots Q L V pc lv (tR (some a) :: st) := r_get C F hd (g_rI_spec h) kk
theorem r_getJ (C : gC E bA p s m args meth c cc own nL) {index k i a : Nat} {ty : FieldType} {fin : Bool} (F : gF own index k i ty fin) (hd : decode cc pc = .ok (.getfield index, 3)) {x : Int64} (h : g_rJ L V k a i = some x) (kk : vW E base bA nL p l e R s m args below meth c cells slots Q L V (pc + 3) lv (tJ x :: st)) : vW E base bA nL p l e R s m args below meth c cells slots Q L V pc lv (tR (some a) :: st) := r_get C F hd (g_rJ_spec h) kk
theorem r_getR (C : gC E bA p s m args meth c cc own nL) {index k i a : Nat} {ty : FieldType} {fin : Bool} (F : gF own index k i ty fin) (hd : decode cc pc = .ok (.getfield index, 3)) {x : Option Nat} (h : g_rR L V k a i = some x) (kk : vW E base bA nL p l e R s m args below meth c cells slots Q L V (pc + 3) lv (tR x :: st)) : vW E base bA nL p l e R s m args below meth c cells slots Q L V pc lv (tR (some a) :: st) := r_get C F hd (g_rR_spec h) kk
theorem r_put (C : gC E base p s m args meth c cc own nL) {index k i a : Nat} {ty : FieldType} (F : gF own index k i ty false) (hd : decode cc pc = .ok (.putfield index, 3)) {t : gT} {V' : gV} (h : g_wr L V k a i t = some V') (hn : narrow ty (g_val t) = g_val t) (hf : fits ty (g_val t) = true) (kk : vW E base base nL p l e R s m args below meth c cells slots Q L V' (pc + 3) lv st) : vW E base base nL p l e R s m args below meth c cells slots Q L V pc lv (t :: tR (some a) :: st) := by
  intro H locs ls h1 h2 h3
  obtain ⟨hx, hb, hml, hown, hts, hK, hbs, hlk⟩ := C
  obtain ⟨Cn, T, N, t0, hc, hi, hin, hlink, hty, hnm, ht0, hfin⟩ := F
  obtain ⟨n, hL, hin2, rfl⟩ := g_wr_spec h
  have hap := va_apart (own := own) (D := (E.1, E.2.1)) (cl := g_cl) (tys := g_tys E) hts hin t0 hty hnm hK.1 hc
  obtain ⟨en, cell, q1, q2, q3, q4⟩ := (h1.2.1 k a n hL).2.1 _ hc
  obtain ⟨hS, hfc, kC, hkC, hkind⟩ := hK.1.1 k _ hc
  obtain ⟨cf, kf, fi, f, hfi, hsl⟩ := hS i hi
  have hlay := hts _ (hin _ (u_in_lay hi))
  unfold u_lay at hlay
  rw [if_neg (by rw [hfin]; decide)] at hlay
  have hst := (u_facts hfc hkC (u_lays hts hin hi) hfi).1
  have h6 := u_store hfc hkC hkind hlay hfi (by rw [← ht0]; exact hty i hi) hn hf
  refine W.putK hx hb (f := f) ⟨hown, hts _ hlink, ⟨_, _, _, hfi⟩, hst⟩ (by rw [q2]; exact h6) q1 q3 (by rw [hsl]; exact k2_hasslot (q4 i hi)) rfl rfl hd fun H' e1 e2 e3 => ?_
  rw [hsl] at e1
  refine kk H' _ ls (h1.put hL e2 e3 ⟨fun r hr => ?_, fun hnn => by rw [hc] at hnn; cases hnn⟩) (h2.put e2 e3 (h1.2.1 k a n hL).1) h3
  have hre : r = (Cn, T, N) := Option.some.inj (hr.symm.trans hc)
  subst hre
  exact ⟨en, ⟨_, e1, q2, q3, t_set q4 hap hi (g_val t)⟩⟩
theorem r_putF (C : gC E base p s m args meth c cc own nL) {index k i a : Nat} {ty : FieldType} (F : gF own index k i ty true) (hd : decode cc pc = .ok (.putfield index, 3)) (hin2 : meth.name = "<init>") (hdc : ∃ r : vw_C, g_cl[k]? = some r ∧ (r.2.1 i).1 = own) {t : gT} {V' : gV} (h : g_wr L V k a i t = some V') (hn : narrow ty (g_val t) = g_val t) (hf : fits ty (g_val t) = true) (kk : vW E base base nL p l e R s m args below meth c cells slots Q L V' (pc + 3) lv st) : vW E base base nL p l e R s m args below meth c cells slots Q L V pc lv (t :: tR (some a) :: st) := by
  intro H locs ls h1 h2 h3
  obtain ⟨hx, hb, hml, hown, hts, hK, hbs, hlk⟩ := C
  obtain ⟨Cn, T, N, t0, hc, hi, hin, hlink, hty, hnm, ht0, hfin⟩ := F
  obtain ⟨n, hL, hin3, rfl⟩ := g_wr_spec h
  have hdecl : (T i).1 = own := by
    obtain ⟨r, r1, r2⟩ := hdc
    have hre : r = (Cn, T, N) := Option.some.inj (r1.symm.trans hc)
    subst hre
    exact r2
  have hap := va_apart (own := own) (D := (E.1, E.2.1)) (cl := g_cl) (tys := g_tys E) hts hin t0 hty hnm hK.1 hc
  obtain ⟨en, cell, q1, q2, q3, q4⟩ := (h1.2.1 k a n hL).2.1 _ hc
  obtain ⟨hS, hfc, kC, hkC, hkind⟩ := hK.1.1 k _ hc
  obtain ⟨cf, kf, fi, f, hfi, hsl⟩ := hS i hi
  have hlay := hts _ (hin _ (u_in_lay hi))
  unfold u_lay at hlay
  rw [if_pos hfin] at hlay
  have hst := (u_facts hfc hkC (u_lays hts hin hi) hfi).1
  have hcf : m.cls = cf := by
    obtain ⟨_, _, c', _, _, _, -, -, hf', -, -, -, hown2, -⟩ := Cond.laysFinal_spec hlay
    have e1 : c' = cf := by have := hfi.symm.trans hf'; simp at this; exact this.1.symm
    rw [hdecl] at hown2
    rw [← e1]; exact Option.some.inj (hown.symm.trans hown2)
  have h6 := u_fits hfc hkC hkind (Or.inr hlay) hfi (by rw [← ht0]; exact hty i hi) hn hf
  refine W.putFinK hx hb hown (hts _ hlink) hfi hst hcf hin2 (by rw [q2]; exact h6) q1 q3 (by rw [hsl]; exact k2_hasslot (q4 i hi)) rfl rfl hd fun H' e1 e2 e3 => ?_
  rw [hsl] at e1
  refine kk H' _ ls (h1.put hL e2 e3 ⟨fun r hr => ?_, fun hnn => by rw [hc] at hnn; cases hnn⟩) (h2.put e2 e3 (h1.2.1 k a n hL).1) h3
  have hre : r = (Cn, T, N) := Option.some.inj (hr.symm.trans hc)
  subst hre
  exact ⟨en, ⟨_, e1, q2, q3, t_set q4 hap hi (g_val t)⟩⟩
theorem g_nR {C : String} (r : Option Nat) : narrow (.object C) (g_val (tR r)) = g_val (tR r) ∧ fits (.object C) (g_val (tR r)) = true := by cases r <;> exact ⟨rfl, rfl⟩
theorem g_nA {C : FieldType} (r : Option Nat) : narrow (.array C) (g_val (tR r)) = g_val (tR r) ∧ fits (.array C) (g_val (tR r)) = true := by cases r <;> exact ⟨rfl, rfl⟩
theorem g_nI (x : Int32) : narrow .int (g_val (tI x)) = g_val (tI x) ∧ fits .int (g_val (tI x)) = true := ⟨rfl, rfl⟩
theorem g_nJ (x : Int64) : narrow .long (g_val (tJ x)) = g_val (tJ x) ∧ fits .long (g_val (tJ x)) = true := ⟨rfl, rfl⟩
theorem g_nZ {x : Int32} (h : x = 0 ∨ x = 1) : narrow .boolean (g_val (tI x)) = g_val (tI x) ∧ fits .boolean (g_val (tI x)) = true := by rcases h with rfl | rfl <;> exact ⟨rfl, rfl⟩
-- arrays
theorem r_iald (C : gC E bA p s m args meth c cc own nL) {k a : Nat} (A : gAk k .int) (hd : decode cc pc = .ok (.iaload, 1)) {x y : Int32} (h : g_aI L V k a x = some y) (kk : vW E base bA nL p l e R s m args below meth c cells slots Q L V (pc + 1) lv (tI y :: st)) : vW E base bA nL p l e R s m args below meth c cells slots Q L V pc lv (tI x :: tR (some a) :: st) := by
  intro H locs ls h1 h2 h3
  obtain ⟨hx, hb, hml, hown, hts, hK, hbs, hlk⟩ := C
  obtain ⟨hc, j, hj⟩ := A
  obtain ⟨i, g1, g2⟩ := g_aI_spec h
  obtain ⟨n, hn, hin, rfl, hlt⟩ := g_ix_spec g1
  exact W.iald (v := .int y) hx hb ((h1.2.1 k a n hn).2.2 hc) ((hK.1.2 j _ (hj E)).1 n _) (fun q => by cases q) (by rw [arrV_size]; exact hin) (by rw [arrV_read _ _ hlt]; exact congrArg (fun z => some (g_val z)) g2) rfl rfl hd (kk H locs ls h1 h2 h3)
theorem r_lald (C : gC E bA p s m args meth c cc own nL) {k a : Nat} (A : gAk k .long) (hd : decode cc pc = .ok (.laload, 1)) {x : Int32} {y : Int64} (h : g_aJ L V k a x = some y) (kk : vW E base bA nL p l e R s m args below meth c cells slots Q L V (pc + 1) lv (tJ y :: st)) : vW E base bA nL p l e R s m args below meth c cells slots Q L V pc lv (tI x :: tR (some a) :: st) := by
  intro H locs ls h1 h2 h3
  obtain ⟨hx, hb, hml, hown, hts, hK, hbs, hlk⟩ := C
  obtain ⟨hc, j, hj⟩ := A
  obtain ⟨i, g1, g2⟩ := g_aJ_spec h
  obtain ⟨n, hn, hin, rfl, hlt⟩ := g_ix_spec g1
  exact W.lald (v := .long y) hx hb ((h1.2.1 k a n hn).2.2 hc) ((hK.1.2 j _ (hj E)).1 n _) (fun q => by cases q) (by rw [arrV_size]; exact hin) (by rw [arrV_read _ _ hlt]; exact congrArg (fun z => some (g_val z)) g2) rfl rfl hd (kk H locs ls h1 h2 h3)
theorem r_zald (C : gC E bA p s m args meth c cc own nL) {k a : Nat} (A : gAk k .boolean) (hd : decode cc pc = .ok (.baload, 1)) {x y : Int32} (h : g_aI L V k a x = some y) (kk : vW E base bA nL p l e R s m args below meth c cells slots Q L V (pc + 1) lv (tI y :: st)) : vW E base bA nL p l e R s m args below meth c cells slots Q L V pc lv (tI x :: tR (some a) :: st) := by
  intro H locs ls h1 h2 h3
  obtain ⟨hx, hb, hml, hown, hts, hK, hbs, hlk⟩ := C
  obtain ⟨hc, j, hj⟩ := A
  obtain ⟨i, g1, g2⟩ := g_aI_spec h
  obtain ⟨n, hn, hin, rfl, hlt⟩ := g_ix_spec g1
  exact W.zald (v := .int y) hx hb ((h1.2.1 k a n hn).2.2 hc) ((hK.1.2 j _ (hj E)).1 n _) (fun q => by cases q) (by rw [arrV_size]; exact hin) (by rw [arrV_read _ _ hlt]; exact congrArg (fun z => some (g_val z)) g2) rfl rfl hd (kk H locs ls h1 h2 h3)
theorem r_aald (C : gC E bA p s m args meth c cc own nL) {k a : Nat} {ty : FieldType} (A : gAk k ty) (hty : ty.isReference = true) (hd : decode cc pc = .ok (.aaload, 1)) {x : Int32} {y : Option Nat} (h : g_aR L V k a x = some y) (kk : vW E base bA nL p l e R s m args below meth c cells slots Q L V (pc + 1) lv (tR y :: st)) : vW E base bA nL p l e R s m args below meth c cells slots Q L V pc lv (tI x :: tR (some a) :: st) := by
  intro H locs ls h1 h2 h3
  obtain ⟨hx, hb, hml, hown, hts, hK, hbs, hlk⟩ := C
  obtain ⟨hc, j, hj⟩ := A
  obtain ⟨i, g1, g2⟩ := g_aR_spec h
  obtain ⟨n, hn, hin, rfl, hlt⟩ := g_ix_spec g1
  exact W.aald (v := va_rf y) hx hb ((h1.2.1 k a n hn).2.2 hc) ((hK.1.2 j _ (hj E)).1 n _) hty (fun q => by cases q) (by rw [arrV_size]; exact hin) (by rw [arrV_read _ _ hlt]; exact congrArg (fun z => some (g_val z)) g2) rfl rfl hd (kk H locs ls h1 h2 h3)
theorem r_alen (C : gC E bA p s m args meth c cc own nL) {k a n : Nat} {ty : FieldType} (A : gAk k ty) (hd : decode cc pc = .ok (.arraylength, 1)) (h : L.2 k a = some n) (kk : vW E base bA nL p l e R s m args below meth c cells slots Q L V (pc + 1) lv (tI (nI n) :: st)) : vW E base bA nL p l e R s m args below meth c cells slots Q L V pc lv (tR (some a) :: st) := by
  intro H locs ls h1 h2 h3
  obtain ⟨hx, hb, hml, hown, hts, hK, hbs, hlk⟩ := C
  obtain ⟨hc, j, hj⟩ := A
  exact W.alen (n := nI n) hx hb ((h1.2.1 k a n h).2.2 hc) ((hK.1.2 j _ (hj E)).1 n _) (by rw [arrV_size]; rfl) rfl rfl hd (kk H locs ls h1 h2 h3)
theorem g_arr_put {k a n i : Nat} {H H1 : Heap} {t : gT} {v : Value} (hv : g_val t = v) (hc : g_cl[k]? = none) (h1 : g_hp E base L V H) (hn : L.2 k a = some n) (e : H1[a]? = some ((arrV (E.2.2 k) n (g_f V k a)).setSlot i v)) (z : H1.size = H.size) (oq : ∀ q : Nat, q ≠ a → H1[q]? = H[q]?) : g_hp E base L (g_st V k a i t) H1 := by
  refine h1.put hn z oq ⟨fun r hr => (by rw [hc] at hr; cases hr), fun _ => ?_⟩
  rw [e, arrV_store, hv]
theorem r_iast (C : gC E base p s m args meth c cc own nL) {k a : Nat} (A : gAk k .int) (hd : decode cc pc = .ok (.iastore, 1)) {x y : Int32} {V' : gV} (h : g_wa L V k a x (tI y) = some V') (kk : vW E base base nL p l e R s m args below meth c cells slots Q L V' (pc + 1) lv st) : vW E base base nL p l e R s m args below meth c cells slots Q L V pc lv (tI y :: tI x :: tR (some a) :: st) := by
  intro H locs ls h1 h2 h3
  obtain ⟨hx, hb, hml, hown, hts, hK, hbs, hlk⟩ := C
  obtain ⟨hc, j, hj⟩ := A
  obtain ⟨i, n, hn, hin, rfl, hlt, rfl⟩ := g_wa_spec h
  exact W.iast hx hb ((h1.2.1 k a n hn).2.2 hc) ((hK.1.2 j _ (hj E)).1 n _) (fun q => by cases q) (by rw [arrV_size]; exact hin) rfl rfl hd fun H1 e z oq => kk H1 _ ls (g_arr_put (t := tI y) rfl hc h1 hn e z oq) (h2.put z oq (h1.2.1 k a n hn).1) h3
theorem r_last (C : gC E base p s m args meth c cc own nL) {k a : Nat} (A : gAk k .long) (hd : decode cc pc = .ok (.lastore, 1)) {x : Int32} {y : Int64} {V' : gV} (h : g_wa L V k a x (tJ y) = some V') (kk : vW E base base nL p l e R s m args below meth c cells slots Q L V' (pc + 1) lv st) : vW E base base nL p l e R s m args below meth c cells slots Q L V pc lv (tJ y :: tI x :: tR (some a) :: st) := by
  intro H locs ls h1 h2 h3
  obtain ⟨hx, hb, hml, hown, hts, hK, hbs, hlk⟩ := C
  obtain ⟨hc, j, hj⟩ := A
  obtain ⟨i, n, hn, hin, rfl, hlt, rfl⟩ := g_wa_spec h
  exact W.last hx hb ((h1.2.1 k a n hn).2.2 hc) ((hK.1.2 j _ (hj E)).1 n _) (fun q => by cases q) (by rw [arrV_size]; exact hin) rfl rfl hd fun H1 e z oq => kk H1 _ ls (g_arr_put (t := tJ y) rfl hc h1 hn e z oq) (h2.put z oq (h1.2.1 k a n hn).1) h3
theorem r_zast (C : gC E base p s m args meth c cc own nL) {k a : Nat} (A : gAk k .boolean) (hd : decode cc pc = .ok (.bastore, 1)) {x y : Int32} {V' : gV} (hy : y = 0 ∨ y = 1) (h : g_wa L V k a x (tI y) = some V') (kk : vW E base base nL p l e R s m args below meth c cells slots Q L V' (pc + 1) lv st) : vW E base base nL p l e R s m args below meth c cells slots Q L V pc lv (tI y :: tI x :: tR (some a) :: st) := by
  intro H locs ls h1 h2 h3
  obtain ⟨hx, hb, hml, hown, hts, hK, hbs, hlk⟩ := C
  obtain ⟨hc, j, hj⟩ := A
  obtain ⟨i, n, hn, hin, rfl, hlt, rfl⟩ := g_wa_spec h
  have hnz : narrow .boolean (.int y) = g_val (tI y) := (g_nZ hy).1
  exact W.zast hx hb ((h1.2.1 k a n hn).2.2 hc) ((hK.1.2 j _ (hj E)).1 n _) (fun q => by cases q) (by rw [arrV_size]; exact hin) rfl rfl hd fun H1 e z oq => kk H1 _ ls (g_arr_put (t := tI y) rfl hc h1 hn (by rw [hnz] at e; exact e) z oq) (h2.put z oq (h1.2.1 k a n hn).1) h3
theorem r_aast (C : gC E base p s m args meth c cc own nL) {k a kv v : Nat} {Cn : String} (A : gAk k (.object Cn)) (hcv : ∃ (T : u_T) (N : Nat), g_cl[kv]? = some (Cn, T, N)) (hd : decode cc pc = .ok (.aastore, 1)) {x : Int32} {nv : Nat} (hv : L.2 kv v = some nv) {V' : gV} (h : g_wa L V k a x (tR (some v)) = some V') (kk : vW E base base nL p l e R s m args below meth c cells slots Q L V' (pc + 1) lv st) : vW E base base nL p l e R s m args below meth c cells slots Q L V pc lv (tR (some v) :: tI x :: tR (some a) :: st) := by
  intro H locs ls h1 h2 h3
  obtain ⟨hx, hb, hml, hown, hts, hK, hbs, hlk⟩ := C
  obtain ⟨hc, j, hj⟩ := A
  obtain ⟨T, N, hcv⟩ := hcv
  obtain ⟨i, n, hn, hin, rfl, hlt, rfl⟩ := g_wa_spec h
  have h0 : ¬ x < 0 := fun q => hin (Or.inl q)
  obtain ⟨-, cellV, g1, g2, g3, -⟩ := (h1.2.1 kv v nv hv).2.1 _ hcv
  have hcls := (hK.1.1 kv _ hcv).2
  obtain ⟨kA, comp, k1, k2, k3, -⟩ := (hK.1.2 j _ (hj E)).2
  have hcomp : comp = E.1 kv := Option.some.inj (k3.symm.trans hcls.1)
  subst hcomp
  obtain ⟨kC, hkC, -⟩ := hcls.2
  exact W.aast hx hb ((h1.2.1 k a n hn).2.2 hc) (fun q h => by cases h) (fun h => by cases h) k1 k2 rfl hkC ⟨h0, by rw [arrV_size]; exact hlt⟩ g1 (fun q h => by rw [g3] at h; cases h) (by rw [g2]; exact hkC) (by rw [g2]; exact va_assign hcls) rfl rfl hd fun H1 e z oq => kk H1 _ ls (g_arr_put (t := tR (some v)) rfl hc h1 hn e z oq) (h2.put z oq (h1.2.1 k a n hn).1) h3
-- new cells
theorem g_S_new {H H1 : Heap} {locs : List Loc} (h2 : va_S (g_A base) s.heap H locs) (z : H1.size = H.size + 1) (oq : ∀ q : Nat, q < H.size → H1[q]? = H[q]?) : va_S (g_A base) s.heap H1 locs :=
  ⟨Nat.le_trans h2.1 (by omega), fun x a1 a2 => (oq x (Nat.lt_of_lt_of_le a1 h2.1)).trans (h2.2.1 x a1 a2), h2.2.2⟩
theorem r_new (C : gC E base p s m args meth c cc own nL) {index k N : Nat} {d : Nat → gT} (F : gNw own index k N d) (hd : decode cc pc = .ok (.new index, 3)) {L' : gL} {V' : gV} (h : g_new L V k N d = some (L', V')) (hcells : cells + 1 ≤ R.cells) (hslots : slots + N ≤ R.slots) (kk : vW E base base nL p l e R s m args below meth c (cells + 1) (slots + N) Q L' V' (pc + 3) lv (tR (some L.1) :: st)) : vW E base base nL p l e R s m args below meth c cells slots Q L V pc lv st := by
  intro H locs ls h1 h2 h3
  obtain ⟨hx, hb, hml, hown, hts, hK, hbs, hlk⟩ := C
  obtain ⟨Cn, T, t, hc, hin, hty, w1, w2, w3, hdf⟩ := F
  cases h
  have hKn := hK.1.1 k _ hc
  refine W.newcK hx hb hown (hts _ w1) (hts _ w2) (hts _ w3) rfl hd hcells hslots hKn.2.1 rfl fun H1 kC hkC e1 z1 o1 => ?_
  have hz : H.size = L.1 := h1.1
  have hh := kk H1 locs ls (h1.new (Nat.le_trans hbs h2.1) z1 o1 ⟨fun r hr => ?_, fun hnn => by rw [hc] at hnn; cases hnn⟩) (g_S_new h2 z1 o1) h3
  · rw [← hz] at hh
    exact hh
  · have hre : r = (Cn, T, N) := Option.some.inj (hr.symm.trans hc)
    subst hre
    exact ⟨rfl, (u_born t hts hin hKn hkC e1 hty).to hdf⟩
theorem r_newa (C : gC E base p s m args meth c cc own nL) {k N : Nat} {at_ : ArrayType} {ty : FieldType} (hty : newarray.typeOf at_ = ty) (A : gAk k ty) (hnr : ∀ Cn, ty ≠ .object Cn) (w : Cond.arrayClass ty ∈ g_tb) (hd : decode cc pc = .ok (.newarray at_, 2)) {n : Int32} (hn0 : ¬ n < 0) (hN : n.toNatClampNeg = N) (hby : N * componentBytes ty ≤ 536870912) {dv : gT} (hdv : defaultValue ty = g_val dv) {L' : gL} {V' : gV} (h : g_new L V k N (fun _ => dv) = some (L', V')) (hcells : cells + 1 ≤ R.cells) (hslots : slots + N ≤ R.slots) (kk : vW E base base nL p l e R s m args below meth c (cells + 1) (slots + N) Q L' V' (pc + 2) lv (tR (some L.1) :: st)) : vW E base base nL p l e R s m args below meth c cells slots Q L V pc lv (tI n :: st) := by
  intro H locs ls h1 h2 h3
  obtain ⟨hx, hb, hml, hown, hts, hK, hbs, hlk⟩ := C
  obtain ⟨hc, j, hj⟩ := A
  cases h
  subst hty
  refine va_newaK hx hb (hts _ w) rfl hd rfl hn0 hN hby hcells hslots rfl fun H1 cA e1 z1 o1 hAr hNm => ?_
  have hcA : cA = E.2.2 k := by
    have h9 := (hK.1.2 j _ (hj E)).2
    have h8 : s.vm.findClass ("[" ++ (newarray.typeOf at_).toString) = some (E.2.2 k) := by
      cases at_ <;> exact h9
    exact Option.some.inj (hNm.symm.trans h8)
  subst hcA
  have hz : H.size = L.1 := h1.1
  have hh := kk H1 locs ls (h1.new (Nat.le_trans hbs h2.1) z1 o1 ⟨fun r hr => (by rw [hc] at hr; cases hr), fun _ => ?_⟩) (g_S_new h2 z1 o1) h3
  · rw [← hz] at hh
    exact hh
  · rw [e1, hdv]
theorem r_anew (C : gC E base p s m args meth c cc own nL) {k N index : Nat} {Cn : String} (A : gAk k (.object Cn)) (w1 : Cond.classLink own index Cn ∈ g_tb) (w2 : Cn ∈ g_ao) (hd : decode cc pc = .ok (.anewarray index, 3)) {n : Int32} (hn0 : ¬ n < 0) (hN : n.toNatClampNeg = N) (hby : N * 4 ≤ 536870912) {L' : gL} {V' : gV} (h : g_new L V k N (fun _ => tR none) = some (L', V')) (hcells : cells + 1 ≤ R.cells) (hslots : slots + N ≤ R.slots) (kk : vW E base base nL p l e R s m args below meth c (cells + 1) (slots + N) Q L' V' (pc + 3) lv (tR (some L.1) :: st)) : vW E base base nL p l e R s m args below meth c cells slots Q L V pc lv (tI n :: st) := by
  intro H locs ls h1 h2 h3
  obtain ⟨hx, hb, hml, hown, hts, hK, hbs, hlk⟩ := C
  obtain ⟨hc, j, hj⟩ := A
  cases h
  subst hN
  refine W.anew hx hb hown (hts _ w1) (va_AO.use (hK.2.2 _ w2)) rfl hd rfl hn0 hby hcells hslots fun cA kA comp f1 f2 f3 f4 => ?_
  generalize hH1 : H.push ({ cls := cA, slots := Array.replicate n.toNatClampNeg .null, vm := .none } : Cell) = H1
  have z1 : H1.size = H.size + 1 := by rw [← hH1, Array.size_push]
  have e1 : H1[H.size]? = some (arrV cA n.toNatClampNeg (fun _ => .null)) := by rw [← hH1, Array.getElem?_push_size, ← arrV_new]
  have o1 : ∀ q : Nat, q < H.size → H1[q]? = H[q]? := fun q hq => by rw [← hH1, Array.getElem?_push, if_neg (Nat.ne_of_lt hq)]
  have hcA : cA = E.2.2 k := by
    obtain ⟨-, -, -, -, -, h8⟩ := (hK.1.2 j _ (hj E)).2
    exact Option.some.inj (f1.symm.trans h8)
  subst hcA
  have hz : H.size = L.1 := h1.1
  have hh := kk H1 locs ls (h1.new (Nat.le_trans hbs h2.1) z1 o1 ⟨fun r hr => (by rw [hc] at hr; cases hr), fun _ => e1⟩) (g_S_new h2 z1 o1) h3
  rw [← hz] at hh
  exact hh
theorem r_objInit (C : gC E bA p s m args meth c cc own nL) {index a : Nat} (w1 : Cond.methodLink own index Lib.objectInit ∈ g_tb) (w2 : Cond.instanceMethod Lib.objectInit ∈ g_tb) (w3 : Cond.code Lib.objectInit ⟨#[0xb1]⟩ 1 none ∈ g_tb) (hd : decode cc pc = .ok (.invokespecial index, 3)) (hf : 1 ≤ R.frames) (hlo : (st.map g_c).sum + 12 ≤ R.locals) (kk : vW E base bA nL p l e R s m args below meth c cells slots Q L V (pc + 3) lv st) : vW E base bA nL p l e R s m args below meth c cells slots Q L V pc lv (tR (some a) :: st) := by
  intro H locs ls h1 h2 h3
  obtain ⟨hx, hb, hml, hown, hts, hK, hbs, hlk⟩ := C
  refine W.objInit (a := a) (rest := st.map g_val) hx hb hown (hts _ w1) (hts _ w2) (hts _ w3) rfl (by rw [hml]; exact h3.1) rfl hd hf ?_ (kk H locs ls h1 h2 h3)
  rw [List.map_map]
  show 2 * 0 + (st.map fun t => (g_val t).category).sum + 12 ≤ R.locals
  rw [g_c_eq]
  omega
theorem r_mmin (C : gC E bA p s m args meth c cc own nL) {index : Nat} (w1 : Cond.methodLink own index Lib.Math.min.name ∈ g_tb) (w2 : Cond.static Lib.Math.min.name ∈ g_tb) (w3 : Cond.initialized "java/lang/Math" ∈ g_tb) (w4 : Cond.code Lib.Math.min.name Lib.Math.min.code 2 (some .int) ∈ g_tb) {x y : Int32} (hd : decode cc pc = .ok (.invokestatic index, 3)) (hf : 1 ≤ R.frames) (hlo : (st.map g_c).sum + 13 ≤ R.locals) (hc : cells ≤ R.cells) (hs : slots ≤ R.slots) (kk : vW E base bA nL p l e R s m args below meth c cells slots Q L V (pc + 3) lv (tI (if y < x then y else x) :: st)) : vW E base bA nL p l e R s m args below meth c cells slots Q L V pc lv (tI y :: tI x :: st) := by
  intro H locs ls h1 h2 h3
  obtain ⟨hx, hb, hml, hown, hts, hK, hbs, hlk⟩ := C
  exact va_mmin (rest := st.map g_val) hx hb (by rw [hml]; exact h3.1.symm) hown (hts _ w1) (hts _ w2) (hts _ w3) (hts _ w4) hf (by rw [List.map_map]; show (st.map fun t => (g_val t).category).sum + 13 ≤ R.locals; rw [g_c_eq]; exact hlo) hc hs hd (kk H locs ls h1 h2 h3)
-- returns
theorem g_end (C : gC E bA p s m args meth c cc own nL) {H : Heap} {locs : List Loc} (h1 : g_hp E base L V H) (h2 : va_S (g_A bA) s.heap H locs) (o : Option gT) (t : State) (ht : t.heap = H) (hW : s.WarmedH t.vm) : g_out E base bA L V o args s (.returned (o.map g_val)) t :=
  ⟨rfl, ⟨by rw [ht]; exact h1, g_K.warm hW C.2.2.2.2.2.1⟩, h2.F ht⟩
theorem r_iret (C : gC E bA p s m args meth c cc own nL) (hr : meth.sig.returnType = some .int) (hd : decode cc pc = .ok (.ireturn, 1)) {x : Int32} : vW E base bA nL p l e R s m args below meth c cells slots (g_MQ E base bA below args s cells slots L V (some (tI x))) L V pc lv [tI x] :=
  fun H locs ls h1 h2 h3 => W.iret C.1 C.2.1 hr (fun t ht hW => g_end C h1 h2 (some (tI x)) t ht hW) h2.2.2 hd C.2.2.2.2.2.2.2
theorem r_zret (C : gC E bA p s m args meth c cc own nL) (hr : meth.sig.returnType = some .boolean) (hd : decode cc pc = .ok (.ireturn, 1)) {x : Int32} (hz : x = 0 ∨ x = 1) : vW E base bA nL p l e R s m args below meth c cells slots (g_MQ E base bA below args s cells slots L V (some (tI x))) L V pc lv [tI x] :=
  fun H locs ls h1 h2 h3 => W.zret C.1 C.2.1 hr (g_nZ hz).1 (fun t ht hW => g_end C h1 h2 (some (tI x)) t ht hW) h2.2.2 hd C.2.2.2.2.2.2.2
theorem r_lret (C : gC E bA p s m args meth c cc own nL) (hr : meth.sig.returnType = some .long) (hd : decode cc pc = .ok (.lreturn, 1)) {x : Int64} : vW E base bA nL p l e R s m args below meth c cells slots (g_MQ E base bA below args s cells slots L V (some (tJ x))) L V pc lv [tJ x] :=
  fun H locs ls h1 h2 h3 => W.lret C.1 C.2.1 hr (fun t ht hW => g_end C h1 h2 (some (tJ x)) t ht hW) h2.2.2 hd C.2.2.2.2.2.2.2
theorem r_vret (C : gC E bA p s m args meth c cc own nL) (hr : meth.sig.returnType = none) (hd : decode cc pc = .ok (.return_, 1)) : vW E base bA nL p l e R s m args below meth c cells slots (g_MQ E base bA below args s cells slots L V none) L V pc lv [] :=
  fun H locs ls h1 h2 h3 => W.vret C.1 C.2.1 hr (fun t ht hW => g_end C h1 h2 none t ht hW) h2.2.2 hd C.2.2.2.2.2.2.2
theorem r_aret (C : gC E bA p s m args meth c cc own nL) {Cn : String} (hr : meth.sig.returnType = some (.object Cn)) (hd : decode cc pc = .ok (.areturn, 1)) {x : Option Nat} : vW E base bA nL p l e R s m args below meth c cells slots (g_MQ E base bA below args s cells slots L V (some (tR x))) L V pc lv [tR x] :=
  fun H locs ls h1 h2 h3 => W.aret C.1 C.2.1 hr (Or.inl ⟨_, rfl⟩) (by cases x with | none => exact Or.inl rfl | some a => exact Or.inr ⟨a, rfl⟩) (fun t ht hW => g_end C h1 h2 (some (tR x)) t ht hW) h2.2.2 hd C.2.2.2.2.2.2.2
end GF
-- entry
theorem g_blind {E : gE} {base bA : Nat} {L : gL} {V : gV} {as : List Value} : FrameBlind (va_Pc as (g_in E base bA L V)) :=
  fun a U g mk q => ⟨q.1, q.2.1, g_K.same (s := U) (U := U.calling g mk a) rfl q.2.2.1, q.2.2.2⟩
def g_args : Nat → List gT → List (Nat × gT)
  | _, [] => []
  | k, t :: r => (k, t) :: g_args (k + g_c t) r
theorem g_cv (t : gT) : (g_val t).category = g_c t := congrFun g_c_eq t
theorem g_args_eq : ∀ (as : List gT) (k : Nat), lv_args k (as.map g_val) = (g_args k as).map g_q
  | [], _ => rfl
  | t :: r, k => by
    show lv_args k (g_val t :: r.map g_val) = (k, g_val t) :: (g_args (k + g_c t) r).map g_q
    rw [← g_args_eq r]
    show (k, g_val t) :: lv_args (if (g_val t).category = 2 then k + 2 else k + 1) (r.map g_val) = _
    rw [g_cv]
    rcases t with x | y | z <;> rfl
theorem g_sl_eq (as : List gT) : (lg_sl (as.map g_val)).length = (as.map g_c).sum := by
  induction as with
  | nil => rfl
  | cons t r ih =>
    have h0 : lg_sl ((t :: r).map g_val) = (if (g_val t).category = 2 then [Slot.val (g_val t), Slot.second] else [Slot.val (g_val t)]) ++ lg_sl (r.map g_val) := rfl
    rw [h0, List.length_append, ih]
    show _ = g_c t + (r.map g_c).sum
    rw [g_cv]
    rcases t with x | y | z <;> rfl
theorem r_enter {l : Launch} {E : gE} {base bA : Nat} {y : MethodName} {b : ByteArray} {mL : Nat} {ret : Option FieldType} {rm : Room} {L : gL} {V : gV} {o : Option gT} {L' : gL} {V' : gV} (own : String) (hy : plainName y.cls = true) (hown : y.cls = own) (as : List gT) (lv : List (Nat × gT)) (hlv : g_args 0 as = lv) (hln : (as.map g_c).sum ≤ mL)
    (body : ∀ (p : Program) (e : Env) (s : State) (m : MethodId) (args : Array Value) (below : List Frame) (meth : Method) (c : Code), gC E bA p s m args meth c b own mL → meth.sig.returnType = ret → meth.name = y.name → vW E base bA mL p l e rm s m args below meth c 0 0 (g_MQ E base bA below args s rm.cells rm.slots L' V' o) L V 0 lv []) : g_Met l E base bA y b mL ret rm as L V o L' V' := by
  refine Met.ofW (cc := b) (maxL := mL) (ret := ret) hy rfl ?_
  intro p e s m args below meth c s₁ B hml hv
  obtain ⟨rfl, hP, hK, hbs⟩ := hv
  have hts := atoms_spec (ws := g_w y b mL ret) B.pre
  have hnm : s.vm.findClass y.cls = some m.cls := findClass_of_methodNamed B.named
  have hname : meth.name = y.name := (name_of_methodNamed B.named B.method).1
  have hl := lv_entry (as.map g_val) (n := mL) (by rw [g_sl_eq]; exact hln)
  rw [g_args_eq, hlv] at hl
  rw [lg_entry_eq]
  exact body p e s m _ below meth c ⟨B.exec, B.bytes, hml, by rw [← hown]; exact hnm, fun w hw => hts w (List.mem_cons_of_mem _ hw), hK, hbs, B.notSynchronized⟩ B.returns hname s.heap [] _ hP va_S.rf hl
-- calls
def gM (own : String) (index : Nat) (y : MethodName) (n : Nat) : Prop := Cond.methodLink own index y ∈ g_tb ∧ Cond.initialized y.cls ∈ g_tb ∧ (y.cls ≠ "java/lang/invoke/MethodHandle" ∧ y.cls ≠ "java/lang/invoke/VarHandle" ∧ (parseMethodDescriptor y.desc).map (fun d => d.parameters.length) = some n)
section GK
variable {E : gE} {base bA nL : Nat} {p : Program} {l : Launch} {e : Env} {R : Room} {s : State} {m : MethodId} {args : Array Value} {below : List Frame} {meth : Method} {c : Code} {cells slots : Nat} {Q : State → Prop} {cc : ByteArray} {own : String} {L : gL} {V : gV} {pc : Nat} {lv lv' : List (Nat × gT)} {st : List gT}
theorem r_run {st0 : List gT} {o : Option gT} {L' : gL} {V' : gV} {mc ms : Nat} {a : Array Value} (hr : ∀ (H : Heap) (locs : List Loc) (ls : Array Slot), g_hp E base L V H → va_S (g_A bA) s.heap H locs → lv_has ls nL (lv.map g_q) → va_Run p l e R s m args below meth c H locs cells slots mc ms (F0 m pc ls (st0.map g_val)) (st.map g_val) (g_out E base bA L' V' o a) (g_A bA)) (kk : vW E base bA nL p l e R s m args below meth c (cells + mc) (slots + ms) Q L' V' (pc + 3) lv (o.toList ++ st)) : vW E base bA nL p l e R s m args below meth c cells slots Q L V pc lv st0 := by
  intro H locs ls h1 h2 h3 T hT X
  obtain ⟨v, st₀, t, T', Ls, h0, X', hL, e1, e2, ⟨hv, ⟨hp', hK'⟩, hz, hk⟩, hst⟩ := hr H locs ls h1 h2 h3 T hT X
  have hv' : v = o.map g_val := Outcome.returned.inj hv
  subst hv'
  rw [h0] at hz hk
  have hw := kk T'.heap (locs ++ Ls) ls (by rw [e1]; exact hp') ⟨Nat.le_trans h2.1 (by rw [e1]; exact hz), fun q q1 q2 => by rw [e1, hk q (Nat.lt_of_lt_of_le q1 h2.1) q2]; exact h2.2.1 q q1 q2, fun q hq => by
    rcases List.mem_append.mp hq with h | h
    · exact h2.2.2 q h
    · exact hL q h⟩ h3
  obtain ⟨t2, a1, b1⟩ := hw T' rfl X'
  refine ⟨t2, hst t2 ?_, b1⟩
  cases o <;> exact a1
theorem g_good {y : MethodName} {b : ByteArray} {mL : Nat} {ret : Option FieldType} (hc : Cond.code y b mL ret ∈ g_tb) : GoodIn g_tb (g_w y b mL ret) := by
  intro w hw
  rcases List.mem_cons.mp hw with rfl | hw
  · exact g_allgood _ hc
  · exact g_allgood _ hw
theorem r_callV (C : gC E bA p s m args meth c cc own nL) {index k n mL a : Nat} {y : MethodName} {b : ByteArray} {ret : Option FieldType} {rm : Room} {As : List gT} {o : Option gT} {L' : gL} {V' : gV} (M : gM own index y n) (w1 : Cond.instanceMethod y ∈ g_tb) (w2 : Cond.selects y.cls y y ∈ g_tb) (w3 : Cond.code y b mL ret ∈ g_tb) (hcl : ∃ (T : u_T) (N : Nat), g_cl[k]? = some (y.cls, T, N)) (hM : g_Met l E base bA y b mL ret rm (tR (some a) :: As) L V o L' V') (hd : decode cc pc = .ok (.invokevirtual index, 3)) {na : Nat} (ha : L.2 k a = some na) (hn : As.length = n) (hR : rm.frames + 1 ≤ R.frames ∧ 8 + (mL + 11) + rm.locals ≤ R.locals) (hW : (st.map g_c).sum ≤ 8) (hc : cells + rm.cells ≤ R.cells) (hs : slots + rm.slots ≤ R.slots) {st0 : List gT} (hst : st0 = As.reverse ++ tR (some a) :: st) (kk : vW E base bA nL p l e R s m args below meth c (cells + rm.cells) (slots + rm.slots) Q L' V' (pc + 3) lv (o.toList ++ st)) : vW E base bA nL p l e R s m args below meth c cells slots Q L V pc lv st0 := by
  subst hst
  refine r_run (a := (Value.ref a :: As.map g_val).toArray) (fun H locs ls h1 h2 h3 => ?_) kk
  obtain ⟨hx, hb, hml, hown, hts, hK, hbs, hlk⟩ := C
  obtain ⟨T, N, hcl⟩ := hcl
  obtain ⟨-, cell, q1, q2, q3, -⟩ := (h1.2.1 k a na ha).2.1 _ hcl
  refine va_runV (C := y.cls) (As := As.map g_val) ⟨hx, hb, hml, hown, hts⟩ hM ⟨callB_of n hts (g_good w3) rfl rfl rfl (hts _ M.2.1) (hts _ M.1) M.2.2 hR, hts _ w1, hts _ w2⟩ ⟨g_blind, ⟨cell, q1, by rw [q3]; rfl, by rw [q2]; exact (hK.1.1 k _ hcl).2.1⟩, fun U hU hWm => ⟨rfl, by rw [hU]; exact h1, hK.warm hWm, by rw [hU]; exact Nat.le_trans hbs h2.1⟩⟩ rfl (by rw [List.length_map]; exact hn) h3.1 ?_ ?_ hd ⟨hc, hs⟩
  · show (As.reverse ++ tR (some a) :: st).map g_val = _
    rw [List.map_append, List.map_reverse]; rfl
  · rw [List.map_map]
    show 2 * 0 + (st.map fun t => (g_val t).category).sum ≤ 8
    rw [g_c_eq]
    omega
theorem r_callS (C : gC E bA p s m args meth c cc own nL) {index n mL : Nat} {y : MethodName} {b : ByteArray} {ret : Option FieldType} {rm : Room} {As : List gT} {o : Option gT} {L' : gL} {V' : gV} (M : gM own index y n) (w1 : Cond.static y ∈ g_tb) (w3 : Cond.code y b mL ret ∈ g_tb) (hM : g_Met l E base bA y b mL ret rm As L V o L' V') (hd : decode cc pc = .ok (.invokestatic index, 3)) (hn : As.length = n) (hR : rm.frames + 1 ≤ R.frames ∧ 8 + (mL + 11) + rm.locals ≤ R.locals) (hW : (st.map g_c).sum ≤ 8) (hc : cells + rm.cells ≤ R.cells) (hs : slots + rm.slots ≤ R.slots) {st0 : List gT} (hst : st0 = As.reverse ++ st) (kk : vW E base bA nL p l e R s m args below meth c (cells + rm.cells) (slots + rm.slots) Q L' V' (pc + 3) lv (o.toList ++ st)) : vW E base bA nL p l e R s m args below meth c cells slots Q L V pc lv st0 := by
  subst hst
  refine r_run (a := (As.map g_val).toArray) (fun H locs ls h1 h2 h3 => ?_) kk
  obtain ⟨hx, hb, hml, hown, hts, hK, hbs, hlk⟩ := C
  refine va_runS (As := As.map g_val) ⟨hx, hb, hml, hown, hts⟩ hM ⟨callB_of n hts (g_good w3) rfl rfl rfl (hts _ M.2.1) (hts _ M.1) M.2.2 hR, hts _ w1⟩ ⟨g_blind, fun U hU hWm => ⟨rfl, by rw [hU]; exact h1, hK.warm hWm, by rw [hU]; exact Nat.le_trans hbs h2.1⟩⟩ rfl (by rw [List.length_map]; exact hn) h3.1 ?_ ?_ hd ⟨hc, hs⟩
  · show (As.reverse ++ st).map g_val = _
    rw [List.map_append, List.map_reverse]
  · rw [List.map_map]
    show 2 * 0 + (st.map fun t => (g_val t).category).sum ≤ 8
    rw [g_c_eq]
    omega
theorem r_callI (C : gC E bA p s m args meth c cc own nL) {index n mL a : Nat} {y : MethodName} {b : ByteArray} {rm : Room} {As : List gT} {L' : gL} {V' : gV} (M : gM own index y n) (hy1 : y.name = "<init>") (w1 : Cond.instanceMethod y ∈ g_tb) (w3 : Cond.code y b mL none ∈ g_tb) (hM : g_Met l E base bA y b mL none rm (tR (some a) :: As) L V none L' V') (hd : decode cc pc = .ok (.invokespecial index, 3)) (hn : As.length = n) (hR : rm.frames + 1 ≤ R.frames ∧ 8 + (mL + 11) + rm.locals ≤ R.locals) (hW : (st.map g_c).sum ≤ 8) (hc : cells + rm.cells ≤ R.cells) (hs : slots + rm.slots ≤ R.slots) {st0 : List gT} (hst : st0 = As.reverse ++ tR (some a) :: st) (kk : vW E base bA nL p l e R s m args below meth c (cells + rm.cells) (slots + rm.slots) Q L' V' (pc + 3) lv st) : vW E base bA nL p l e R s m args below meth c cells slots Q L V pc lv st0 := by
  subst hst
  refine r_run (o := none) (a := (Value.ref a :: As.map g_val).toArray) (fun H locs ls h1 h2 h3 => ?_) kk
  obtain ⟨hx, hb, hml, hown, hts, hK, hbs, hlk⟩ := C
  refine va_runI (As := As.map g_val) ⟨hx, hb, hml, hown, hts⟩ hM ⟨callB_of n hts (g_good w3) rfl rfl rfl (hts _ M.2.1) (hts _ M.1) M.2.2 hR, hy1, hts _ w1⟩ ⟨g_blind, fun U hU hWm => ⟨rfl, by rw [hU]; exact h1, hK.warm hWm, by rw [hU]; exact Nat.le_trans hbs h2.1⟩⟩ rfl (by rw [List.length_map]; exact hn) h3.1 ?_ ?_ hd ⟨hc, hs⟩
  · show (As.reverse ++ tR (some a) :: st).map g_val = _
    rw [List.map_append, List.map_reverse]; rfl
  · rw [List.map_map]
    show 2 * 0 + (st.map fun t => (g_val t).category).sum ≤ 8
    rw [g_c_eq]
    omega
theorem r_callIN (C : gC E bA p s m args meth c cc own nL) {index n mL a : Nat} {y : MethodName} {b : ByteArray} {rm : Room} {As : List gT} {L' : gL} {V' : gV} (hg : g_nest = .methodLinkNest own index y "EarlyCut") (w0 : Cond.initialized y.cls ∈ g_tb) (hdd : y.cls ≠ "java/lang/invoke/MethodHandle" ∧ y.cls ≠ "java/lang/invoke/VarHandle" ∧ (parseMethodDescriptor y.desc).map (fun d => d.parameters.length) = some n) (hy1 : y.name = "<init>") (w1 : Cond.instanceMethod y ∈ g_tb) (w3 : Cond.code y b mL none ∈ g_tb) (hM : g_Met l E base bA y b mL none rm (tR (some a) :: As) L V none L' V') (hd : decode cc pc = .ok (.invokespecial index, 3)) (hn : As.length = n) (hR : rm.frames + 1 ≤ R.frames ∧ 8 + (mL + 11) + rm.locals ≤ R.locals) (hW : (st.map g_c).sum ≤ 8) (hc : cells + rm.cells ≤ R.cells) (hs : slots + rm.slots ≤ R.slots) {st0 : List gT} (hst : st0 = As.reverse ++ tR (some a) :: st) (kk : vW E base bA nL p l e R s m args below meth c (cells + rm.cells) (slots + rm.slots) Q L' V' (pc + 3) lv st) : vW E base bA nL p l e R s m args below meth c cells slots Q L V pc lv st0 := by
  subst hst
  refine r_run (o := none) (a := (Value.ref a :: As.map g_val).toArray) (fun H locs ls h1 h2 h3 => ?_) kk
  obtain ⟨hx, hb, hml, hown, hts, hK, hbs, hlk⟩ := C
  have hl : va_Nw (.methodLinkNest own index y "EarlyCut") s := by rw [← hg]; exact hK.2.1
  refine va_runIN (As := As.map g_val) ⟨hx, hb, hml, hown, hts⟩ hM ⟨va_cnB n hts (g_good w3) rfl rfl rfl hl (hts _ w0) hdd hR, hy1, hts _ w1⟩ ⟨g_blind, fun U hU hWm => ⟨rfl, by rw [hU]; exact h1, hK.warm hWm, by rw [hU]; exact Nat.le_trans hbs h2.1⟩⟩ rfl (by rw [List.length_map]; exact hn) h3.1 ?_ ?_ hd ⟨hc, hs⟩
  · show (As.reverse ++ tR (some a) :: st).map g_val = _
    rw [List.map_append, List.map_reverse]; rfl
  · rw [List.map_map]
    show 2 * 0 + (st.map fun t => (g_val t).category).sum ≤ 8
    rw [g_c_eq]
    omega
end GK
end
section
/-! WORDS AND FACTS (by program) -/
def df_N : Nat → gT := fun k => match k with
  | 0 => tR none
  | 1 => tR none
  | 2 => tI 0
  | 3 => tJ 0
  | _ => tJ 0
theorem df_N_ok : ∀ j, j < 5 → defaultValue (ty_N j) = g_val (df_N j) := by decide +kernel
def df_S : Nat → gT := fun k => match k with
  | 0 => tI 0
  | 1 => tJ 0
  | _ => tI 0
theorem df_S_ok : ∀ j, j < 3 → defaultValue (ty_S j) = g_val (df_S j) := by decide +kernel
def df_T : Nat → gT := fun k => match k with
  | 0 => tJ 0
  | 1 => tJ 0
  | 2 => tR none
  | 3 => tI 0
  | 4 => tR none
  | 5 => tI 0
  | 6 => tI 0
  | 7 => tI 0
  | 8 => tI 0
  | 9 => tI 0
  | _ => tI 0
theorem df_T_ok : ∀ j, j < 11 → defaultValue (ty_T j) = g_val (df_T j) := by decide +kernel
def df_A : Nat → gT := fun k => match k with
  | 0 => tR none
  | 1 => tI 0
  | 2 => tR none
  | 3 => tI 0
  | 4 => tR none
  | 5 => tR none
  | _ => tI 0
theorem df_A_ok : ∀ j, j < 7 → defaultValue (ty_A j) = g_val (df_A j) := by decide +kernel
def df_M : Nat → gT := fun k => match k with
  | 0 => tI 0
  | 1 => tI 0
  | 2 => tI 0
  | 3 => tR none
  | 4 => tR none
  | 5 => tR none
  | 6 => tR none
  | 7 => tR none
  | 8 => tR none
  | 9 => tR none
  | 10 => tR none
  | 11 => tR none
  | 12 => tR none
  | 13 => tR none
  | 14 => tR none
  | 15 => tR none
  | 16 => tR none
  | 17 => tR none
  | 18 => tR none
  | 19 => tR none
  | 20 => tR none
  | 21 => tR none
  | 22 => tR none
  | 23 => tI 0
  | _ => tI 0
theorem df_M_ok : ∀ j, j < 25 → defaultValue (ty_M j) = g_val (df_M j) := by decide +kernel
theorem ak_100 : gAk 100 .int := ⟨rfl, 0, fun _ => rfl⟩
theorem ak_101 : gAk 101 .long := ⟨rfl, 1, fun _ => rfl⟩
theorem ak_102 : gAk 102 .boolean := ⟨rfl, 2, fun _ => rfl⟩
theorem ak_103 : gAk 103 (.object "EarlyCut$Source") := ⟨rfl, 3, fun _ => rfl⟩
theorem ak_104 : gAk 104 (.object "EarlyCut$Step") := ⟨rfl, 4, fun _ => rfl⟩
theorem ak_105 : gAk 105 (.object "EarlyCut$Entry") := ⟨rfl, 5, fun _ => rfl⟩
theorem w_0 : Cond.methodLink R_N 3 Lib.objectInit ∈ g_tb := g_m1 97 rfl rfl
theorem w_1 : Cond.instanceMethod Lib.objectInit ∈ g_tb := g_m1 19 rfl rfl
theorem w_2 : Cond.code Lib.objectInit ⟨#[0xb1]⟩ 1 none ∈ g_tb := g_m1 20 rfl rfl
theorem w_3 : Cond.arrayClass .boolean ∈ g_tb := g_m1 123 rfl rfl
theorem w_4 : Cond.fieldLink R_N 9 R_N "there" "[Z" ∈ g_tb := g_m1 98 rfl rfl
theorem w_5 : Cond.arrayClass .long ∈ g_tb := g_m1 124 rfl rfl
theorem w_6 : Cond.fieldLink R_N 15 R_N "values" "[J" ∈ g_tb := g_m1 100 rfl rfl
theorem w_7 : Cond.fieldLink R_N 19 R_N "failure" "I" ∈ g_tb := g_m1 103 rfl rfl
theorem w_8 : Cond.fieldLink R_N 23 R_N "face" "J" ∈ g_tb := g_m1 106 rfl rfl
theorem w_9 : Cond.fieldLink R_N 27 R_N "body" "J" ∈ g_tb := g_m1 109 rfl rfl
theorem w_10 : Cond.code y_N_differsAt b_N_differsAt 5 (some .boolean) ∈ g_tb := g_m2 21 rfl rfl
theorem w_11 : Cond.methodLink R_N 30 y_N_differsAt ∈ g_tb := g_m2 50 rfl rfl
theorem w_12 : Cond.initialized R_N ∈ g_tb := g_m1 5 rfl rfl
theorem w_13 : Cond.instanceMethod y_N_differsAt ∈ g_tb := g_m2 19 rfl rfl
theorem w_14 : Cond.selects R_N y_N_differsAt y_N_differsAt ∈ g_tb := g_m2 20 rfl rfl
theorem w_15 : Cond.methodLink R_S 1 Lib.objectInit ∈ g_tb := g_m1 56 rfl rfl
theorem w_16 : Cond.fieldLink R_S 7 R_S "there" "Z" ∈ g_tb := g_m1 57 rfl rfl
theorem w_17 : Cond.fieldLink R_S 13 R_S "touches" "I" ∈ g_tb := g_m1 61 rfl rfl
theorem w_18 : Cond.fieldLink R_S 17 R_S "content" "J" ∈ g_tb := g_m1 59 rfl rfl
theorem w_19 : Cond.methodLink R_T 3 Lib.objectInit ∈ g_tb := g_m1 90 rfl rfl
theorem w_20 : Cond.arrayClass .int ∈ g_tb := g_m1 47 rfl rfl
theorem w_21 : Cond.fieldLink R_T 9 R_T "reads" "[I" ∈ g_tb := g_m1 127 rfl rfl
theorem w_22 : Cond.fieldLink R_T 15 R_T "readCount" "I" ∈ g_tb := g_m1 129 rfl rfl
theorem w_23 : Cond.classLink R_T 19 R_N ∈ g_tb := g_m1 91 rfl rfl
theorem w_24 : Cond.fieldLink R_T 21 R_T "entries" "[LEarlyCut$Entry;" ∈ g_tb := g_m1 131 rfl rfl
theorem w_25 : Cond.fieldLink R_T 25 R_T "entryCount" "I" ∈ g_tb := g_m1 132 rfl rfl
theorem w_26 : Cond.fieldLink R_T 28 R_T "forced" "Z" ∈ g_tb := g_m1 134 rfl rfl
theorem w_27 : Cond.fieldLink R_T 32 R_T "taken" "Z" ∈ g_tb := g_m1 136 rfl rfl
theorem w_28 : Cond.fieldLink R_T 35 R_T "marked" "Z" ∈ g_tb := g_m1 138 rfl rfl
theorem w_29 : Cond.fieldLink R_T 38 R_T "latestState" "I" ∈ g_tb := g_m1 140 rfl rfl
theorem w_30 : Cond.fieldLink R_T 41 R_T "latestCause" "I" ∈ g_tb := g_m1 142 rfl rfl
theorem w_31 : Cond.fieldLink R_T 44 R_T "mask" "J" ∈ g_tb := g_m1 125 rfl rfl
theorem w_32 : Cond.fieldLink R_T 48 R_T "modulus" "J" ∈ g_tb := g_m1 126 rfl rfl
theorem w_33 : Cond.instantiable R_N 5 ∈ g_tb := g_m1 93 rfl rfl
theorem w_34 : Cond.code y_N_init b_N_init 1 none ∈ g_tb := g_m1 96 rfl rfl
theorem w_35 : Cond.instanceMethod y_N_init ∈ g_tb := g_m1 95 rfl rfl
theorem w_36 : Cond.code y_T_hasRead b_T_hasRead 3 (some .boolean) ∈ g_tb := g_m1 185 rfl rfl
theorem w_37 : Cond.methodLink R_T 52 y_T_hasRead ∈ g_tb := g_m1 182 rfl rfl
theorem w_38 : Cond.initialized R_T ∈ g_tb := g_m1 4 rfl rfl
theorem w_39 : Cond.instanceMethod y_T_hasRead ∈ g_tb := g_m1 183 rfl rfl
theorem w_40 : Cond.selects R_T y_T_hasRead y_T_hasRead ∈ g_tb := g_m1 184 rfl rfl
theorem w_41 : Cond.code y_N_firstDifference b_N_firstDifference 4 (some .int) ∈ g_tb := g_m2 49 rfl rfl
theorem w_42 : Cond.methodLink R_T 56 y_N_firstDifference ∈ g_tb := g_m2 46 rfl rfl
theorem w_43 : Cond.instanceMethod y_N_firstDifference ∈ g_tb := g_m2 47 rfl rfl
theorem w_44 : Cond.selects R_N y_N_firstDifference y_N_firstDifference ∈ g_tb := g_m2 48 rfl rfl
theorem w_45 : Cond.code y_T_bringFirst b_T_bringFirst 4 none ∈ g_tb := g_m2 58 rfl rfl
theorem w_46 : Cond.methodLink R_T 60 y_T_bringFirst ∈ g_tb := g_m2 55 rfl rfl
theorem w_47 : Cond.code y_N_hasFailed b_N_hasFailed 1 (some .boolean) ∈ g_tb := g_m2 62 rfl rfl
theorem w_48 : Cond.methodLink R_T 64 y_N_hasFailed ∈ g_tb := g_m2 59 rfl rfl
theorem w_49 : Cond.instanceMethod y_N_hasFailed ∈ g_tb := g_m2 60 rfl rfl
theorem w_50 : Cond.selects R_N y_N_hasFailed y_N_hasFailed ∈ g_tb := g_m2 61 rfl rfl
theorem w_51 : Cond.instanceMethod y_T_bringFirst ∈ g_tb := g_m2 56 rfl rfl
theorem w_52 : Cond.selects R_T y_T_bringFirst y_T_bringFirst ∈ g_tb := g_m2 57 rfl rfl
theorem w_53 : Cond.code y_T_spareEntry b_T_spareEntry 1 (some (.object "EarlyCut$Entry")) ∈ g_tb := g_m2 41 rfl rfl
theorem w_54 : Cond.methodLink R_T 68 y_T_spareEntry ∈ g_tb := g_m2 71 rfl rfl
theorem w_55 : Jvm.Cond.constantLong R_T 82 (17 : Int64) ∈ g_tb := g_m2 76 rfl rfl
theorem w_56 : Cond.fieldLink R_T 90 R_N "body" "J" ∈ g_tb := g_m1 110 rfl rfl
theorem w_57 : Cond.fieldLink R_T 93 R_N "face" "J" ∈ g_tb := g_m1 107 rfl rfl
theorem w_58 : Cond.code y_N_firstMissing b_N_firstMissing 3 (some .int) ∈ g_tb := g_m2 81 rfl rfl
theorem w_59 : Cond.methodLink R_T 96 y_N_firstMissing ∈ g_tb := g_m2 78 rfl rfl
theorem w_60 : Cond.fieldLink R_T 100 R_N "failure" "I" ∈ g_tb := g_m1 104 rfl rfl
theorem w_61 : Cond.instanceMethod y_N_firstMissing ∈ g_tb := g_m2 79 rfl rfl
theorem w_62 : Cond.selects R_N y_N_firstMissing y_N_firstMissing ∈ g_tb := g_m2 80 rfl rfl
theorem w_63 : Jvm.Cond.constantLong R_T 84 (31 : Int64) ∈ g_tb := g_m2 77 rfl rfl
theorem w_64 : Cond.fieldLink R_T 86 R_N "values" "[J" ∈ g_tb := g_m1 101 rfl rfl
theorem w_65 : Cond.code y_T_fillOutcome b_T_fillOutcome 5 none ∈ g_tb := g_m2 75 rfl rfl
theorem w_66 : Cond.methodLink R_T 72 y_T_fillOutcome ∈ g_tb := g_m2 72 rfl rfl
theorem w_67 : Cond.methodLink R_T 76 Lib.Math.min.name ∈ g_tb := g_m2 82 rfl rfl
theorem w_68 : Cond.static Lib.Math.min.name ∈ g_tb := g_m2 83 rfl rfl
theorem w_69 : Cond.initialized "java/lang/Math" ∈ g_tb := g_m1 6 rfl rfl
theorem w_70 : Cond.code Lib.Math.min.name Lib.Math.min.code 2 (some .int) ∈ g_tb := g_m2 84 rfl rfl
theorem w_71 : Cond.instanceMethod y_T_fillOutcome ∈ g_tb := g_m2 73 rfl rfl
theorem w_72 : Cond.selects R_T y_T_fillOutcome y_T_fillOutcome ∈ g_tb := g_m2 74 rfl rfl
theorem w_73 : Cond.instanceMethod y_T_spareEntry ∈ g_tb := g_m2 39 rfl rfl
theorem w_74 : Cond.selects R_T y_T_spareEntry y_T_spareEntry ∈ g_tb := g_m2 40 rfl rfl
theorem w_75 : Cond.methodLink R_A 1 Lib.objectInit ∈ g_tb := g_m1 18 rfl rfl
theorem w_76 : Cond.classLink R_A 9 R_S ∈ g_tb := g_m1 21 rfl rfl
theorem w_77 : Cond.fieldLink R_A 11 R_A "allFiles" "[LEarlyCut$Source;" ∈ g_tb := g_m1 25 rfl rfl
theorem w_78 : Cond.fieldLink R_A 15 R_A "fileCount" "I" ∈ g_tb := g_m1 26 rfl rfl
theorem w_79 : Cond.classLink R_A 19 R_T ∈ g_tb := g_m1 23 rfl rfl
theorem w_80 : Cond.fieldLink R_A 21 R_A "allSteps" "[LEarlyCut$Step;" ∈ g_tb := g_m1 27 rfl rfl
theorem w_81 : Cond.fieldLink R_A 25 R_A "stepCount" "I" ∈ g_tb := g_m1 28 rfl rfl
theorem w_82 : Cond.fieldLink R_A 28 R_A "latestCounts" "[I" ∈ g_tb := g_m1 29 rfl rfl
theorem w_83 : Cond.fieldLink R_A 32 R_A "doneByCause" "[I" ∈ g_tb := g_m1 30 rfl rfl
theorem w_84 : Cond.fieldLink R_A 35 R_A "cutOfDone" "I" ∈ g_tb := g_m1 31 rfl rfl
theorem w_85 : Cond.instantiable R_S 3 ∈ g_tb := g_m1 52 rfl rfl
theorem w_86 : Cond.initialized R_S ∈ g_tb := g_m1 3 rfl rfl
theorem w_87 : Cond.code y_S_init b_S_init 3 none ∈ g_tb := g_m1 55 rfl rfl
theorem w_88 : Cond.methodLink R_A 38 y_S_init ∈ g_tb := g_m1 53 rfl rfl
theorem w_89 : Cond.instanceMethod y_S_init ∈ g_tb := g_m1 54 rfl rfl
theorem w_90 : Cond.code y_A_sourceAt b_A_sourceAt 2 (some (.object "EarlyCut$Source")) ∈ g_tb := g_m1 77 rfl rfl
theorem w_91 : Cond.methodLink R_A 41 y_A_sourceAt ∈ g_tb := g_m1 74 rfl rfl
theorem w_92 : Cond.initialized R_A ∈ g_tb := g_m1 1 rfl rfl
theorem w_93 : Cond.fieldLink R_A 45 R_S "there" "Z" ∈ g_tb := g_m1 58 rfl rfl
theorem w_94 : Cond.fieldLink R_A 49 R_S "content" "J" ∈ g_tb := g_m1 60 rfl rfl
theorem w_95 : Cond.instanceMethod y_A_sourceAt ∈ g_tb := g_m1 76 rfl rfl
theorem w_96 : Cond.selects R_A y_A_sourceAt y_A_sourceAt ∈ g_tb := g_mp (by decide +kernel) rfl
theorem w_97 : Cond.fieldLink R_A 53 R_S "touches" "I" ∈ g_tb := g_m1 62 rfl rfl
theorem w_98 : Cond.instantiable R_T 11 ∈ g_tb := g_m1 86 rfl rfl
theorem w_99 : Cond.code y_T_init b_T_init 6 none ∈ g_tb := g_m1 89 rfl rfl
theorem w_100 : Cond.methodLink R_A 56 y_T_init ∈ g_tb := g_m1 87 rfl rfl
theorem w_101 : Cond.instanceMethod y_T_init ∈ g_tb := g_m1 88 rfl rfl
theorem w_102 : Cond.code y_A_stepAt b_A_stepAt 2 (some (.object "EarlyCut$Step")) ∈ g_tb := g_m1 174 rfl rfl
theorem w_103 : Cond.methodLink R_A 59 y_A_stepAt ∈ g_tb := g_m1 171 rfl rfl
theorem w_104 : Cond.code y_A_codeOfFile b_A_codeOfFile 1 (some .int) ∈ g_tb := g_m1 177 rfl rfl
theorem w_105 : Cond.methodLink R_A 63 y_A_codeOfFile ∈ g_tb := g_m1 175 rfl rfl
theorem w_106 : Cond.code y_T_addRead b_T_addRead 2 (some .boolean) ∈ g_tb := g_m1 181 rfl rfl
theorem w_107 : Cond.methodLink R_A 67 y_T_addRead ∈ g_tb := g_m1 178 rfl rfl
theorem w_108 : Cond.instanceMethod y_T_addRead ∈ g_tb := g_m1 179 rfl rfl
theorem w_109 : Cond.selects R_T y_T_addRead y_T_addRead ∈ g_tb := g_m1 180 rfl rfl
theorem w_110 : Cond.static y_A_codeOfFile ∈ g_tb := g_m1 176 rfl rfl
theorem w_111 : Cond.instanceMethod y_A_stepAt ∈ g_tb := g_m1 173 rfl rfl
theorem w_112 : Cond.selects R_A y_A_stepAt y_A_stepAt ∈ g_tb := g_mp (by decide +kernel) rfl
theorem w_113 : Cond.code y_A_isPart b_A_isPart 1 (some .boolean) ∈ g_tb := g_m1 192 rfl rfl
theorem w_114 : Cond.methodLink R_A 71 y_A_isPart ∈ g_tb := g_m1 190 rfl rfl
theorem w_115 : Cond.code y_A_codeOfPart b_A_codeOfPart 2 (some .int) ∈ g_tb := g_m1 195 rfl rfl
theorem w_116 : Cond.methodLink R_A 74 y_A_codeOfPart ∈ g_tb := g_m1 193 rfl rfl
theorem w_117 : Cond.static y_A_codeOfPart ∈ g_tb := g_m1 194 rfl rfl
theorem w_118 : Cond.static y_A_isPart ∈ g_tb := g_m1 191 rfl rfl
theorem w_119 : Cond.fieldLink R_A 78 R_T "forced" "Z" ∈ g_tb := g_m1 135 rfl rfl
theorem w_120 : Cond.code y_T_forgetLatestBuild b_T_forgetLatestBuild 1 none ∈ g_tb := g_m1 211 rfl rfl
theorem w_121 : Cond.methodLink R_A 145 y_T_forgetLatestBuild ∈ g_tb := g_m1 208 rfl rfl
theorem w_122 : Cond.instanceMethod y_T_forgetLatestBuild ∈ g_tb := g_m1 209 rfl rfl
theorem w_123 : Cond.selects R_T y_T_forgetLatestBuild y_T_forgetLatestBuild ∈ g_tb := g_m1 210 rfl rfl
theorem w_124 : Cond.code y_A_forgetLatestBuild b_A_forgetLatestBuild 2 none ∈ g_tb := g_m1 207 rfl rfl
theorem w_125 : Cond.methodLink R_A 81 y_A_forgetLatestBuild ∈ g_tb := g_m1 204 rfl rfl
theorem w_126 : Cond.fieldLink R_A 88 R_T "taken" "Z" ∈ g_tb := g_m1 137 rfl rfl
theorem w_127 : Cond.fieldLink R_A 130 R_T "readCount" "I" ∈ g_tb := g_m1 130 rfl rfl
theorem w_128 : Cond.fieldLink R_A 149 R_T "reads" "[I" ∈ g_tb := g_m1 128 rfl rfl
theorem w_129 : Cond.code y_A_isFileCode b_A_isFileCode 1 (some .boolean) ∈ g_tb := g_m1 222 rfl rfl
theorem w_130 : Cond.methodLink R_A 152 y_A_isFileCode ∈ g_tb := g_m1 220 rfl rfl
theorem w_131 : Cond.code y_A_stepOfCode b_A_stepOfCode 2 (some (.object "EarlyCut$Step")) ∈ g_tb := g_m1 226 rfl rfl
theorem w_132 : Cond.methodLink R_A 155 y_A_stepOfCode ∈ g_tb := g_m1 223 rfl rfl
theorem w_133 : Cond.instanceMethod y_A_stepOfCode ∈ g_tb := g_m1 225 rfl rfl
theorem w_134 : Cond.selects R_A y_A_stepOfCode y_A_stepOfCode ∈ g_tb := g_mp (by decide +kernel) rfl
theorem w_135 : Cond.static y_A_isFileCode ∈ g_tb := g_m1 221 rfl rfl
theorem w_136 : Cond.code y_A_takeStepsReadBy b_A_takeStepsReadBy 4 none ∈ g_tb := g_m1 219 rfl rfl
theorem w_137 : Cond.methodLink R_A 146 y_A_takeStepsReadBy ∈ g_tb := g_m1 216 rfl rfl
theorem w_138 : Cond.instanceMethod y_A_takeStepsReadBy ∈ g_tb := g_m1 218 rfl rfl
theorem w_139 : Cond.selects R_A y_A_takeStepsReadBy y_A_takeStepsReadBy ∈ g_tb := g_mp (by decide +kernel) rfl
theorem w_140 : Cond.code y_A_takeNeeded b_A_takeNeeded 4 none ∈ g_tb := g_m1 215 rfl rfl
theorem w_141 : Cond.methodLink R_A 84 y_A_takeNeeded ∈ g_tb := g_m1 212 rfl rfl
theorem w_142 : Cond.instanceMethod y_A_takeNeeded ∈ g_tb := g_m1 214 rfl rfl
theorem w_143 : Cond.selects R_A y_A_takeNeeded y_A_takeNeeded ∈ g_tb := g_mp (by decide +kernel) rfl
theorem w_144 : Cond.instanceMethod y_A_forgetLatestBuild ∈ g_tb := g_m1 206 rfl rfl
theorem w_145 : Cond.selects R_A y_A_forgetLatestBuild y_A_forgetLatestBuild ∈ g_tb := g_mp (by decide +kernel) rfl
theorem w_146 : Cond.code y_T_entryAt b_T_entryAt 2 (some (.object "EarlyCut$Entry")) ∈ g_tb := g_m1 238 rfl rfl
theorem w_147 : Cond.methodLink R_A 108 y_T_entryAt ∈ g_tb := g_m1 235 rfl rfl
theorem w_148 : Cond.instanceMethod y_T_entryAt ∈ g_tb := g_m1 236 rfl rfl
theorem w_149 : Cond.selects R_T y_T_entryAt y_T_entryAt ∈ g_tb := g_m1 237 rfl rfl
theorem w_150 : Cond.fieldLink R_A 162 R_T "marked" "Z" ∈ g_tb := g_m1 139 rfl rfl
theorem w_151 : Cond.code y_A_isThereNow b_A_isThereNow 3 (some .boolean) ∈ g_tb := g_m2 6 rfl rfl
theorem w_152 : Cond.methodLink R_A 175 y_A_isThereNow ∈ g_tb := g_m2 3 rfl rfl
theorem w_153 : Cond.code y_A_partOfCode b_A_partOfCode 1 (some .int) ∈ g_tb := g_m2 13 rfl rfl
theorem w_154 : Cond.methodLink R_A 217 y_A_partOfCode ∈ g_tb := g_m2 11 rfl rfl
theorem w_155 : Cond.code y_N_partOfOutput b_N_partOfOutput 2 (some .long) ∈ g_tb := g_m2 17 rfl rfl
theorem w_156 : Cond.methodLink R_A 123 y_N_partOfOutput ∈ g_tb := g_m2 14 rfl rfl
theorem w_157 : Cond.instanceMethod y_N_partOfOutput ∈ g_tb := g_m2 15 rfl rfl
theorem w_158 : Cond.selects R_N y_N_partOfOutput y_N_partOfOutput ∈ g_tb := g_m2 16 rfl rfl
theorem w_159 : Cond.static y_A_partOfCode ∈ g_tb := g_m2 12 rfl rfl
theorem w_160 : Cond.code y_A_valueNow b_A_valueNow 4 (some .long) ∈ g_tb := g_m2 10 rfl rfl
theorem w_161 : Cond.methodLink R_A 178 y_A_valueNow ∈ g_tb := g_m2 7 rfl rfl
theorem w_162 : Cond.methodLink R_A 181 y_N_differsAt ∈ g_tb := g_m2 18 rfl rfl
theorem w_163 : Cond.instanceMethod y_A_valueNow ∈ g_tb := g_m2 9 rfl rfl
theorem w_164 : Cond.selects R_A y_A_valueNow y_A_valueNow ∈ g_tb := g_mp (by decide +kernel) rfl
theorem w_165 : Cond.instanceMethod y_A_isThereNow ∈ g_tb := g_m2 5 rfl rfl
theorem w_166 : Cond.selects R_A y_A_isThereNow y_A_isThereNow ∈ g_tb := g_mp (by decide +kernel) rfl
theorem w_167 : Cond.code y_A_marksItsReader b_A_marksItsReader 5 (some .boolean) ∈ g_tb := g_m2 2 rfl rfl
theorem w_168 : Cond.methodLink R_A 171 y_A_marksItsReader ∈ g_tb := g_m1 239 rfl rfl
theorem w_169 : Cond.instanceMethod y_A_marksItsReader ∈ g_tb := g_m2 1 rfl rfl
theorem w_170 : Cond.selects R_A y_A_marksItsReader y_A_marksItsReader ∈ g_tb := g_mp (by decide +kernel) rfl
theorem w_171 : Cond.code y_A_isMarked b_A_isMarked 4 (some .boolean) ∈ g_tb := g_m1 234 rfl rfl
theorem w_172 : Cond.methodLink R_A 158 y_A_isMarked ∈ g_tb := g_m1 231 rfl rfl
theorem w_173 : Cond.instanceMethod y_A_isMarked ∈ g_tb := g_m1 233 rfl rfl
theorem w_174 : Cond.selects R_A y_A_isMarked y_A_isMarked ∈ g_tb := g_mp (by decide +kernel) rfl
theorem w_175 : Cond.code y_T_isWithoutOutput b_T_isWithoutOutput 1 (some .boolean) ∈ g_tb := g_m2 29 rfl rfl
theorem w_176 : Cond.methodLink R_A 185 y_T_isWithoutOutput ∈ g_tb := g_m2 26 rfl rfl
theorem w_177 : Cond.instanceMethod y_T_isWithoutOutput ∈ g_tb := g_m2 27 rfl rfl
theorem w_178 : Cond.selects R_T y_T_isWithoutOutput y_T_isWithoutOutput ∈ g_tb := g_m2 28 rfl rfl
theorem w_179 : Cond.code y_A_isBlocked b_A_isBlocked 4 (some .boolean) ∈ g_tb := g_m2 25 rfl rfl
theorem w_180 : Cond.methodLink R_A 165 y_A_isBlocked ∈ g_tb := g_m2 22 rfl rfl
theorem w_181 : Cond.methodLink R_A 210 y_T_spareEntry ∈ g_tb := g_m2 38 rfl rfl
theorem w_182 : Cond.fieldLink R_A 214 R_N "there" "[Z" ∈ g_tb := g_m1 99 rfl rfl
theorem w_183 : Cond.fieldLink R_A 133 R_N "values" "[J" ∈ g_tb := g_m1 102 rfl rfl
theorem w_184 : Cond.code y_A_readNow b_A_readNow 4 (some (.object "EarlyCut$Entry")) ∈ g_tb := g_m2 37 rfl rfl
theorem w_185 : Cond.methodLink R_A 188 y_A_readNow ∈ g_tb := g_m2 34 rfl rfl
theorem w_186 : Cond.code y_T_placeOfSameReads b_T_placeOfSameReads 3 (some .int) ∈ g_tb := g_m2 45 rfl rfl
theorem w_187 : Cond.methodLink R_A 192 y_T_placeOfSameReads ∈ g_tb := g_m2 42 rfl rfl
theorem w_188 : Cond.code y_T_reuse b_T_reuse 2 none ∈ g_tb := g_m2 54 rfl rfl
theorem w_189 : Cond.methodLink R_A 196 y_T_reuse ∈ g_tb := g_m2 51 rfl rfl
theorem w_190 : Cond.instanceMethod y_T_reuse ∈ g_tb := g_m2 52 rfl rfl
theorem w_191 : Cond.selects R_T y_T_reuse y_T_reuse ∈ g_tb := g_m2 53 rfl rfl
theorem w_192 : Cond.instanceMethod y_T_placeOfSameReads ∈ g_tb := g_m2 43 rfl rfl
theorem w_193 : Cond.selects R_T y_T_placeOfSameReads y_T_placeOfSameReads ∈ g_tb := g_m2 44 rfl rfl
theorem w_194 : Cond.instanceMethod y_A_readNow ∈ g_tb := g_m2 36 rfl rfl
theorem w_195 : Cond.selects R_A y_A_readNow y_A_readNow ∈ g_tb := g_mp (by decide +kernel) rfl
theorem w_196 : Cond.fieldLink R_A 98 R_T "latestState" "I" ∈ g_tb := g_m1 141 rfl rfl
theorem w_197 : Cond.methodLink R_A 112 y_N_hasFailed ∈ g_tb := g_m2 89 rfl rfl
theorem w_198 : Cond.fieldLink R_A 224 R_N "body" "J" ∈ g_tb := g_m1 111 rfl rfl
theorem w_199 : Cond.fieldLink R_A 227 R_N "face" "J" ∈ g_tb := g_m1 108 rfl rfl
theorem w_200 : Cond.code y_A_compareOutputs b_A_compareOutputs 5 none ∈ g_tb := g_m2 88 rfl rfl
theorem w_201 : Cond.methodLink R_A 206 y_A_compareOutputs ∈ g_tb := g_m2 85 rfl rfl
theorem w_202 : Cond.instanceMethod y_A_compareOutputs ∈ g_tb := g_m2 87 rfl rfl
theorem w_203 : Cond.selects R_A y_A_compareOutputs y_A_compareOutputs ∈ g_tb := g_mp (by decide +kernel) rfl
theorem w_204 : Cond.methodLink R_A 220 y_N_firstDifference ∈ g_tb := g_m2 66 rfl rfl
theorem w_205 : Cond.code y_A_causeToRedo b_A_causeToRedo 4 (some .int) ∈ g_tb := g_m2 65 rfl rfl
theorem w_206 : Cond.methodLink R_A 199 y_A_causeToRedo ∈ g_tb := g_m2 63 rfl rfl
theorem w_207 : Cond.code y_T_redo b_T_redo 3 none ∈ g_tb := g_m2 70 rfl rfl
theorem w_208 : Cond.methodLink R_A 203 y_T_redo ∈ g_tb := g_m2 67 rfl rfl
theorem w_209 : Cond.fieldLink R_A 95 R_T "latestCause" "I" ∈ g_tb := g_m1 143 rfl rfl
theorem w_210 : Cond.instanceMethod y_T_redo ∈ g_tb := g_m2 68 rfl rfl
theorem w_211 : Cond.selects R_T y_T_redo y_T_redo ∈ g_tb := g_m2 69 rfl rfl
theorem w_212 : Cond.static y_A_causeToRedo ∈ g_tb := g_m2 64 rfl rfl
theorem w_213 : Cond.code y_A_bringUpToDate b_A_bringUpToDate 6 none ∈ g_tb := g_m2 33 rfl rfl
theorem w_214 : Cond.methodLink R_A 168 y_A_bringUpToDate ∈ g_tb := g_m2 30 rfl rfl
theorem w_215 : Cond.instanceMethod y_A_bringUpToDate ∈ g_tb := g_m2 32 rfl rfl
theorem w_216 : Cond.selects R_A y_A_bringUpToDate y_A_bringUpToDate ∈ g_tb := g_mp (by decide +kernel) rfl
theorem w_217 : Cond.instanceMethod y_A_isBlocked ∈ g_tb := g_m2 24 rfl rfl
theorem w_218 : Cond.selects R_A y_A_isBlocked y_A_isBlocked ∈ g_tb := g_mp (by decide +kernel) rfl
theorem w_219 : Cond.code y_A_buildOne b_A_buildOne 2 none ∈ g_tb := g_m1 230 rfl rfl
theorem w_220 : Cond.methodLink R_A 91 y_A_buildOne ∈ g_tb := g_m1 227 rfl rfl
theorem w_221 : Cond.instanceMethod y_A_buildOne ∈ g_tb := g_m1 229 rfl rfl
theorem w_222 : Cond.selects R_A y_A_buildOne y_A_buildOne ∈ g_tb := g_mp (by decide +kernel) rfl
theorem w_223 : Cond.fieldLink R_A 127 R_T "entryCount" "I" ∈ g_tb := g_m1 133 rfl rfl
theorem w_224 : Cond.fieldLink R_A 137 R_N "failure" "I" ∈ g_tb := g_m1 105 rfl rfl
theorem w_225 : Cond.methodLink R_M 1 Lib.objectInit ∈ g_tb := g_m3 0 rfl rfl
theorem w_226 : Cond.fieldLink R_M 7 R_M "content" "[J" ∈ g_tb := g_m3 4 rfl rfl
theorem w_227 : Cond.fieldLink R_M 13 R_M "mask" "[J" ∈ g_tb := g_m3 5 rfl rfl
theorem w_228 : Cond.fieldLink R_M 16 R_M "modulus" "[J" ∈ g_tb := g_m3 6 rfl rfl
theorem w_229 : Cond.fieldLink R_M 19 R_M "isThere" "[Z" ∈ g_tb := g_m3 7 rfl rfl
theorem w_230 : Cond.fieldLink R_M 23 R_M "forced" "[Z" ∈ g_tb := g_m3 8 rfl rfl
theorem w_231 : Cond.fieldLink R_M 26 R_M "touched" "[I" ∈ g_tb := g_m3 9 rfl rfl
theorem w_232 : Cond.fieldLink R_M 30 R_M "reads" "[I" ∈ g_tb := g_m3 10 rfl rfl
theorem w_233 : Cond.fieldLink R_M 33 R_M "readOf" "[I" ∈ g_tb := g_m3 11 rfl rfl
theorem w_234 : Cond.fieldLink R_M 36 R_M "readPart" "[I" ∈ g_tb := g_m3 12 rfl rfl
theorem w_235 : Cond.fieldLink R_M 39 R_M "records" "[I" ∈ g_tb := g_m3 13 rfl rfl
theorem w_236 : Cond.fieldLink R_M 42 R_M "failedBy" "[I" ∈ g_tb := g_m3 14 rfl rfl
theorem w_237 : Cond.fieldLink R_M 45 R_M "body" "[J" ∈ g_tb := g_m3 15 rfl rfl
theorem w_238 : Cond.fieldLink R_M 48 R_M "was" "[J" ∈ g_tb := g_m3 16 rfl rfl
theorem w_239 : Cond.fieldLink R_M 51 R_M "wasThere" "[Z" ∈ g_tb := g_m3 17 rfl rfl
theorem w_240 : Cond.fieldLink R_M 54 R_M "state" "[I" ∈ g_tb := g_m3 18 rfl rfl
theorem w_241 : Cond.fieldLink R_M 57 R_M "cause" "[I" ∈ g_tb := g_m3 19 rfl rfl
theorem w_242 : Cond.fieldLink R_M 60 R_M "counts" "[I" ∈ g_tb := g_m3 20 rfl rfl
theorem w_243 : Cond.fieldLink R_M 63 R_M "totals" "[I" ∈ g_tb := g_m3 21 rfl rfl
theorem w_244 : Cond.fieldLink R_M 66 R_M "taken" "[Z" ∈ g_tb := g_m3 22 rfl rfl
theorem w_245 : Cond.fieldLink R_M 69 R_M "marked" "[Z" ∈ g_tb := g_m3 23 rfl rfl
theorem w_246 : Cond.fieldLink R_M 72 R_M "code" "I" ∈ g_tb := g_m3 1 rfl rfl
theorem w_247 : Cond.fieldLink R_M 76 R_M "files" "I" ∈ g_tb := g_m3 2 rfl rfl
theorem w_248 : Cond.fieldLink R_M 79 R_M "steps" "I" ∈ g_tb := g_m3 3 rfl rfl
theorem w_249 : Cond.code y_M_isFile b_M_isFile 2 (some .boolean) ∈ g_tb := g_m3 92 rfl rfl
theorem w_250 : Cond.methodLink R_M 82 y_M_isFile ∈ g_tb := g_m3 89 rfl rfl
theorem w_251 : Cond.initialized R_M ∈ g_tb := g_m1 2 rfl rfl
theorem w_252 : Cond.instanceMethod y_M_isFile ∈ g_tb := g_m3 91 rfl rfl
theorem w_253 : Cond.selects R_M y_M_isFile y_M_isFile ∈ g_tb := g_mp (by decide +kernel) rfl
theorem w_254 : Cond.code y_M_isStep b_M_isStep 2 (some .boolean) ∈ g_tb := g_m3 108 rfl rfl
theorem w_255 : Cond.methodLink R_M 86 y_M_isStep ∈ g_tb := g_m3 105 rfl rfl
theorem w_256 : Cond.code y_M_more b_M_more 5 (some .boolean) ∈ g_tb := g_m3 112 rfl rfl
theorem w_257 : Cond.methodLink R_M 89 y_M_more ∈ g_tb := g_m3 109 rfl rfl
theorem w_258 : Cond.instanceMethod y_M_more ∈ g_tb := g_m3 111 rfl rfl
theorem w_259 : Cond.selects R_M y_M_more y_M_more ∈ g_tb := g_mp (by decide +kernel) rfl
theorem w_260 : Cond.instanceMethod y_M_isStep ∈ g_tb := g_m3 107 rfl rfl
theorem w_261 : Cond.selects R_M y_M_isStep y_M_isStep ∈ g_tb := g_mp (by decide +kernel) rfl
theorem w_262 : Cond.code y_M_record4 b_M_record4 2 (some .int) ∈ g_tb := g_m3 143 rfl rfl
theorem w_263 : Cond.methodLink R_M 93 y_M_record4 ∈ g_tb := g_m3 141 rfl rfl
theorem w_264 : Cond.static y_M_record4 ∈ g_tb := g_m3 142 rfl rfl
theorem w_265 : Cond.code y_M_isFileRead b_M_isFileRead 3 (some .boolean) ∈ g_tb := g_m3 132 rfl rfl
theorem w_266 : Cond.methodLink R_M 97 y_M_isFileRead ∈ g_tb := g_m3 129 rfl rfl
theorem w_267 : Cond.code y_M_partOf b_M_partOf 3 (some .long) ∈ g_tb := g_m3 155 rfl rfl
theorem w_268 : Cond.methodLink R_M 101 y_M_partOf ∈ g_tb := g_m3 152 rfl rfl
theorem w_269 : Cond.instanceMethod y_M_partOf ∈ g_tb := g_m3 154 rfl rfl
theorem w_270 : Cond.selects R_M y_M_partOf y_M_partOf ∈ g_tb := g_mp (by decide +kernel) rfl
theorem w_271 : Cond.instanceMethod y_M_isFileRead ∈ g_tb := g_m3 131 rfl rfl
theorem w_272 : Cond.selects R_M y_M_isFileRead y_M_isFileRead ∈ g_tb := g_mp (by decide +kernel) rfl
theorem w_273 : Cond.code y_M_thereNow b_M_thereNow 3 (some .boolean) ∈ g_tb := g_m3 147 rfl rfl
theorem w_274 : Cond.methodLink R_M 105 y_M_thereNow ∈ g_tb := g_m3 144 rfl rfl
theorem w_275 : Cond.code y_M_valueNow b_M_valueNow 4 (some .long) ∈ g_tb := g_m3 151 rfl rfl
theorem w_276 : Cond.methodLink R_M 108 y_M_valueNow ∈ g_tb := g_m3 148 rfl rfl
theorem w_277 : Cond.instanceMethod y_M_valueNow ∈ g_tb := g_m3 150 rfl rfl
theorem w_278 : Cond.selects R_M y_M_valueNow y_M_valueNow ∈ g_tb := g_mp (by decide +kernel) rfl
theorem w_279 : Cond.instanceMethod y_M_thereNow ∈ g_tb := g_m3 146 rfl rfl
theorem w_280 : Cond.selects R_M y_M_thereNow y_M_thereNow ∈ g_tb := g_mp (by decide +kernel) rfl
theorem w_281 : Cond.code y_M_isAsWas b_M_isAsWas 5 (some .boolean) ∈ g_tb := g_m3 140 rfl rfl
theorem w_282 : Cond.methodLink R_M 111 y_M_isAsWas ∈ g_tb := g_m3 137 rfl rfl
theorem w_283 : Cond.instanceMethod y_M_isAsWas ∈ g_tb := g_m3 139 rfl rfl
theorem w_284 : Cond.selects R_M y_M_isAsWas y_M_isAsWas ∈ g_tb := g_mp (by decide +kernel) rfl
theorem w_285 : Cond.code y_M_copy b_M_copy 5 none ∈ g_tb := g_m3 179 rfl rfl
theorem w_286 : Cond.methodLink R_M 114 y_M_copy ∈ g_tb := g_m3 176 rfl rfl
theorem w_287 : Cond.instanceMethod y_M_copy ∈ g_tb := g_m3 178 rfl rfl
theorem w_288 : Cond.selects R_M y_M_copy y_M_copy ∈ g_tb := g_mp (by decide +kernel) rfl
theorem w_289 : Cond.code y_M_moveBack b_M_moveBack 4 none ∈ g_tb := g_m3 183 rfl rfl
theorem w_290 : Cond.methodLink R_M 118 y_M_moveBack ∈ g_tb := g_m3 180 rfl rfl
theorem w_291 : Cond.instanceMethod y_M_moveBack ∈ g_tb := g_m3 182 rfl rfl
theorem w_292 : Cond.selects R_M y_M_moveBack y_M_moveBack ∈ g_tb := g_mp (by decide +kernel) rfl
theorem w_293 : Cond.code y_M_matching b_M_matching 5 (some .int) ∈ g_tb := g_m3 171 rfl rfl
theorem w_294 : Cond.methodLink R_M 122 y_M_matching ∈ g_tb := g_m3 168 rfl rfl
theorem w_295 : Cond.instanceMethod y_M_matching ∈ g_tb := g_m3 170 rfl rfl
theorem w_296 : Cond.selects R_M y_M_matching y_M_matching ∈ g_tb := g_mp (by decide +kernel) rfl
theorem w_297 : Jvm.Cond.constantLong R_M 126 (17 : Int64) ∈ g_tb := g_m3 196 rfl rfl
theorem w_298 : Jvm.Cond.constantLong R_M 128 (31 : Int64) ∈ g_tb := g_m3 197 rfl rfl
theorem w_299 : Cond.code y_M_hasOutput b_M_hasOutput 2 (some .boolean) ∈ g_tb := g_m3 167 rfl rfl
theorem w_300 : Cond.methodLink R_M 130 y_M_hasOutput ∈ g_tb := g_m3 164 rfl rfl
theorem w_301 : Cond.instanceMethod y_M_hasOutput ∈ g_tb := g_m3 166 rfl rfl
theorem w_302 : Cond.selects R_M y_M_hasOutput y_M_hasOutput ∈ g_tb := g_mp (by decide +kernel) rfl
theorem w_303 : Cond.fieldLink R_M 133 R_M "cutDone" "I" ∈ g_tb := g_m3 24 rfl rfl
theorem w_304 : Cond.code y_M_isBlocked b_M_isBlocked 5 (some .boolean) ∈ g_tb := g_m3 163 rfl rfl
theorem w_305 : Cond.methodLink R_M 136 y_M_isBlocked ∈ g_tb := g_m3 160 rfl rfl
theorem w_306 : Cond.instanceMethod y_M_isBlocked ∈ g_tb := g_m3 162 rfl rfl
theorem w_307 : Cond.selects R_M y_M_isBlocked y_M_isBlocked ∈ g_tb := g_mp (by decide +kernel) rfl
theorem w_308 : Cond.code y_M_causeOf b_M_causeOf 3 (some .int) ∈ g_tb := g_m3 191 rfl rfl
theorem w_309 : Cond.methodLink R_M 146 y_M_causeOf ∈ g_tb := g_m3 188 rfl rfl
theorem w_310 : Cond.fieldLink R_M 149 R_M "allDone" "I" ∈ g_tb := g_m3 25 rfl rfl
theorem w_311 : Cond.code y_M_work b_M_work 9 none ∈ g_tb := g_m3 195 rfl rfl
theorem w_312 : Cond.methodLink R_M 152 y_M_work ∈ g_tb := g_m3 192 rfl rfl
theorem w_313 : Cond.instanceMethod y_M_work ∈ g_tb := g_m3 194 rfl rfl
theorem w_314 : Cond.selects R_M y_M_work y_M_work ∈ g_tb := g_mp (by decide +kernel) rfl
theorem w_315 : Cond.instanceMethod y_M_causeOf ∈ g_tb := g_m3 190 rfl rfl
theorem w_316 : Cond.selects R_M y_M_causeOf y_M_causeOf ∈ g_tb := g_mp (by decide +kernel) rfl
theorem w_317 : Cond.code y_M_bring b_M_bring 3 none ∈ g_tb := g_m3 175 rfl rfl
theorem w_318 : Cond.methodLink R_M 139 y_M_bring ∈ g_tb := g_m3 172 rfl rfl
theorem w_319 : Cond.instanceMethod y_M_bring ∈ g_tb := g_m3 174 rfl rfl
theorem w_320 : Cond.selects R_M y_M_bring y_M_bring ∈ g_tb := g_mp (by decide +kernel) rfl
theorem w_321 : Cond.code y_M_compare b_M_compare 9 none ∈ g_tb := g_m3 187 rfl rfl
theorem w_322 : Cond.methodLink R_M 142 y_M_compare ∈ g_tb := g_m3 184 rfl rfl
theorem w_323 : Cond.instanceMethod y_M_compare ∈ g_tb := g_m3 186 rfl rfl
theorem w_324 : Cond.selects R_M y_M_compare y_M_compare ∈ g_tb := g_mp (by decide +kernel) rfl
theorem w_325 : Cond.code y_M_take b_M_take 5 none ∈ g_tb := g_m3 128 rfl rfl
theorem w_326 : Cond.methodLink R_M 156 y_M_take ∈ g_tb := g_m3 125 rfl rfl
theorem w_327 : Cond.code y_M_mark b_M_mark 3 none ∈ g_tb := g_m3 136 rfl rfl
theorem w_328 : Cond.methodLink R_M 159 y_M_mark ∈ g_tb := g_m3 133 rfl rfl
theorem w_329 : Cond.instanceMethod y_M_mark ∈ g_tb := g_m3 135 rfl rfl
theorem w_330 : Cond.selects R_M y_M_mark y_M_mark ∈ g_tb := g_mp (by decide +kernel) rfl
theorem w_331 : Cond.instanceMethod y_M_take ∈ g_tb := g_m3 127 rfl rfl
theorem w_332 : Cond.selects R_M y_M_take y_M_take ∈ g_tb := g_mp (by decide +kernel) rfl
theorem w_333 : Cond.code y_M_go b_M_go 8 (some .int) ∈ g_tb := g_m3 159 rfl rfl
theorem w_334 : Cond.methodLink R_M 162 y_M_go ∈ g_tb := g_m3 156 rfl rfl
theorem w_335 : Cond.instanceMethod y_M_go ∈ g_tb := g_m3 158 rfl rfl
theorem w_336 : Cond.selects R_M y_M_go y_M_go ∈ g_tb := g_mp (by decide +kernel) rfl
theorem f_N_9 : gF R_N 9 0 0 (.array .boolean) true := ⟨R_N, F_N, 5, ty_N, rfl, by decide, i_N, w_4, ty_N_ok, n_N, rfl, rfl⟩
theorem f_N_15 : gF R_N 15 0 1 (.array .long) true := ⟨R_N, F_N, 5, ty_N, rfl, by decide, i_N, w_6, ty_N_ok, n_N, rfl, rfl⟩
theorem f_N_19 : gF R_N 19 0 2 .int false := ⟨R_N, F_N, 5, ty_N, rfl, by decide, i_N, w_7, ty_N_ok, n_N, rfl, rfl⟩
theorem f_N_23 : gF R_N 23 0 3 .long false := ⟨R_N, F_N, 5, ty_N, rfl, by decide, i_N, w_8, ty_N_ok, n_N, rfl, rfl⟩
theorem f_N_27 : gF R_N 27 0 4 .long false := ⟨R_N, F_N, 5, ty_N, rfl, by decide, i_N, w_9, ty_N_ok, n_N, rfl, rfl⟩
theorem k_N_30 : gM R_N 30 y_N_differsAt 3 := ⟨w_11, w_12, by decide +kernel⟩
theorem f_S_7 : gF R_S 7 1 0 .boolean false := ⟨R_S, F_S, 3, ty_S, rfl, by decide, i_S, w_16, ty_S_ok, n_S, rfl, rfl⟩
theorem f_S_13 : gF R_S 13 1 2 .int false := ⟨R_S, F_S, 3, ty_S, rfl, by decide, i_S, w_17, ty_S_ok, n_S, rfl, rfl⟩
theorem f_S_17 : gF R_S 17 1 1 .long false := ⟨R_S, F_S, 3, ty_S, rfl, by decide, i_S, w_18, ty_S_ok, n_S, rfl, rfl⟩
theorem f_T_9 : gF R_T 9 2 2 (.array .int) true := ⟨R_T, F_T, 11, ty_T, rfl, by decide, i_T, w_21, ty_T_ok, n_T, rfl, rfl⟩
theorem f_T_15 : gF R_T 15 2 3 .int false := ⟨R_T, F_T, 11, ty_T, rfl, by decide, i_T, w_22, ty_T_ok, n_T, rfl, rfl⟩
theorem f_T_21 : gF R_T 21 2 4 (.array (.object "EarlyCut$Entry")) true := ⟨R_T, F_T, 11, ty_T, rfl, by decide, i_T, w_24, ty_T_ok, n_T, rfl, rfl⟩
theorem f_T_25 : gF R_T 25 2 5 .int false := ⟨R_T, F_T, 11, ty_T, rfl, by decide, i_T, w_25, ty_T_ok, n_T, rfl, rfl⟩
theorem f_T_28 : gF R_T 28 2 6 .boolean false := ⟨R_T, F_T, 11, ty_T, rfl, by decide, i_T, w_26, ty_T_ok, n_T, rfl, rfl⟩
theorem f_T_32 : gF R_T 32 2 7 .boolean false := ⟨R_T, F_T, 11, ty_T, rfl, by decide, i_T, w_27, ty_T_ok, n_T, rfl, rfl⟩
theorem f_T_35 : gF R_T 35 2 8 .boolean false := ⟨R_T, F_T, 11, ty_T, rfl, by decide, i_T, w_28, ty_T_ok, n_T, rfl, rfl⟩
theorem f_T_38 : gF R_T 38 2 9 .int false := ⟨R_T, F_T, 11, ty_T, rfl, by decide, i_T, w_29, ty_T_ok, n_T, rfl, rfl⟩
theorem f_T_41 : gF R_T 41 2 10 .int false := ⟨R_T, F_T, 11, ty_T, rfl, by decide, i_T, w_30, ty_T_ok, n_T, rfl, rfl⟩
theorem f_T_44 : gF R_T 44 2 0 .long true := ⟨R_T, F_T, 11, ty_T, rfl, by decide, i_T, w_31, ty_T_ok, n_T, rfl, rfl⟩
theorem f_T_48 : gF R_T 48 2 1 .long true := ⟨R_T, F_T, 11, ty_T, rfl, by decide, i_T, w_32, ty_T_ok, n_T, rfl, rfl⟩
theorem n_T_19 : gNw R_T 19 0 5 df_N := ⟨R_N, F_N, ty_N, rfl, i_N, ty_N_ok, w_23, w_33, w_12, df_N_ok⟩
theorem k_T_52 : gM R_T 52 y_T_hasRead 1 := ⟨w_37, w_38, by decide +kernel⟩
theorem k_T_56 : gM R_T 56 y_N_firstDifference 2 := ⟨w_42, w_12, by decide +kernel⟩
theorem k_T_60 : gM R_T 60 y_T_bringFirst 1 := ⟨w_46, w_38, by decide +kernel⟩
theorem k_T_64 : gM R_T 64 y_N_hasFailed 0 := ⟨w_48, w_12, by decide +kernel⟩
theorem k_T_68 : gM R_T 68 y_T_spareEntry 0 := ⟨w_54, w_38, by decide +kernel⟩
theorem f_T_90 : gF R_T 90 0 4 .long false := ⟨R_N, F_N, 5, ty_N, rfl, by decide, i_N, w_56, ty_N_ok, n_N, rfl, rfl⟩
theorem f_T_93 : gF R_T 93 0 3 .long false := ⟨R_N, F_N, 5, ty_N, rfl, by decide, i_N, w_57, ty_N_ok, n_N, rfl, rfl⟩
theorem k_T_96 : gM R_T 96 y_N_firstMissing 1 := ⟨w_59, w_12, by decide +kernel⟩
theorem f_T_100 : gF R_T 100 0 2 .int false := ⟨R_N, F_N, 5, ty_N, rfl, by decide, i_N, w_60, ty_N_ok, n_N, rfl, rfl⟩
theorem f_T_86 : gF R_T 86 0 1 (.array .long) true := ⟨R_N, F_N, 5, ty_N, rfl, by decide, i_N, w_64, ty_N_ok, n_N, rfl, rfl⟩
theorem k_T_72 : gM R_T 72 y_T_fillOutcome 1 := ⟨w_66, w_38, by decide +kernel⟩
theorem f_A_11 : gF R_A 11 3 0 (.array (.object "EarlyCut$Source")) true := ⟨R_A, F_A, 7, ty_A, rfl, by decide, i_A, w_77, ty_A_ok, n_A, rfl, rfl⟩
theorem f_A_15 : gF R_A 15 3 1 .int false := ⟨R_A, F_A, 7, ty_A, rfl, by decide, i_A, w_78, ty_A_ok, n_A, rfl, rfl⟩
theorem f_A_21 : gF R_A 21 3 2 (.array (.object "EarlyCut$Step")) true := ⟨R_A, F_A, 7, ty_A, rfl, by decide, i_A, w_80, ty_A_ok, n_A, rfl, rfl⟩
theorem f_A_25 : gF R_A 25 3 3 .int false := ⟨R_A, F_A, 7, ty_A, rfl, by decide, i_A, w_81, ty_A_ok, n_A, rfl, rfl⟩
theorem f_A_28 : gF R_A 28 3 4 (.array .int) true := ⟨R_A, F_A, 7, ty_A, rfl, by decide, i_A, w_82, ty_A_ok, n_A, rfl, rfl⟩
theorem f_A_32 : gF R_A 32 3 5 (.array .int) true := ⟨R_A, F_A, 7, ty_A, rfl, by decide, i_A, w_83, ty_A_ok, n_A, rfl, rfl⟩
theorem f_A_35 : gF R_A 35 3 6 .int false := ⟨R_A, F_A, 7, ty_A, rfl, by decide, i_A, w_84, ty_A_ok, n_A, rfl, rfl⟩
theorem n_A_9 : gNw R_A 9 1 3 df_S := ⟨R_S, F_S, ty_S, rfl, i_S, ty_S_ok, w_76, w_85, w_86, df_S_ok⟩
theorem k_A_38 : gM R_A 38 y_S_init 1 := ⟨w_88, w_86, by decide +kernel⟩
theorem k_A_41 : gM R_A 41 y_A_sourceAt 1 := ⟨w_91, w_92, by decide +kernel⟩
theorem f_A_45 : gF R_A 45 1 0 .boolean false := ⟨R_S, F_S, 3, ty_S, rfl, by decide, i_S, w_93, ty_S_ok, n_S, rfl, rfl⟩
theorem f_A_49 : gF R_A 49 1 1 .long false := ⟨R_S, F_S, 3, ty_S, rfl, by decide, i_S, w_94, ty_S_ok, n_S, rfl, rfl⟩
theorem f_A_53 : gF R_A 53 1 2 .int false := ⟨R_S, F_S, 3, ty_S, rfl, by decide, i_S, w_97, ty_S_ok, n_S, rfl, rfl⟩
theorem n_A_19 : gNw R_A 19 2 11 df_T := ⟨R_T, F_T, ty_T, rfl, i_T, ty_T_ok, w_79, w_98, w_38, df_T_ok⟩
theorem k_A_56 : gM R_A 56 y_T_init 2 := ⟨w_100, w_38, by decide +kernel⟩
theorem k_A_59 : gM R_A 59 y_A_stepAt 1 := ⟨w_103, w_92, by decide +kernel⟩
theorem k_A_63 : gM R_A 63 y_A_codeOfFile 1 := ⟨w_105, w_92, by decide +kernel⟩
theorem k_A_67 : gM R_A 67 y_T_addRead 1 := ⟨w_107, w_38, by decide +kernel⟩
theorem k_A_71 : gM R_A 71 y_A_isPart 1 := ⟨w_114, w_92, by decide +kernel⟩
theorem k_A_74 : gM R_A 74 y_A_codeOfPart 2 := ⟨w_116, w_92, by decide +kernel⟩
theorem f_A_78 : gF R_A 78 2 6 .boolean false := ⟨R_T, F_T, 11, ty_T, rfl, by decide, i_T, w_119, ty_T_ok, n_T, rfl, rfl⟩
theorem k_A_145 : gM R_A 145 y_T_forgetLatestBuild 0 := ⟨w_121, w_38, by decide +kernel⟩
theorem k_A_81 : gM R_A 81 y_A_forgetLatestBuild 0 := ⟨w_125, w_92, by decide +kernel⟩
theorem f_A_88 : gF R_A 88 2 7 .boolean false := ⟨R_T, F_T, 11, ty_T, rfl, by decide, i_T, w_126, ty_T_ok, n_T, rfl, rfl⟩
theorem f_A_130 : gF R_A 130 2 3 .int false := ⟨R_T, F_T, 11, ty_T, rfl, by decide, i_T, w_127, ty_T_ok, n_T, rfl, rfl⟩
theorem f_A_149 : gF R_A 149 2 2 (.array .int) true := ⟨R_T, F_T, 11, ty_T, rfl, by decide, i_T, w_128, ty_T_ok, n_T, rfl, rfl⟩
theorem k_A_152 : gM R_A 152 y_A_isFileCode 1 := ⟨w_130, w_92, by decide +kernel⟩
theorem k_A_155 : gM R_A 155 y_A_stepOfCode 1 := ⟨w_132, w_92, by decide +kernel⟩
theorem k_A_146 : gM R_A 146 y_A_takeStepsReadBy 1 := ⟨w_137, w_92, by decide +kernel⟩
theorem k_A_84 : gM R_A 84 y_A_takeNeeded 1 := ⟨w_141, w_92, by decide +kernel⟩
theorem k_A_108 : gM R_A 108 y_T_entryAt 1 := ⟨w_147, w_38, by decide +kernel⟩
theorem f_A_162 : gF R_A 162 2 8 .boolean false := ⟨R_T, F_T, 11, ty_T, rfl, by decide, i_T, w_150, ty_T_ok, n_T, rfl, rfl⟩
theorem k_A_175 : gM R_A 175 y_A_isThereNow 1 := ⟨w_152, w_92, by decide +kernel⟩
theorem k_A_217 : gM R_A 217 y_A_partOfCode 1 := ⟨w_154, w_92, by decide +kernel⟩
theorem k_A_123 : gM R_A 123 y_N_partOfOutput 1 := ⟨w_156, w_12, by decide +kernel⟩
theorem k_A_178 : gM R_A 178 y_A_valueNow 1 := ⟨w_161, w_92, by decide +kernel⟩
theorem k_A_181 : gM R_A 181 y_N_differsAt 3 := ⟨w_162, w_12, by decide +kernel⟩
theorem k_A_171 : gM R_A 171 y_A_marksItsReader 3 := ⟨w_168, w_92, by decide +kernel⟩
theorem k_A_158 : gM R_A 158 y_A_isMarked 1 := ⟨w_172, w_92, by decide +kernel⟩
theorem k_A_185 : gM R_A 185 y_T_isWithoutOutput 0 := ⟨w_176, w_38, by decide +kernel⟩
theorem k_A_165 : gM R_A 165 y_A_isBlocked 1 := ⟨w_180, w_92, by decide +kernel⟩
theorem k_A_210 : gM R_A 210 y_T_spareEntry 0 := ⟨w_181, w_38, by decide +kernel⟩
theorem f_A_214 : gF R_A 214 0 0 (.array .boolean) true := ⟨R_N, F_N, 5, ty_N, rfl, by decide, i_N, w_182, ty_N_ok, n_N, rfl, rfl⟩
theorem f_A_133 : gF R_A 133 0 1 (.array .long) true := ⟨R_N, F_N, 5, ty_N, rfl, by decide, i_N, w_183, ty_N_ok, n_N, rfl, rfl⟩
theorem k_A_188 : gM R_A 188 y_A_readNow 1 := ⟨w_185, w_92, by decide +kernel⟩
theorem k_A_192 : gM R_A 192 y_T_placeOfSameReads 1 := ⟨w_187, w_38, by decide +kernel⟩
theorem k_A_196 : gM R_A 196 y_T_reuse 1 := ⟨w_189, w_38, by decide +kernel⟩
theorem f_A_98 : gF R_A 98 2 9 .int false := ⟨R_T, F_T, 11, ty_T, rfl, by decide, i_T, w_196, ty_T_ok, n_T, rfl, rfl⟩
theorem k_A_112 : gM R_A 112 y_N_hasFailed 0 := ⟨w_197, w_12, by decide +kernel⟩
theorem f_A_224 : gF R_A 224 0 4 .long false := ⟨R_N, F_N, 5, ty_N, rfl, by decide, i_N, w_198, ty_N_ok, n_N, rfl, rfl⟩
theorem f_A_227 : gF R_A 227 0 3 .long false := ⟨R_N, F_N, 5, ty_N, rfl, by decide, i_N, w_199, ty_N_ok, n_N, rfl, rfl⟩
theorem k_A_206 : gM R_A 206 y_A_compareOutputs 2 := ⟨w_201, w_92, by decide +kernel⟩
theorem k_A_220 : gM R_A 220 y_N_firstDifference 2 := ⟨w_204, w_12, by decide +kernel⟩
theorem k_A_199 : gM R_A 199 y_A_causeToRedo 2 := ⟨w_206, w_92, by decide +kernel⟩
theorem k_A_203 : gM R_A 203 y_T_redo 1 := ⟨w_208, w_38, by decide +kernel⟩
theorem f_A_95 : gF R_A 95 2 10 .int false := ⟨R_T, F_T, 11, ty_T, rfl, by decide, i_T, w_209, ty_T_ok, n_T, rfl, rfl⟩
theorem k_A_168 : gM R_A 168 y_A_bringUpToDate 1 := ⟨w_214, w_92, by decide +kernel⟩
theorem k_A_91 : gM R_A 91 y_A_buildOne 1 := ⟨w_220, w_92, by decide +kernel⟩
theorem f_A_127 : gF R_A 127 2 5 .int false := ⟨R_T, F_T, 11, ty_T, rfl, by decide, i_T, w_223, ty_T_ok, n_T, rfl, rfl⟩
theorem f_A_137 : gF R_A 137 0 2 .int false := ⟨R_N, F_N, 5, ty_N, rfl, by decide, i_N, w_224, ty_N_ok, n_N, rfl, rfl⟩
theorem f_M_7 : gF R_M 7 4 3 (.array .long) true := ⟨R_M, F_M, 25, ty_M, rfl, by decide, i_M, w_226, ty_M_ok, n_M, rfl, rfl⟩
theorem f_M_13 : gF R_M 13 4 4 (.array .long) true := ⟨R_M, F_M, 25, ty_M, rfl, by decide, i_M, w_227, ty_M_ok, n_M, rfl, rfl⟩
theorem f_M_16 : gF R_M 16 4 5 (.array .long) true := ⟨R_M, F_M, 25, ty_M, rfl, by decide, i_M, w_228, ty_M_ok, n_M, rfl, rfl⟩
theorem f_M_19 : gF R_M 19 4 6 (.array .boolean) true := ⟨R_M, F_M, 25, ty_M, rfl, by decide, i_M, w_229, ty_M_ok, n_M, rfl, rfl⟩
theorem f_M_23 : gF R_M 23 4 7 (.array .boolean) true := ⟨R_M, F_M, 25, ty_M, rfl, by decide, i_M, w_230, ty_M_ok, n_M, rfl, rfl⟩
theorem f_M_26 : gF R_M 26 4 8 (.array .int) true := ⟨R_M, F_M, 25, ty_M, rfl, by decide, i_M, w_231, ty_M_ok, n_M, rfl, rfl⟩
theorem f_M_30 : gF R_M 30 4 9 (.array .int) true := ⟨R_M, F_M, 25, ty_M, rfl, by decide, i_M, w_232, ty_M_ok, n_M, rfl, rfl⟩
theorem f_M_33 : gF R_M 33 4 10 (.array .int) true := ⟨R_M, F_M, 25, ty_M, rfl, by decide, i_M, w_233, ty_M_ok, n_M, rfl, rfl⟩
theorem f_M_36 : gF R_M 36 4 11 (.array .int) true := ⟨R_M, F_M, 25, ty_M, rfl, by decide, i_M, w_234, ty_M_ok, n_M, rfl, rfl⟩
theorem f_M_39 : gF R_M 39 4 12 (.array .int) true := ⟨R_M, F_M, 25, ty_M, rfl, by decide, i_M, w_235, ty_M_ok, n_M, rfl, rfl⟩
theorem f_M_42 : gF R_M 42 4 13 (.array .int) true := ⟨R_M, F_M, 25, ty_M, rfl, by decide, i_M, w_236, ty_M_ok, n_M, rfl, rfl⟩
theorem f_M_45 : gF R_M 45 4 14 (.array .long) true := ⟨R_M, F_M, 25, ty_M, rfl, by decide, i_M, w_237, ty_M_ok, n_M, rfl, rfl⟩
theorem f_M_48 : gF R_M 48 4 15 (.array .long) true := ⟨R_M, F_M, 25, ty_M, rfl, by decide, i_M, w_238, ty_M_ok, n_M, rfl, rfl⟩
theorem f_M_51 : gF R_M 51 4 16 (.array .boolean) true := ⟨R_M, F_M, 25, ty_M, rfl, by decide, i_M, w_239, ty_M_ok, n_M, rfl, rfl⟩
theorem f_M_54 : gF R_M 54 4 17 (.array .int) true := ⟨R_M, F_M, 25, ty_M, rfl, by decide, i_M, w_240, ty_M_ok, n_M, rfl, rfl⟩
theorem f_M_57 : gF R_M 57 4 18 (.array .int) true := ⟨R_M, F_M, 25, ty_M, rfl, by decide, i_M, w_241, ty_M_ok, n_M, rfl, rfl⟩
theorem f_M_60 : gF R_M 60 4 19 (.array .int) true := ⟨R_M, F_M, 25, ty_M, rfl, by decide, i_M, w_242, ty_M_ok, n_M, rfl, rfl⟩
theorem f_M_63 : gF R_M 63 4 20 (.array .int) true := ⟨R_M, F_M, 25, ty_M, rfl, by decide, i_M, w_243, ty_M_ok, n_M, rfl, rfl⟩
theorem f_M_66 : gF R_M 66 4 21 (.array .boolean) true := ⟨R_M, F_M, 25, ty_M, rfl, by decide, i_M, w_244, ty_M_ok, n_M, rfl, rfl⟩
theorem f_M_69 : gF R_M 69 4 22 (.array .boolean) true := ⟨R_M, F_M, 25, ty_M, rfl, by decide, i_M, w_245, ty_M_ok, n_M, rfl, rfl⟩
theorem f_M_72 : gF R_M 72 4 0 .int false := ⟨R_M, F_M, 25, ty_M, rfl, by decide, i_M, w_246, ty_M_ok, n_M, rfl, rfl⟩
theorem f_M_76 : gF R_M 76 4 1 .int false := ⟨R_M, F_M, 25, ty_M, rfl, by decide, i_M, w_247, ty_M_ok, n_M, rfl, rfl⟩
theorem f_M_79 : gF R_M 79 4 2 .int false := ⟨R_M, F_M, 25, ty_M, rfl, by decide, i_M, w_248, ty_M_ok, n_M, rfl, rfl⟩
theorem k_M_82 : gM R_M 82 y_M_isFile 1 := ⟨w_250, w_251, by decide +kernel⟩
theorem k_M_86 : gM R_M 86 y_M_isStep 1 := ⟨w_255, w_251, by decide +kernel⟩
theorem k_M_89 : gM R_M 89 y_M_more 3 := ⟨w_257, w_251, by decide +kernel⟩
theorem k_M_93 : gM R_M 93 y_M_record4 2 := ⟨w_263, w_251, by decide +kernel⟩
theorem k_M_97 : gM R_M 97 y_M_isFileRead 2 := ⟨w_266, w_251, by decide +kernel⟩
theorem k_M_101 : gM R_M 101 y_M_partOf 2 := ⟨w_268, w_251, by decide +kernel⟩
theorem k_M_105 : gM R_M 105 y_M_thereNow 2 := ⟨w_274, w_251, by decide +kernel⟩
theorem k_M_108 : gM R_M 108 y_M_valueNow 2 := ⟨w_276, w_251, by decide +kernel⟩
theorem k_M_111 : gM R_M 111 y_M_isAsWas 3 := ⟨w_282, w_251, by decide +kernel⟩
theorem k_M_114 : gM R_M 114 y_M_copy 3 := ⟨w_286, w_251, by decide +kernel⟩
theorem k_M_118 : gM R_M 118 y_M_moveBack 2 := ⟨w_290, w_251, by decide +kernel⟩
theorem k_M_122 : gM R_M 122 y_M_matching 1 := ⟨w_294, w_251, by decide +kernel⟩
theorem k_M_130 : gM R_M 130 y_M_hasOutput 1 := ⟨w_300, w_251, by decide +kernel⟩
theorem f_M_133 : gF R_M 133 4 23 .int false := ⟨R_M, F_M, 25, ty_M, rfl, by decide, i_M, w_303, ty_M_ok, n_M, rfl, rfl⟩
theorem k_M_136 : gM R_M 136 y_M_isBlocked 1 := ⟨w_305, w_251, by decide +kernel⟩
theorem k_M_146 : gM R_M 146 y_M_causeOf 1 := ⟨w_309, w_251, by decide +kernel⟩
theorem f_M_149 : gF R_M 149 4 24 .int false := ⟨R_M, F_M, 25, ty_M, rfl, by decide, i_M, w_310, ty_M_ok, n_M, rfl, rfl⟩
theorem k_M_152 : gM R_M 152 y_M_work 1 := ⟨w_312, w_251, by decide +kernel⟩
theorem k_M_139 : gM R_M 139 y_M_bring 2 := ⟨w_318, w_251, by decide +kernel⟩
theorem k_M_142 : gM R_M 142 y_M_compare 5 := ⟨w_322, w_251, by decide +kernel⟩
theorem k_M_156 : gM R_M 156 y_M_take 1 := ⟨w_326, w_251, by decide +kernel⟩
theorem k_M_159 : gM R_M 159 y_M_mark 0 := ⟨w_328, w_251, by decide +kernel⟩
theorem k_M_162 : gM R_M 162 y_M_go 1 := ⟨w_334, w_251, by decide +kernel⟩
end
section
/-! DECODE ROWS (by program) -/
theorem d_N_init_0 : decode b_N_init 0 = .ok (.aload_n 0, 1) := by decide +kernel
theorem d_N_init_1 : decode b_N_init 1 = .ok (.invokespecial 3, 3) := by decide +kernel
theorem d_N_init_4 : decode b_N_init 4 = .ok (.aload_n 0, 1) := by decide +kernel
theorem d_N_init_5 : decode b_N_init 5 = .ok (.bipush 6, 2) := by decide +kernel
theorem d_N_init_7 : decode b_N_init 7 = .ok (.newarray .boolean, 2) := by decide +kernel
theorem d_N_init_9 : decode b_N_init 9 = .ok (.putfield 9, 3) := by decide +kernel
theorem d_N_init_12 : decode b_N_init 12 = .ok (.aload_n 0, 1) := by decide +kernel
theorem d_N_init_13 : decode b_N_init 13 = .ok (.bipush 6, 2) := by decide +kernel
theorem d_N_init_15 : decode b_N_init 15 = .ok (.newarray .long, 2) := by decide +kernel
theorem d_N_init_17 : decode b_N_init 17 = .ok (.putfield 15, 3) := by decide +kernel
theorem d_N_init_20 : decode b_N_init 20 = .ok (.aload_n 0, 1) := by decide +kernel
theorem d_N_init_21 : decode b_N_init 21 = .ok (.iconst (-1), 1) := by decide +kernel
theorem d_N_init_22 : decode b_N_init 22 = .ok (.putfield 19, 3) := by decide +kernel
theorem d_N_init_25 : decode b_N_init 25 = .ok (.aload_n 0, 1) := by decide +kernel
theorem d_N_init_26 : decode b_N_init 26 = .ok (.lconst 0, 1) := by decide +kernel
theorem d_N_init_27 : decode b_N_init 27 = .ok (.putfield 23, 3) := by decide +kernel
theorem d_N_init_30 : decode b_N_init 30 = .ok (.aload_n 0, 1) := by decide +kernel
theorem d_N_init_31 : decode b_N_init 31 = .ok (.lconst 0, 1) := by decide +kernel
theorem d_N_init_32 : decode b_N_init 32 = .ok (.putfield 27, 3) := by decide +kernel
theorem d_N_init_35 : decode b_N_init 35 = .ok (.return_, 1) := by decide +kernel
theorem d_N_hasFailed_0 : decode b_N_hasFailed 0 = .ok (.aload_n 0, 1) := by decide +kernel
theorem d_N_hasFailed_1 : decode b_N_hasFailed 1 = .ok (.getfield 19, 3) := by decide +kernel
theorem d_N_hasFailed_4 : decode b_N_hasFailed 4 = .ok (.iconst (-1), 1) := by decide +kernel
theorem d_N_hasFailed_5 : decode b_N_hasFailed 5 = .ok (.if_icmp .eq 7, 3) := by decide +kernel
theorem d_N_hasFailed_8 : decode b_N_hasFailed 8 = .ok (.iconst 1, 1) := by decide +kernel
theorem d_N_hasFailed_9 : decode b_N_hasFailed 9 = .ok (.goto 4, 3) := by decide +kernel
theorem d_N_hasFailed_12 : decode b_N_hasFailed 12 = .ok (.iconst 0, 1) := by decide +kernel
theorem d_N_hasFailed_13 : decode b_N_hasFailed 13 = .ok (.ireturn, 1) := by decide +kernel
theorem d_N_partOfOutput_0 : decode b_N_partOfOutput 0 = .ok (.iload_n 1, 1) := by decide +kernel
theorem d_N_partOfOutput_1 : decode b_N_partOfOutput 1 = .ok (.ifCond .ne 10, 3) := by decide +kernel
theorem d_N_partOfOutput_4 : decode b_N_partOfOutput 4 = .ok (.aload_n 0, 1) := by decide +kernel
theorem d_N_partOfOutput_5 : decode b_N_partOfOutput 5 = .ok (.getfield 23, 3) := by decide +kernel
theorem d_N_partOfOutput_8 : decode b_N_partOfOutput 8 = .ok (.goto 7, 3) := by decide +kernel
theorem d_N_partOfOutput_11 : decode b_N_partOfOutput 11 = .ok (.aload_n 0, 1) := by decide +kernel
theorem d_N_partOfOutput_12 : decode b_N_partOfOutput 12 = .ok (.getfield 27, 3) := by decide +kernel
theorem d_N_partOfOutput_15 : decode b_N_partOfOutput 15 = .ok (.lreturn, 1) := by decide +kernel
theorem d_N_differsAt_0 : decode b_N_differsAt 0 = .ok (.aload_n 0, 1) := by decide +kernel
theorem d_N_differsAt_1 : decode b_N_differsAt 1 = .ok (.getfield 9, 3) := by decide +kernel
theorem d_N_differsAt_4 : decode b_N_differsAt 4 = .ok (.iload_n 1, 1) := by decide +kernel
theorem d_N_differsAt_5 : decode b_N_differsAt 5 = .ok (.baload, 1) := by decide +kernel
theorem d_N_differsAt_6 : decode b_N_differsAt 6 = .ok (.iload_n 2, 1) := by decide +kernel
theorem d_N_differsAt_7 : decode b_N_differsAt 7 = .ok (.if_icmp .ne 14, 3) := by decide +kernel
theorem d_N_differsAt_10 : decode b_N_differsAt 10 = .ok (.aload_n 0, 1) := by decide +kernel
theorem d_N_differsAt_11 : decode b_N_differsAt 11 = .ok (.getfield 15, 3) := by decide +kernel
theorem d_N_differsAt_14 : decode b_N_differsAt 14 = .ok (.iload_n 1, 1) := by decide +kernel
theorem d_N_differsAt_15 : decode b_N_differsAt 15 = .ok (.laload, 1) := by decide +kernel
theorem d_N_differsAt_16 : decode b_N_differsAt 16 = .ok (.lload_n 3, 1) := by decide +kernel
theorem d_N_differsAt_17 : decode b_N_differsAt 17 = .ok (.lcmp, 1) := by decide +kernel
theorem d_N_differsAt_18 : decode b_N_differsAt 18 = .ok (.ifCond .eq 7, 3) := by decide +kernel
theorem d_N_differsAt_21 : decode b_N_differsAt 21 = .ok (.iconst 1, 1) := by decide +kernel
theorem d_N_differsAt_22 : decode b_N_differsAt 22 = .ok (.goto 4, 3) := by decide +kernel
theorem d_N_differsAt_25 : decode b_N_differsAt 25 = .ok (.iconst 0, 1) := by decide +kernel
theorem d_N_differsAt_26 : decode b_N_differsAt 26 = .ok (.ireturn, 1) := by decide +kernel
theorem d_N_firstDifference_0 : decode b_N_firstDifference 0 = .ok (.iconst 0, 1) := by decide +kernel
theorem d_N_firstDifference_1 : decode b_N_firstDifference 1 = .ok (.istore_n 3, 1) := by decide +kernel
theorem d_N_firstDifference_2 : decode b_N_firstDifference 2 = .ok (.iload_n 3, 1) := by decide +kernel
theorem d_N_firstDifference_3 : decode b_N_firstDifference 3 = .ok (.iload_n 2, 1) := by decide +kernel
theorem d_N_firstDifference_4 : decode b_N_firstDifference 4 = .ok (.if_icmp .ge 31, 3) := by decide +kernel
theorem d_N_firstDifference_7 : decode b_N_firstDifference 7 = .ok (.aload_n 0, 1) := by decide +kernel
theorem d_N_firstDifference_8 : decode b_N_firstDifference 8 = .ok (.iload_n 3, 1) := by decide +kernel
theorem d_N_firstDifference_9 : decode b_N_firstDifference 9 = .ok (.aload_n 1, 1) := by decide +kernel
theorem d_N_firstDifference_10 : decode b_N_firstDifference 10 = .ok (.getfield 9, 3) := by decide +kernel
theorem d_N_firstDifference_13 : decode b_N_firstDifference 13 = .ok (.iload_n 3, 1) := by decide +kernel
theorem d_N_firstDifference_14 : decode b_N_firstDifference 14 = .ok (.baload, 1) := by decide +kernel
theorem d_N_firstDifference_15 : decode b_N_firstDifference 15 = .ok (.aload_n 1, 1) := by decide +kernel
theorem d_N_firstDifference_16 : decode b_N_firstDifference 16 = .ok (.getfield 15, 3) := by decide +kernel
theorem d_N_firstDifference_19 : decode b_N_firstDifference 19 = .ok (.iload_n 3, 1) := by decide +kernel
theorem d_N_firstDifference_20 : decode b_N_firstDifference 20 = .ok (.laload, 1) := by decide +kernel
theorem d_N_firstDifference_21 : decode b_N_firstDifference 21 = .ok (.invokevirtual 30, 3) := by decide +kernel
theorem d_N_firstDifference_24 : decode b_N_firstDifference 24 = .ok (.ifCond .eq 5, 3) := by decide +kernel
theorem d_N_firstDifference_27 : decode b_N_firstDifference 27 = .ok (.iload_n 3, 1) := by decide +kernel
theorem d_N_firstDifference_28 : decode b_N_firstDifference 28 = .ok (.ireturn, 1) := by decide +kernel
theorem d_N_firstDifference_29 : decode b_N_firstDifference 29 = .ok (.iinc 3 1, 3) := by decide +kernel
theorem d_N_firstDifference_32 : decode b_N_firstDifference 32 = .ok (.goto (-30), 3) := by decide +kernel
theorem d_N_firstDifference_35 : decode b_N_firstDifference 35 = .ok (.iconst (-1), 1) := by decide +kernel
theorem d_N_firstDifference_36 : decode b_N_firstDifference 36 = .ok (.ireturn, 1) := by decide +kernel
theorem d_N_firstMissing_0 : decode b_N_firstMissing 0 = .ok (.iconst 0, 1) := by decide +kernel
theorem d_N_firstMissing_1 : decode b_N_firstMissing 1 = .ok (.istore_n 2, 1) := by decide +kernel
theorem d_N_firstMissing_2 : decode b_N_firstMissing 2 = .ok (.iload_n 2, 1) := by decide +kernel
theorem d_N_firstMissing_3 : decode b_N_firstMissing 3 = .ok (.iload_n 1, 1) := by decide +kernel
theorem d_N_firstMissing_4 : decode b_N_firstMissing 4 = .ok (.if_icmp .ge 20, 3) := by decide +kernel
theorem d_N_firstMissing_7 : decode b_N_firstMissing 7 = .ok (.aload_n 0, 1) := by decide +kernel
theorem d_N_firstMissing_8 : decode b_N_firstMissing 8 = .ok (.getfield 9, 3) := by decide +kernel
theorem d_N_firstMissing_11 : decode b_N_firstMissing 11 = .ok (.iload_n 2, 1) := by decide +kernel
theorem d_N_firstMissing_12 : decode b_N_firstMissing 12 = .ok (.baload, 1) := by decide +kernel
theorem d_N_firstMissing_13 : decode b_N_firstMissing 13 = .ok (.ifCond .ne 5, 3) := by decide +kernel
theorem d_N_firstMissing_16 : decode b_N_firstMissing 16 = .ok (.iload_n 2, 1) := by decide +kernel
theorem d_N_firstMissing_17 : decode b_N_firstMissing 17 = .ok (.ireturn, 1) := by decide +kernel
theorem d_N_firstMissing_18 : decode b_N_firstMissing 18 = .ok (.iinc 2 1, 3) := by decide +kernel
theorem d_N_firstMissing_21 : decode b_N_firstMissing 21 = .ok (.goto (-19), 3) := by decide +kernel
theorem d_N_firstMissing_24 : decode b_N_firstMissing 24 = .ok (.iconst (-1), 1) := by decide +kernel
theorem d_N_firstMissing_25 : decode b_N_firstMissing 25 = .ok (.ireturn, 1) := by decide +kernel
theorem d_S_init_0 : decode b_S_init 0 = .ok (.aload_n 0, 1) := by decide +kernel
theorem d_S_init_1 : decode b_S_init 1 = .ok (.invokespecial 1, 3) := by decide +kernel
theorem d_S_init_4 : decode b_S_init 4 = .ok (.aload_n 0, 1) := by decide +kernel
theorem d_S_init_5 : decode b_S_init 5 = .ok (.iconst 1, 1) := by decide +kernel
theorem d_S_init_6 : decode b_S_init 6 = .ok (.putfield 7, 3) := by decide +kernel
theorem d_S_init_9 : decode b_S_init 9 = .ok (.aload_n 0, 1) := by decide +kernel
theorem d_S_init_10 : decode b_S_init 10 = .ok (.iconst 0, 1) := by decide +kernel
theorem d_S_init_11 : decode b_S_init 11 = .ok (.putfield 13, 3) := by decide +kernel
theorem d_S_init_14 : decode b_S_init 14 = .ok (.aload_n 0, 1) := by decide +kernel
theorem d_S_init_15 : decode b_S_init 15 = .ok (.lload_n 1, 1) := by decide +kernel
theorem d_S_init_16 : decode b_S_init 16 = .ok (.putfield 17, 3) := by decide +kernel
theorem d_S_init_19 : decode b_S_init 19 = .ok (.return_, 1) := by decide +kernel
theorem d_T_init_0 : decode b_T_init 0 = .ok (.aload_n 0, 1) := by decide +kernel
theorem d_T_init_1 : decode b_T_init 1 = .ok (.invokespecial 3, 3) := by decide +kernel
theorem d_T_init_4 : decode b_T_init 4 = .ok (.aload_n 0, 1) := by decide +kernel
theorem d_T_init_5 : decode b_T_init 5 = .ok (.bipush 6, 2) := by decide +kernel
theorem d_T_init_7 : decode b_T_init 7 = .ok (.newarray .int, 2) := by decide +kernel
theorem d_T_init_9 : decode b_T_init 9 = .ok (.putfield 9, 3) := by decide +kernel
theorem d_T_init_12 : decode b_T_init 12 = .ok (.aload_n 0, 1) := by decide +kernel
theorem d_T_init_13 : decode b_T_init 13 = .ok (.iconst 0, 1) := by decide +kernel
theorem d_T_init_14 : decode b_T_init 14 = .ok (.putfield 15, 3) := by decide +kernel
theorem d_T_init_17 : decode b_T_init 17 = .ok (.aload_n 0, 1) := by decide +kernel
theorem d_T_init_18 : decode b_T_init 18 = .ok (.iconst 4, 1) := by decide +kernel
theorem d_T_init_19 : decode b_T_init 19 = .ok (.anewarray 19, 3) := by decide +kernel
theorem d_T_init_22 : decode b_T_init 22 = .ok (.putfield 21, 3) := by decide +kernel
theorem d_T_init_25 : decode b_T_init 25 = .ok (.aload_n 0, 1) := by decide +kernel
theorem d_T_init_26 : decode b_T_init 26 = .ok (.iconst 0, 1) := by decide +kernel
theorem d_T_init_27 : decode b_T_init 27 = .ok (.putfield 25, 3) := by decide +kernel
theorem d_T_init_30 : decode b_T_init 30 = .ok (.aload_n 0, 1) := by decide +kernel
theorem d_T_init_31 : decode b_T_init 31 = .ok (.iconst 0, 1) := by decide +kernel
theorem d_T_init_32 : decode b_T_init 32 = .ok (.putfield 28, 3) := by decide +kernel
theorem d_T_init_35 : decode b_T_init 35 = .ok (.aload_n 0, 1) := by decide +kernel
theorem d_T_init_36 : decode b_T_init 36 = .ok (.iconst 0, 1) := by decide +kernel
theorem d_T_init_37 : decode b_T_init 37 = .ok (.putfield 32, 3) := by decide +kernel
theorem d_T_init_40 : decode b_T_init 40 = .ok (.aload_n 0, 1) := by decide +kernel
theorem d_T_init_41 : decode b_T_init 41 = .ok (.iconst 0, 1) := by decide +kernel
theorem d_T_init_42 : decode b_T_init 42 = .ok (.putfield 35, 3) := by decide +kernel
theorem d_T_init_45 : decode b_T_init 45 = .ok (.aload_n 0, 1) := by decide +kernel
theorem d_T_init_46 : decode b_T_init 46 = .ok (.iconst 0, 1) := by decide +kernel
theorem d_T_init_47 : decode b_T_init 47 = .ok (.putfield 38, 3) := by decide +kernel
theorem d_T_init_50 : decode b_T_init 50 = .ok (.aload_n 0, 1) := by decide +kernel
theorem d_T_init_51 : decode b_T_init 51 = .ok (.iconst (-1), 1) := by decide +kernel
theorem d_T_init_52 : decode b_T_init 52 = .ok (.putfield 41, 3) := by decide +kernel
theorem d_T_init_55 : decode b_T_init 55 = .ok (.aload_n 0, 1) := by decide +kernel
theorem d_T_init_56 : decode b_T_init 56 = .ok (.lload_n 1, 1) := by decide +kernel
theorem d_T_init_57 : decode b_T_init 57 = .ok (.putfield 44, 3) := by decide +kernel
theorem d_T_init_60 : decode b_T_init 60 = .ok (.aload_n 0, 1) := by decide +kernel
theorem d_T_init_61 : decode b_T_init 61 = .ok (.lload_n 3, 1) := by decide +kernel
theorem d_T_init_62 : decode b_T_init 62 = .ok (.putfield 48, 3) := by decide +kernel
theorem d_T_init_65 : decode b_T_init 65 = .ok (.iconst 0, 1) := by decide +kernel
theorem d_T_init_66 : decode b_T_init 66 = .ok (.istore 5, 2) := by decide +kernel
theorem d_T_init_68 : decode b_T_init 68 = .ok (.iload 5, 2) := by decide +kernel
theorem d_T_init_70 : decode b_T_init 70 = .ok (.iconst 3, 1) := by decide +kernel
theorem d_T_init_71 : decode b_T_init 71 = .ok (.if_icmp .gt 23, 3) := by decide +kernel
theorem d_T_init_74 : decode b_T_init 74 = .ok (.aload_n 0, 1) := by decide +kernel
theorem d_T_init_75 : decode b_T_init 75 = .ok (.getfield 21, 3) := by decide +kernel
theorem d_T_init_78 : decode b_T_init 78 = .ok (.iload 5, 2) := by decide +kernel
theorem d_T_init_80 : decode b_T_init 80 = .ok (.new 19, 3) := by decide +kernel
theorem d_T_init_83 : decode b_T_init 83 = .ok (.dup, 1) := by decide +kernel
theorem d_T_init_84 : decode b_T_init 84 = .ok (.invokespecial 51, 3) := by decide +kernel
theorem d_T_init_87 : decode b_T_init 87 = .ok (.aastore, 1) := by decide +kernel
theorem d_T_init_88 : decode b_T_init 88 = .ok (.iinc 5 1, 3) := by decide +kernel
theorem d_T_init_91 : decode b_T_init 91 = .ok (.goto (-23), 3) := by decide +kernel
theorem d_T_init_94 : decode b_T_init 94 = .ok (.return_, 1) := by decide +kernel
theorem d_T_entryAt_0 : decode b_T_entryAt 0 = .ok (.iload_n 1, 1) := by decide +kernel
theorem d_T_entryAt_1 : decode b_T_entryAt 1 = .ok (.ifCond .lt 20, 3) := by decide +kernel
theorem d_T_entryAt_4 : decode b_T_entryAt 4 = .ok (.iload_n 1, 1) := by decide +kernel
theorem d_T_entryAt_5 : decode b_T_entryAt 5 = .ok (.aload_n 0, 1) := by decide +kernel
theorem d_T_entryAt_6 : decode b_T_entryAt 6 = .ok (.getfield 25, 3) := by decide +kernel
theorem d_T_entryAt_9 : decode b_T_entryAt 9 = .ok (.if_icmp .ge 12, 3) := by decide +kernel
theorem d_T_entryAt_12 : decode b_T_entryAt 12 = .ok (.aload_n 0, 1) := by decide +kernel
theorem d_T_entryAt_13 : decode b_T_entryAt 13 = .ok (.getfield 21, 3) := by decide +kernel
theorem d_T_entryAt_16 : decode b_T_entryAt 16 = .ok (.iload_n 1, 1) := by decide +kernel
theorem d_T_entryAt_17 : decode b_T_entryAt 17 = .ok (.aaload, 1) := by decide +kernel
theorem d_T_entryAt_18 : decode b_T_entryAt 18 = .ok (.goto 4, 3) := by decide +kernel
theorem d_T_entryAt_21 : decode b_T_entryAt 21 = .ok (.aconst_null, 1) := by decide +kernel
theorem d_T_entryAt_22 : decode b_T_entryAt 22 = .ok (.areturn, 1) := by decide +kernel
theorem d_T_spareEntry_0 : decode b_T_spareEntry 0 = .ok (.aload_n 0, 1) := by decide +kernel
theorem d_T_spareEntry_1 : decode b_T_spareEntry 1 = .ok (.getfield 21, 3) := by decide +kernel
theorem d_T_spareEntry_4 : decode b_T_spareEntry 4 = .ok (.iconst 3, 1) := by decide +kernel
theorem d_T_spareEntry_5 : decode b_T_spareEntry 5 = .ok (.aaload, 1) := by decide +kernel
theorem d_T_spareEntry_6 : decode b_T_spareEntry 6 = .ok (.areturn, 1) := by decide +kernel
theorem d_T_addRead_0 : decode b_T_addRead 0 = .ok (.aload_n 0, 1) := by decide +kernel
theorem d_T_addRead_1 : decode b_T_addRead 1 = .ok (.getfield 15, 3) := by decide +kernel
theorem d_T_addRead_4 : decode b_T_addRead 4 = .ok (.bipush 6, 2) := by decide +kernel
theorem d_T_addRead_6 : decode b_T_addRead 6 = .ok (.if_icmp .ge 11, 3) := by decide +kernel
theorem d_T_addRead_9 : decode b_T_addRead 9 = .ok (.aload_n 0, 1) := by decide +kernel
theorem d_T_addRead_10 : decode b_T_addRead 10 = .ok (.iload_n 1, 1) := by decide +kernel
theorem d_T_addRead_11 : decode b_T_addRead 11 = .ok (.invokevirtual 52, 3) := by decide +kernel
theorem d_T_addRead_14 : decode b_T_addRead 14 = .ok (.ifCond .eq 5, 3) := by decide +kernel
theorem d_T_addRead_17 : decode b_T_addRead 17 = .ok (.iconst 0, 1) := by decide +kernel
theorem d_T_addRead_18 : decode b_T_addRead 18 = .ok (.ireturn, 1) := by decide +kernel
theorem d_T_addRead_19 : decode b_T_addRead 19 = .ok (.aload_n 0, 1) := by decide +kernel
theorem d_T_addRead_20 : decode b_T_addRead 20 = .ok (.getfield 9, 3) := by decide +kernel
theorem d_T_addRead_23 : decode b_T_addRead 23 = .ok (.aload_n 0, 1) := by decide +kernel
theorem d_T_addRead_24 : decode b_T_addRead 24 = .ok (.getfield 15, 3) := by decide +kernel
theorem d_T_addRead_27 : decode b_T_addRead 27 = .ok (.iload_n 1, 1) := by decide +kernel
theorem d_T_addRead_28 : decode b_T_addRead 28 = .ok (.iastore, 1) := by decide +kernel
theorem d_T_addRead_29 : decode b_T_addRead 29 = .ok (.aload_n 0, 1) := by decide +kernel
theorem d_T_addRead_30 : decode b_T_addRead 30 = .ok (.dup, 1) := by decide +kernel
theorem d_T_addRead_31 : decode b_T_addRead 31 = .ok (.getfield 15, 3) := by decide +kernel
theorem d_T_addRead_34 : decode b_T_addRead 34 = .ok (.iconst 1, 1) := by decide +kernel
theorem d_T_addRead_35 : decode b_T_addRead 35 = .ok (.iadd, 1) := by decide +kernel
theorem d_T_addRead_36 : decode b_T_addRead 36 = .ok (.putfield 15, 3) := by decide +kernel
theorem d_T_addRead_39 : decode b_T_addRead 39 = .ok (.aload_n 0, 1) := by decide +kernel
theorem d_T_addRead_40 : decode b_T_addRead 40 = .ok (.iconst 0, 1) := by decide +kernel
theorem d_T_addRead_41 : decode b_T_addRead 41 = .ok (.putfield 25, 3) := by decide +kernel
theorem d_T_addRead_44 : decode b_T_addRead 44 = .ok (.iconst 1, 1) := by decide +kernel
theorem d_T_addRead_45 : decode b_T_addRead 45 = .ok (.ireturn, 1) := by decide +kernel
theorem d_T_hasRead_0 : decode b_T_hasRead 0 = .ok (.iconst 0, 1) := by decide +kernel
theorem d_T_hasRead_1 : decode b_T_hasRead 1 = .ok (.istore_n 2, 1) := by decide +kernel
theorem d_T_hasRead_2 : decode b_T_hasRead 2 = .ok (.iload_n 2, 1) := by decide +kernel
theorem d_T_hasRead_3 : decode b_T_hasRead 3 = .ok (.aload_n 0, 1) := by decide +kernel
theorem d_T_hasRead_4 : decode b_T_hasRead 4 = .ok (.getfield 15, 3) := by decide +kernel
theorem d_T_hasRead_7 : decode b_T_hasRead 7 = .ok (.if_icmp .ge 21, 3) := by decide +kernel
theorem d_T_hasRead_10 : decode b_T_hasRead 10 = .ok (.aload_n 0, 1) := by decide +kernel
theorem d_T_hasRead_11 : decode b_T_hasRead 11 = .ok (.getfield 9, 3) := by decide +kernel
theorem d_T_hasRead_14 : decode b_T_hasRead 14 = .ok (.iload_n 2, 1) := by decide +kernel
theorem d_T_hasRead_15 : decode b_T_hasRead 15 = .ok (.iaload, 1) := by decide +kernel
theorem d_T_hasRead_16 : decode b_T_hasRead 16 = .ok (.iload_n 1, 1) := by decide +kernel
theorem d_T_hasRead_17 : decode b_T_hasRead 17 = .ok (.if_icmp .ne 5, 3) := by decide +kernel
theorem d_T_hasRead_20 : decode b_T_hasRead 20 = .ok (.iconst 1, 1) := by decide +kernel
theorem d_T_hasRead_21 : decode b_T_hasRead 21 = .ok (.ireturn, 1) := by decide +kernel
theorem d_T_hasRead_22 : decode b_T_hasRead 22 = .ok (.iinc 2 1, 3) := by decide +kernel
theorem d_T_hasRead_25 : decode b_T_hasRead 25 = .ok (.goto (-23), 3) := by decide +kernel
theorem d_T_hasRead_28 : decode b_T_hasRead 28 = .ok (.iconst 0, 1) := by decide +kernel
theorem d_T_hasRead_29 : decode b_T_hasRead 29 = .ok (.ireturn, 1) := by decide +kernel
theorem d_T_forgetLatestBuild_0 : decode b_T_forgetLatestBuild 0 = .ok (.aload_n 0, 1) := by decide +kernel
theorem d_T_forgetLatestBuild_1 : decode b_T_forgetLatestBuild 1 = .ok (.iconst 0, 1) := by decide +kernel
theorem d_T_forgetLatestBuild_2 : decode b_T_forgetLatestBuild 2 = .ok (.putfield 32, 3) := by decide +kernel
theorem d_T_forgetLatestBuild_5 : decode b_T_forgetLatestBuild 5 = .ok (.aload_n 0, 1) := by decide +kernel
theorem d_T_forgetLatestBuild_6 : decode b_T_forgetLatestBuild 6 = .ok (.iconst 0, 1) := by decide +kernel
theorem d_T_forgetLatestBuild_7 : decode b_T_forgetLatestBuild 7 = .ok (.putfield 35, 3) := by decide +kernel
theorem d_T_forgetLatestBuild_10 : decode b_T_forgetLatestBuild 10 = .ok (.aload_n 0, 1) := by decide +kernel
theorem d_T_forgetLatestBuild_11 : decode b_T_forgetLatestBuild 11 = .ok (.iconst 0, 1) := by decide +kernel
theorem d_T_forgetLatestBuild_12 : decode b_T_forgetLatestBuild 12 = .ok (.putfield 38, 3) := by decide +kernel
theorem d_T_forgetLatestBuild_15 : decode b_T_forgetLatestBuild 15 = .ok (.aload_n 0, 1) := by decide +kernel
theorem d_T_forgetLatestBuild_16 : decode b_T_forgetLatestBuild 16 = .ok (.iconst (-1), 1) := by decide +kernel
theorem d_T_forgetLatestBuild_17 : decode b_T_forgetLatestBuild 17 = .ok (.putfield 41, 3) := by decide +kernel
theorem d_T_forgetLatestBuild_20 : decode b_T_forgetLatestBuild 20 = .ok (.return_, 1) := by decide +kernel
theorem d_T_isWithoutOutput_0 : decode b_T_isWithoutOutput 0 = .ok (.aload_n 0, 1) := by decide +kernel
theorem d_T_isWithoutOutput_1 : decode b_T_isWithoutOutput 1 = .ok (.getfield 38, 3) := by decide +kernel
theorem d_T_isWithoutOutput_4 : decode b_T_isWithoutOutput 4 = .ok (.iconst 3, 1) := by decide +kernel
theorem d_T_isWithoutOutput_5 : decode b_T_isWithoutOutput 5 = .ok (.if_icmp .eq 19, 3) := by decide +kernel
theorem d_T_isWithoutOutput_8 : decode b_T_isWithoutOutput 8 = .ok (.aload_n 0, 1) := by decide +kernel
theorem d_T_isWithoutOutput_9 : decode b_T_isWithoutOutput 9 = .ok (.getfield 38, 3) := by decide +kernel
theorem d_T_isWithoutOutput_12 : decode b_T_isWithoutOutput 12 = .ok (.iconst 4, 1) := by decide +kernel
theorem d_T_isWithoutOutput_13 : decode b_T_isWithoutOutput 13 = .ok (.if_icmp .eq 11, 3) := by decide +kernel
theorem d_T_isWithoutOutput_16 : decode b_T_isWithoutOutput 16 = .ok (.aload_n 0, 1) := by decide +kernel
theorem d_T_isWithoutOutput_17 : decode b_T_isWithoutOutput 17 = .ok (.getfield 38, 3) := by decide +kernel
theorem d_T_isWithoutOutput_20 : decode b_T_isWithoutOutput 20 = .ok (.iconst 5, 1) := by decide +kernel
theorem d_T_isWithoutOutput_21 : decode b_T_isWithoutOutput 21 = .ok (.if_icmp .ne 7, 3) := by decide +kernel
theorem d_T_isWithoutOutput_24 : decode b_T_isWithoutOutput 24 = .ok (.iconst 1, 1) := by decide +kernel
theorem d_T_isWithoutOutput_25 : decode b_T_isWithoutOutput 25 = .ok (.goto 4, 3) := by decide +kernel
theorem d_T_isWithoutOutput_28 : decode b_T_isWithoutOutput 28 = .ok (.iconst 0, 1) := by decide +kernel
theorem d_T_isWithoutOutput_29 : decode b_T_isWithoutOutput 29 = .ok (.ireturn, 1) := by decide +kernel
theorem d_T_placeOfSameReads_0 : decode b_T_placeOfSameReads 0 = .ok (.iconst 0, 1) := by decide +kernel
theorem d_T_placeOfSameReads_1 : decode b_T_placeOfSameReads 1 = .ok (.istore_n 2, 1) := by decide +kernel
theorem d_T_placeOfSameReads_2 : decode b_T_placeOfSameReads 2 = .ok (.iload_n 2, 1) := by decide +kernel
theorem d_T_placeOfSameReads_3 : decode b_T_placeOfSameReads 3 = .ok (.aload_n 0, 1) := by decide +kernel
theorem d_T_placeOfSameReads_4 : decode b_T_placeOfSameReads 4 = .ok (.getfield 25, 3) := by decide +kernel
theorem d_T_placeOfSameReads_7 : decode b_T_placeOfSameReads 7 = .ok (.if_icmp .ge 29, 3) := by decide +kernel
theorem d_T_placeOfSameReads_10 : decode b_T_placeOfSameReads 10 = .ok (.aload_n 0, 1) := by decide +kernel
theorem d_T_placeOfSameReads_11 : decode b_T_placeOfSameReads 11 = .ok (.getfield 21, 3) := by decide +kernel
theorem d_T_placeOfSameReads_14 : decode b_T_placeOfSameReads 14 = .ok (.iload_n 2, 1) := by decide +kernel
theorem d_T_placeOfSameReads_15 : decode b_T_placeOfSameReads 15 = .ok (.aaload, 1) := by decide +kernel
theorem d_T_placeOfSameReads_16 : decode b_T_placeOfSameReads 16 = .ok (.aload_n 1, 1) := by decide +kernel
theorem d_T_placeOfSameReads_17 : decode b_T_placeOfSameReads 17 = .ok (.aload_n 0, 1) := by decide +kernel
theorem d_T_placeOfSameReads_18 : decode b_T_placeOfSameReads 18 = .ok (.getfield 15, 3) := by decide +kernel
theorem d_T_placeOfSameReads_21 : decode b_T_placeOfSameReads 21 = .ok (.invokevirtual 56, 3) := by decide +kernel
theorem d_T_placeOfSameReads_24 : decode b_T_placeOfSameReads 24 = .ok (.iconst (-1), 1) := by decide +kernel
theorem d_T_placeOfSameReads_25 : decode b_T_placeOfSameReads 25 = .ok (.if_icmp .ne 5, 3) := by decide +kernel
theorem d_T_placeOfSameReads_28 : decode b_T_placeOfSameReads 28 = .ok (.iload_n 2, 1) := by decide +kernel
theorem d_T_placeOfSameReads_29 : decode b_T_placeOfSameReads 29 = .ok (.ireturn, 1) := by decide +kernel
theorem d_T_placeOfSameReads_30 : decode b_T_placeOfSameReads 30 = .ok (.iinc 2 1, 3) := by decide +kernel
theorem d_T_placeOfSameReads_33 : decode b_T_placeOfSameReads 33 = .ok (.goto (-31), 3) := by decide +kernel
theorem d_T_placeOfSameReads_36 : decode b_T_placeOfSameReads 36 = .ok (.iconst (-1), 1) := by decide +kernel
theorem d_T_placeOfSameReads_37 : decode b_T_placeOfSameReads 37 = .ok (.ireturn, 1) := by decide +kernel
theorem d_T_reuse_0 : decode b_T_reuse 0 = .ok (.aload_n 0, 1) := by decide +kernel
theorem d_T_reuse_1 : decode b_T_reuse 1 = .ok (.iload_n 1, 1) := by decide +kernel
theorem d_T_reuse_2 : decode b_T_reuse 2 = .ok (.invokevirtual 60, 3) := by decide +kernel
theorem d_T_reuse_5 : decode b_T_reuse 5 = .ok (.aload_n 0, 1) := by decide +kernel
theorem d_T_reuse_6 : decode b_T_reuse 6 = .ok (.getfield 21, 3) := by decide +kernel
theorem d_T_reuse_9 : decode b_T_reuse 9 = .ok (.iconst 0, 1) := by decide +kernel
theorem d_T_reuse_10 : decode b_T_reuse 10 = .ok (.aaload, 1) := by decide +kernel
theorem d_T_reuse_11 : decode b_T_reuse 11 = .ok (.invokevirtual 64, 3) := by decide +kernel
theorem d_T_reuse_14 : decode b_T_reuse 14 = .ok (.ifCond .eq 11, 3) := by decide +kernel
theorem d_T_reuse_17 : decode b_T_reuse 17 = .ok (.aload_n 0, 1) := by decide +kernel
theorem d_T_reuse_18 : decode b_T_reuse 18 = .ok (.iconst 4, 1) := by decide +kernel
theorem d_T_reuse_19 : decode b_T_reuse 19 = .ok (.putfield 38, 3) := by decide +kernel
theorem d_T_reuse_22 : decode b_T_reuse 22 = .ok (.goto 17, 3) := by decide +kernel
theorem d_T_reuse_25 : decode b_T_reuse 25 = .ok (.aload_n 0, 1) := by decide +kernel
theorem d_T_reuse_26 : decode b_T_reuse 26 = .ok (.iload_n 1, 1) := by decide +kernel
theorem d_T_reuse_27 : decode b_T_reuse 27 = .ok (.ifCond .ne 7, 3) := by decide +kernel
theorem d_T_reuse_30 : decode b_T_reuse 30 = .ok (.iconst 1, 1) := by decide +kernel
theorem d_T_reuse_31 : decode b_T_reuse 31 = .ok (.goto 5, 3) := by decide +kernel
theorem d_T_reuse_34 : decode b_T_reuse 34 = .ok (.bipush 6, 2) := by decide +kernel
theorem d_T_reuse_36 : decode b_T_reuse 36 = .ok (.putfield 38, 3) := by decide +kernel
theorem d_T_reuse_39 : decode b_T_reuse 39 = .ok (.return_, 1) := by decide +kernel
theorem d_T_redo_0 : decode b_T_redo 0 = .ok (.aload_n 0, 1) := by decide +kernel
theorem d_T_redo_1 : decode b_T_redo 1 = .ok (.invokevirtual 68, 3) := by decide +kernel
theorem d_T_redo_4 : decode b_T_redo 4 = .ok (.astore_n 2, 1) := by decide +kernel
theorem d_T_redo_5 : decode b_T_redo 5 = .ok (.aload_n 0, 1) := by decide +kernel
theorem d_T_redo_6 : decode b_T_redo 6 = .ok (.aload_n 2, 1) := by decide +kernel
theorem d_T_redo_7 : decode b_T_redo 7 = .ok (.invokevirtual 72, 3) := by decide +kernel
theorem d_T_redo_10 : decode b_T_redo 10 = .ok (.iload_n 1, 1) := by decide +kernel
theorem d_T_redo_11 : decode b_T_redo 11 = .ok (.iconst (-1), 1) := by decide +kernel
theorem d_T_redo_12 : decode b_T_redo 12 = .ok (.if_icmp .ne 25, 3) := by decide +kernel
theorem d_T_redo_15 : decode b_T_redo 15 = .ok (.aload_n 0, 1) := by decide +kernel
theorem d_T_redo_16 : decode b_T_redo 16 = .ok (.iconst 3, 1) := by decide +kernel
theorem d_T_redo_17 : decode b_T_redo 17 = .ok (.invokevirtual 60, 3) := by decide +kernel
theorem d_T_redo_20 : decode b_T_redo 20 = .ok (.aload_n 0, 1) := by decide +kernel
theorem d_T_redo_21 : decode b_T_redo 21 = .ok (.aload_n 0, 1) := by decide +kernel
theorem d_T_redo_22 : decode b_T_redo 22 = .ok (.getfield 25, 3) := by decide +kernel
theorem d_T_redo_25 : decode b_T_redo 25 = .ok (.iconst 1, 1) := by decide +kernel
theorem d_T_redo_26 : decode b_T_redo 26 = .ok (.iadd, 1) := by decide +kernel
theorem d_T_redo_27 : decode b_T_redo 27 = .ok (.iconst 3, 1) := by decide +kernel
theorem d_T_redo_28 : decode b_T_redo 28 = .ok (.invokestatic 76, 3) := by decide +kernel
theorem d_T_redo_31 : decode b_T_redo 31 = .ok (.putfield 25, 3) := by decide +kernel
theorem d_T_redo_34 : decode b_T_redo 34 = .ok (.goto 27, 3) := by decide +kernel
theorem d_T_redo_37 : decode b_T_redo 37 = .ok (.aload_n 0, 1) := by decide +kernel
theorem d_T_redo_38 : decode b_T_redo 38 = .ok (.getfield 21, 3) := by decide +kernel
theorem d_T_redo_41 : decode b_T_redo 41 = .ok (.iconst 3, 1) := by decide +kernel
theorem d_T_redo_42 : decode b_T_redo 42 = .ok (.aload_n 0, 1) := by decide +kernel
theorem d_T_redo_43 : decode b_T_redo 43 = .ok (.getfield 21, 3) := by decide +kernel
theorem d_T_redo_46 : decode b_T_redo 46 = .ok (.iload_n 1, 1) := by decide +kernel
theorem d_T_redo_47 : decode b_T_redo 47 = .ok (.aaload, 1) := by decide +kernel
theorem d_T_redo_48 : decode b_T_redo 48 = .ok (.aastore, 1) := by decide +kernel
theorem d_T_redo_49 : decode b_T_redo 49 = .ok (.aload_n 0, 1) := by decide +kernel
theorem d_T_redo_50 : decode b_T_redo 50 = .ok (.getfield 21, 3) := by decide +kernel
theorem d_T_redo_53 : decode b_T_redo 53 = .ok (.iload_n 1, 1) := by decide +kernel
theorem d_T_redo_54 : decode b_T_redo 54 = .ok (.aload_n 2, 1) := by decide +kernel
theorem d_T_redo_55 : decode b_T_redo 55 = .ok (.aastore, 1) := by decide +kernel
theorem d_T_redo_56 : decode b_T_redo 56 = .ok (.aload_n 0, 1) := by decide +kernel
theorem d_T_redo_57 : decode b_T_redo 57 = .ok (.iload_n 1, 1) := by decide +kernel
theorem d_T_redo_58 : decode b_T_redo 58 = .ok (.invokevirtual 60, 3) := by decide +kernel
theorem d_T_redo_61 : decode b_T_redo 61 = .ok (.aload_n 0, 1) := by decide +kernel
theorem d_T_redo_62 : decode b_T_redo 62 = .ok (.iconst 0, 1) := by decide +kernel
theorem d_T_redo_63 : decode b_T_redo 63 = .ok (.putfield 28, 3) := by decide +kernel
theorem d_T_redo_66 : decode b_T_redo 66 = .ok (.aload_n 0, 1) := by decide +kernel
theorem d_T_redo_67 : decode b_T_redo 67 = .ok (.aload_n 2, 1) := by decide +kernel
theorem d_T_redo_68 : decode b_T_redo 68 = .ok (.invokevirtual 64, 3) := by decide +kernel
theorem d_T_redo_71 : decode b_T_redo 71 = .ok (.ifCond .eq 7, 3) := by decide +kernel
theorem d_T_redo_74 : decode b_T_redo 74 = .ok (.iconst 3, 1) := by decide +kernel
theorem d_T_redo_75 : decode b_T_redo 75 = .ok (.goto 4, 3) := by decide +kernel
theorem d_T_redo_78 : decode b_T_redo 78 = .ok (.iconst 2, 1) := by decide +kernel
theorem d_T_redo_79 : decode b_T_redo 79 = .ok (.putfield 38, 3) := by decide +kernel
theorem d_T_redo_82 : decode b_T_redo 82 = .ok (.return_, 1) := by decide +kernel
theorem d_T_fillOutcome_0 : decode b_T_fillOutcome 0 = .ok (.ldc2_w 82, 3) := by decide +kernel
theorem d_T_fillOutcome_3 : decode b_T_fillOutcome 3 = .ok (.lstore_n 2, 1) := by decide +kernel
theorem d_T_fillOutcome_4 : decode b_T_fillOutcome 4 = .ok (.iconst 0, 1) := by decide +kernel
theorem d_T_fillOutcome_5 : decode b_T_fillOutcome 5 = .ok (.istore 4, 2) := by decide +kernel
theorem d_T_fillOutcome_7 : decode b_T_fillOutcome 7 = .ok (.iload 4, 2) := by decide +kernel
theorem d_T_fillOutcome_9 : decode b_T_fillOutcome 9 = .ok (.aload_n 0, 1) := by decide +kernel
theorem d_T_fillOutcome_10 : decode b_T_fillOutcome 10 = .ok (.getfield 15, 3) := by decide +kernel
theorem d_T_fillOutcome_13 : decode b_T_fillOutcome 13 = .ok (.if_icmp .ge 23, 3) := by decide +kernel
theorem d_T_fillOutcome_16 : decode b_T_fillOutcome 16 = .ok (.ldc2_w 84, 3) := by decide +kernel
theorem d_T_fillOutcome_19 : decode b_T_fillOutcome 19 = .ok (.lload_n 2, 1) := by decide +kernel
theorem d_T_fillOutcome_20 : decode b_T_fillOutcome 20 = .ok (.lmul, 1) := by decide +kernel
theorem d_T_fillOutcome_21 : decode b_T_fillOutcome 21 = .ok (.aload_n 1, 1) := by decide +kernel
theorem d_T_fillOutcome_22 : decode b_T_fillOutcome 22 = .ok (.getfield 86, 3) := by decide +kernel
theorem d_T_fillOutcome_25 : decode b_T_fillOutcome 25 = .ok (.iload 4, 2) := by decide +kernel
theorem d_T_fillOutcome_27 : decode b_T_fillOutcome 27 = .ok (.laload, 1) := by decide +kernel
theorem d_T_fillOutcome_28 : decode b_T_fillOutcome 28 = .ok (.ladd, 1) := by decide +kernel
theorem d_T_fillOutcome_29 : decode b_T_fillOutcome 29 = .ok (.lstore_n 2, 1) := by decide +kernel
theorem d_T_fillOutcome_30 : decode b_T_fillOutcome 30 = .ok (.iinc 4 1, 3) := by decide +kernel
theorem d_T_fillOutcome_33 : decode b_T_fillOutcome 33 = .ok (.goto (-26), 3) := by decide +kernel
theorem d_T_fillOutcome_36 : decode b_T_fillOutcome 36 = .ok (.aload_n 1, 1) := by decide +kernel
theorem d_T_fillOutcome_37 : decode b_T_fillOutcome 37 = .ok (.lload_n 2, 1) := by decide +kernel
theorem d_T_fillOutcome_38 : decode b_T_fillOutcome 38 = .ok (.putfield 90, 3) := by decide +kernel
theorem d_T_fillOutcome_41 : decode b_T_fillOutcome 41 = .ok (.aload_n 1, 1) := by decide +kernel
theorem d_T_fillOutcome_42 : decode b_T_fillOutcome 42 = .ok (.lload_n 2, 1) := by decide +kernel
theorem d_T_fillOutcome_43 : decode b_T_fillOutcome 43 = .ok (.aload_n 0, 1) := by decide +kernel
theorem d_T_fillOutcome_44 : decode b_T_fillOutcome 44 = .ok (.getfield 44, 3) := by decide +kernel
theorem d_T_fillOutcome_47 : decode b_T_fillOutcome 47 = .ok (.land, 1) := by decide +kernel
theorem d_T_fillOutcome_48 : decode b_T_fillOutcome 48 = .ok (.putfield 93, 3) := by decide +kernel
theorem d_T_fillOutcome_51 : decode b_T_fillOutcome 51 = .ok (.aload_n 1, 1) := by decide +kernel
theorem d_T_fillOutcome_52 : decode b_T_fillOutcome 52 = .ok (.aload_n 1, 1) := by decide +kernel
theorem d_T_fillOutcome_53 : decode b_T_fillOutcome 53 = .ok (.aload_n 0, 1) := by decide +kernel
theorem d_T_fillOutcome_54 : decode b_T_fillOutcome 54 = .ok (.getfield 15, 3) := by decide +kernel
theorem d_T_fillOutcome_57 : decode b_T_fillOutcome 57 = .ok (.invokevirtual 96, 3) := by decide +kernel
theorem d_T_fillOutcome_60 : decode b_T_fillOutcome 60 = .ok (.putfield 100, 3) := by decide +kernel
theorem d_T_fillOutcome_63 : decode b_T_fillOutcome 63 = .ok (.aload_n 1, 1) := by decide +kernel
theorem d_T_fillOutcome_64 : decode b_T_fillOutcome 64 = .ok (.getfield 100, 3) := by decide +kernel
theorem d_T_fillOutcome_67 : decode b_T_fillOutcome 67 = .ok (.iconst (-1), 1) := by decide +kernel
theorem d_T_fillOutcome_68 : decode b_T_fillOutcome 68 = .ok (.if_icmp .ne 29, 3) := by decide +kernel
theorem d_T_fillOutcome_71 : decode b_T_fillOutcome 71 = .ok (.aload_n 0, 1) := by decide +kernel
theorem d_T_fillOutcome_72 : decode b_T_fillOutcome 72 = .ok (.getfield 48, 3) := by decide +kernel
theorem d_T_fillOutcome_75 : decode b_T_fillOutcome 75 = .ok (.lconst 0, 1) := by decide +kernel
theorem d_T_fillOutcome_76 : decode b_T_fillOutcome 76 = .ok (.lcmp, 1) := by decide +kernel
theorem d_T_fillOutcome_77 : decode b_T_fillOutcome 77 = .ok (.ifCond .eq 20, 3) := by decide +kernel
theorem d_T_fillOutcome_80 : decode b_T_fillOutcome 80 = .ok (.lload_n 2, 1) := by decide +kernel
theorem d_T_fillOutcome_81 : decode b_T_fillOutcome 81 = .ok (.aload_n 0, 1) := by decide +kernel
theorem d_T_fillOutcome_82 : decode b_T_fillOutcome 82 = .ok (.getfield 48, 3) := by decide +kernel
theorem d_T_fillOutcome_85 : decode b_T_fillOutcome 85 = .ok (.lrem, 1) := by decide +kernel
theorem d_T_fillOutcome_86 : decode b_T_fillOutcome 86 = .ok (.lconst 0, 1) := by decide +kernel
theorem d_T_fillOutcome_87 : decode b_T_fillOutcome 87 = .ok (.lcmp, 1) := by decide +kernel
theorem d_T_fillOutcome_88 : decode b_T_fillOutcome 88 = .ok (.ifCond .ne 9, 3) := by decide +kernel
theorem d_T_fillOutcome_91 : decode b_T_fillOutcome 91 = .ok (.aload_n 1, 1) := by decide +kernel
theorem d_T_fillOutcome_92 : decode b_T_fillOutcome 92 = .ok (.bipush 6, 2) := by decide +kernel
theorem d_T_fillOutcome_94 : decode b_T_fillOutcome 94 = .ok (.putfield 100, 3) := by decide +kernel
theorem d_T_fillOutcome_97 : decode b_T_fillOutcome 97 = .ok (.return_, 1) := by decide +kernel
theorem d_T_bringFirst_0 : decode b_T_bringFirst 0 = .ok (.aload_n 0, 1) := by decide +kernel
theorem d_T_bringFirst_1 : decode b_T_bringFirst 1 = .ok (.getfield 21, 3) := by decide +kernel
theorem d_T_bringFirst_4 : decode b_T_bringFirst 4 = .ok (.iload_n 1, 1) := by decide +kernel
theorem d_T_bringFirst_5 : decode b_T_bringFirst 5 = .ok (.aaload, 1) := by decide +kernel
theorem d_T_bringFirst_6 : decode b_T_bringFirst 6 = .ok (.astore_n 2, 1) := by decide +kernel
theorem d_T_bringFirst_7 : decode b_T_bringFirst 7 = .ok (.iload_n 1, 1) := by decide +kernel
theorem d_T_bringFirst_8 : decode b_T_bringFirst 8 = .ok (.istore_n 3, 1) := by decide +kernel
theorem d_T_bringFirst_9 : decode b_T_bringFirst 9 = .ok (.iload_n 3, 1) := by decide +kernel
theorem d_T_bringFirst_10 : decode b_T_bringFirst 10 = .ok (.ifCond .le 23, 3) := by decide +kernel
theorem d_T_bringFirst_13 : decode b_T_bringFirst 13 = .ok (.aload_n 0, 1) := by decide +kernel
theorem d_T_bringFirst_14 : decode b_T_bringFirst 14 = .ok (.getfield 21, 3) := by decide +kernel
theorem d_T_bringFirst_17 : decode b_T_bringFirst 17 = .ok (.iload_n 3, 1) := by decide +kernel
theorem d_T_bringFirst_18 : decode b_T_bringFirst 18 = .ok (.aload_n 0, 1) := by decide +kernel
theorem d_T_bringFirst_19 : decode b_T_bringFirst 19 = .ok (.getfield 21, 3) := by decide +kernel
theorem d_T_bringFirst_22 : decode b_T_bringFirst 22 = .ok (.iload_n 3, 1) := by decide +kernel
theorem d_T_bringFirst_23 : decode b_T_bringFirst 23 = .ok (.iconst 1, 1) := by decide +kernel
theorem d_T_bringFirst_24 : decode b_T_bringFirst 24 = .ok (.isub, 1) := by decide +kernel
theorem d_T_bringFirst_25 : decode b_T_bringFirst 25 = .ok (.aaload, 1) := by decide +kernel
theorem d_T_bringFirst_26 : decode b_T_bringFirst 26 = .ok (.aastore, 1) := by decide +kernel
theorem d_T_bringFirst_27 : decode b_T_bringFirst 27 = .ok (.iinc 3 (-1), 3) := by decide +kernel
theorem d_T_bringFirst_30 : decode b_T_bringFirst 30 = .ok (.goto (-21), 3) := by decide +kernel
theorem d_T_bringFirst_33 : decode b_T_bringFirst 33 = .ok (.aload_n 0, 1) := by decide +kernel
theorem d_T_bringFirst_34 : decode b_T_bringFirst 34 = .ok (.getfield 21, 3) := by decide +kernel
theorem d_T_bringFirst_37 : decode b_T_bringFirst 37 = .ok (.iconst 0, 1) := by decide +kernel
theorem d_T_bringFirst_38 : decode b_T_bringFirst 38 = .ok (.aload_n 2, 1) := by decide +kernel
theorem d_T_bringFirst_39 : decode b_T_bringFirst 39 = .ok (.aastore, 1) := by decide +kernel
theorem d_T_bringFirst_40 : decode b_T_bringFirst 40 = .ok (.return_, 1) := by decide +kernel
theorem d_A_init_0 : decode b_A_init 0 = .ok (.aload_n 0, 1) := by decide +kernel
theorem d_A_init_1 : decode b_A_init 1 = .ok (.invokespecial 1, 3) := by decide +kernel
theorem d_A_init_4 : decode b_A_init 4 = .ok (.aload_n 0, 1) := by decide +kernel
theorem d_A_init_5 : decode b_A_init 5 = .ok (.bipush 16, 2) := by decide +kernel
theorem d_A_init_7 : decode b_A_init 7 = .ok (.anewarray 9, 3) := by decide +kernel
theorem d_A_init_10 : decode b_A_init 10 = .ok (.putfield 11, 3) := by decide +kernel
theorem d_A_init_13 : decode b_A_init 13 = .ok (.aload_n 0, 1) := by decide +kernel
theorem d_A_init_14 : decode b_A_init 14 = .ok (.iconst 0, 1) := by decide +kernel
theorem d_A_init_15 : decode b_A_init 15 = .ok (.putfield 15, 3) := by decide +kernel
theorem d_A_init_18 : decode b_A_init 18 = .ok (.aload_n 0, 1) := by decide +kernel
theorem d_A_init_19 : decode b_A_init 19 = .ok (.bipush 16, 2) := by decide +kernel
theorem d_A_init_21 : decode b_A_init 21 = .ok (.anewarray 19, 3) := by decide +kernel
theorem d_A_init_24 : decode b_A_init 24 = .ok (.putfield 21, 3) := by decide +kernel
theorem d_A_init_27 : decode b_A_init 27 = .ok (.aload_n 0, 1) := by decide +kernel
theorem d_A_init_28 : decode b_A_init 28 = .ok (.iconst 0, 1) := by decide +kernel
theorem d_A_init_29 : decode b_A_init 29 = .ok (.putfield 25, 3) := by decide +kernel
theorem d_A_init_32 : decode b_A_init 32 = .ok (.aload_n 0, 1) := by decide +kernel
theorem d_A_init_33 : decode b_A_init 33 = .ok (.iconst 5, 1) := by decide +kernel
theorem d_A_init_34 : decode b_A_init 34 = .ok (.newarray .int, 2) := by decide +kernel
theorem d_A_init_36 : decode b_A_init 36 = .ok (.putfield 28, 3) := by decide +kernel
theorem d_A_init_39 : decode b_A_init 39 = .ok (.aload_n 0, 1) := by decide +kernel
theorem d_A_init_40 : decode b_A_init 40 = .ok (.iconst 4, 1) := by decide +kernel
theorem d_A_init_41 : decode b_A_init 41 = .ok (.newarray .int, 2) := by decide +kernel
theorem d_A_init_43 : decode b_A_init 43 = .ok (.putfield 32, 3) := by decide +kernel
theorem d_A_init_46 : decode b_A_init 46 = .ok (.aload_n 0, 1) := by decide +kernel
theorem d_A_init_47 : decode b_A_init 47 = .ok (.iconst 0, 1) := by decide +kernel
theorem d_A_init_48 : decode b_A_init 48 = .ok (.putfield 35, 3) := by decide +kernel
theorem d_A_init_51 : decode b_A_init 51 = .ok (.return_, 1) := by decide +kernel
theorem d_A_file_0 : decode b_A_file 0 = .ok (.aload_n 0, 1) := by decide +kernel
theorem d_A_file_1 : decode b_A_file 1 = .ok (.getfield 15, 3) := by decide +kernel
theorem d_A_file_4 : decode b_A_file 4 = .ok (.bipush 16, 2) := by decide +kernel
theorem d_A_file_6 : decode b_A_file 6 = .ok (.if_icmp .lt 5, 3) := by decide +kernel
theorem d_A_file_9 : decode b_A_file 9 = .ok (.iconst (-1), 1) := by decide +kernel
theorem d_A_file_10 : decode b_A_file 10 = .ok (.ireturn, 1) := by decide +kernel
theorem d_A_file_11 : decode b_A_file 11 = .ok (.aload_n 0, 1) := by decide +kernel
theorem d_A_file_12 : decode b_A_file 12 = .ok (.getfield 11, 3) := by decide +kernel
theorem d_A_file_15 : decode b_A_file 15 = .ok (.aload_n 0, 1) := by decide +kernel
theorem d_A_file_16 : decode b_A_file 16 = .ok (.getfield 15, 3) := by decide +kernel
theorem d_A_file_19 : decode b_A_file 19 = .ok (.new 9, 3) := by decide +kernel
theorem d_A_file_22 : decode b_A_file 22 = .ok (.dup, 1) := by decide +kernel
theorem d_A_file_23 : decode b_A_file 23 = .ok (.lload_n 1, 1) := by decide +kernel
theorem d_A_file_24 : decode b_A_file 24 = .ok (.invokespecial 38, 3) := by decide +kernel
theorem d_A_file_27 : decode b_A_file 27 = .ok (.aastore, 1) := by decide +kernel
theorem d_A_file_28 : decode b_A_file 28 = .ok (.aload_n 0, 1) := by decide +kernel
theorem d_A_file_29 : decode b_A_file 29 = .ok (.dup, 1) := by decide +kernel
theorem d_A_file_30 : decode b_A_file 30 = .ok (.getfield 15, 3) := by decide +kernel
theorem d_A_file_33 : decode b_A_file 33 = .ok (.iconst 1, 1) := by decide +kernel
theorem d_A_file_34 : decode b_A_file 34 = .ok (.iadd, 1) := by decide +kernel
theorem d_A_file_35 : decode b_A_file 35 = .ok (.putfield 15, 3) := by decide +kernel
theorem d_A_file_38 : decode b_A_file 38 = .ok (.aload_n 0, 1) := by decide +kernel
theorem d_A_file_39 : decode b_A_file 39 = .ok (.getfield 15, 3) := by decide +kernel
theorem d_A_file_42 : decode b_A_file 42 = .ok (.iconst 1, 1) := by decide +kernel
theorem d_A_file_43 : decode b_A_file 43 = .ok (.isub, 1) := by decide +kernel
theorem d_A_file_44 : decode b_A_file 44 = .ok (.ireturn, 1) := by decide +kernel
theorem d_A_set_0 : decode b_A_set 0 = .ok (.aload_n 0, 1) := by decide +kernel
theorem d_A_set_1 : decode b_A_set 1 = .ok (.iload_n 1, 1) := by decide +kernel
theorem d_A_set_2 : decode b_A_set 2 = .ok (.invokevirtual 41, 3) := by decide +kernel
theorem d_A_set_5 : decode b_A_set 5 = .ok (.astore 5, 2) := by decide +kernel
theorem d_A_set_7 : decode b_A_set 7 = .ok (.aload 5, 2) := by decide +kernel
theorem d_A_set_9 : decode b_A_set 9 = .ok (.ifnonnull 5, 3) := by decide +kernel
theorem d_A_set_12 : decode b_A_set 12 = .ok (.iconst 0, 1) := by decide +kernel
theorem d_A_set_13 : decode b_A_set 13 = .ok (.ireturn, 1) := by decide +kernel
theorem d_A_set_14 : decode b_A_set 14 = .ok (.aload 5, 2) := by decide +kernel
theorem d_A_set_16 : decode b_A_set 16 = .ok (.iload_n 2, 1) := by decide +kernel
theorem d_A_set_17 : decode b_A_set 17 = .ok (.putfield 45, 3) := by decide +kernel
theorem d_A_set_20 : decode b_A_set 20 = .ok (.aload 5, 2) := by decide +kernel
theorem d_A_set_22 : decode b_A_set 22 = .ok (.iload_n 2, 1) := by decide +kernel
theorem d_A_set_23 : decode b_A_set 23 = .ok (.ifCond .eq 7, 3) := by decide +kernel
theorem d_A_set_26 : decode b_A_set 26 = .ok (.lload_n 3, 1) := by decide +kernel
theorem d_A_set_27 : decode b_A_set 27 = .ok (.goto 4, 3) := by decide +kernel
theorem d_A_set_30 : decode b_A_set 30 = .ok (.lconst 0, 1) := by decide +kernel
theorem d_A_set_31 : decode b_A_set 31 = .ok (.putfield 49, 3) := by decide +kernel
theorem d_A_set_34 : decode b_A_set 34 = .ok (.iconst 1, 1) := by decide +kernel
theorem d_A_set_35 : decode b_A_set 35 = .ok (.ireturn, 1) := by decide +kernel
theorem d_A_touch_0 : decode b_A_touch 0 = .ok (.aload_n 0, 1) := by decide +kernel
theorem d_A_touch_1 : decode b_A_touch 1 = .ok (.iload_n 1, 1) := by decide +kernel
theorem d_A_touch_2 : decode b_A_touch 2 = .ok (.invokevirtual 41, 3) := by decide +kernel
theorem d_A_touch_5 : decode b_A_touch 5 = .ok (.astore_n 2, 1) := by decide +kernel
theorem d_A_touch_6 : decode b_A_touch 6 = .ok (.aload_n 2, 1) := by decide +kernel
theorem d_A_touch_7 : decode b_A_touch 7 = .ok (.ifnonnull 5, 3) := by decide +kernel
theorem d_A_touch_10 : decode b_A_touch 10 = .ok (.iconst (-1), 1) := by decide +kernel
theorem d_A_touch_11 : decode b_A_touch 11 = .ok (.ireturn, 1) := by decide +kernel
theorem d_A_touch_12 : decode b_A_touch 12 = .ok (.aload_n 2, 1) := by decide +kernel
theorem d_A_touch_13 : decode b_A_touch 13 = .ok (.dup, 1) := by decide +kernel
theorem d_A_touch_14 : decode b_A_touch 14 = .ok (.getfield 53, 3) := by decide +kernel
theorem d_A_touch_17 : decode b_A_touch 17 = .ok (.iconst 1, 1) := by decide +kernel
theorem d_A_touch_18 : decode b_A_touch 18 = .ok (.iadd, 1) := by decide +kernel
theorem d_A_touch_19 : decode b_A_touch 19 = .ok (.putfield 53, 3) := by decide +kernel
theorem d_A_touch_22 : decode b_A_touch 22 = .ok (.aload_n 2, 1) := by decide +kernel
theorem d_A_touch_23 : decode b_A_touch 23 = .ok (.getfield 53, 3) := by decide +kernel
theorem d_A_touch_26 : decode b_A_touch 26 = .ok (.ireturn, 1) := by decide +kernel
theorem d_A_step_0 : decode b_A_step 0 = .ok (.aload_n 0, 1) := by decide +kernel
theorem d_A_step_1 : decode b_A_step 1 = .ok (.getfield 25, 3) := by decide +kernel
theorem d_A_step_4 : decode b_A_step 4 = .ok (.bipush 16, 2) := by decide +kernel
theorem d_A_step_6 : decode b_A_step 6 = .ok (.if_icmp .ge 9, 3) := by decide +kernel
theorem d_A_step_9 : decode b_A_step 9 = .ok (.lload_n 3, 1) := by decide +kernel
theorem d_A_step_10 : decode b_A_step 10 = .ok (.lconst 0, 1) := by decide +kernel
theorem d_A_step_11 : decode b_A_step 11 = .ok (.lcmp, 1) := by decide +kernel
theorem d_A_step_12 : decode b_A_step 12 = .ok (.ifCond .ge 5, 3) := by decide +kernel
theorem d_A_step_15 : decode b_A_step 15 = .ok (.iconst (-1), 1) := by decide +kernel
theorem d_A_step_16 : decode b_A_step 16 = .ok (.ireturn, 1) := by decide +kernel
theorem d_A_step_17 : decode b_A_step 17 = .ok (.aload_n 0, 1) := by decide +kernel
theorem d_A_step_18 : decode b_A_step 18 = .ok (.getfield 21, 3) := by decide +kernel
theorem d_A_step_21 : decode b_A_step 21 = .ok (.aload_n 0, 1) := by decide +kernel
theorem d_A_step_22 : decode b_A_step 22 = .ok (.getfield 25, 3) := by decide +kernel
theorem d_A_step_25 : decode b_A_step 25 = .ok (.new 19, 3) := by decide +kernel
theorem d_A_step_28 : decode b_A_step 28 = .ok (.dup, 1) := by decide +kernel
theorem d_A_step_29 : decode b_A_step 29 = .ok (.lload_n 1, 1) := by decide +kernel
theorem d_A_step_30 : decode b_A_step 30 = .ok (.lload_n 3, 1) := by decide +kernel
theorem d_A_step_31 : decode b_A_step 31 = .ok (.invokespecial 56, 3) := by decide +kernel
theorem d_A_step_34 : decode b_A_step 34 = .ok (.aastore, 1) := by decide +kernel
theorem d_A_step_35 : decode b_A_step 35 = .ok (.aload_n 0, 1) := by decide +kernel
theorem d_A_step_36 : decode b_A_step 36 = .ok (.dup, 1) := by decide +kernel
theorem d_A_step_37 : decode b_A_step 37 = .ok (.getfield 25, 3) := by decide +kernel
theorem d_A_step_40 : decode b_A_step 40 = .ok (.iconst 1, 1) := by decide +kernel
theorem d_A_step_41 : decode b_A_step 41 = .ok (.iadd, 1) := by decide +kernel
theorem d_A_step_42 : decode b_A_step 42 = .ok (.putfield 25, 3) := by decide +kernel
theorem d_A_step_45 : decode b_A_step 45 = .ok (.aload_n 0, 1) := by decide +kernel
theorem d_A_step_46 : decode b_A_step 46 = .ok (.getfield 25, 3) := by decide +kernel
theorem d_A_step_49 : decode b_A_step 49 = .ok (.iconst 1, 1) := by decide +kernel
theorem d_A_step_50 : decode b_A_step 50 = .ok (.isub, 1) := by decide +kernel
theorem d_A_step_51 : decode b_A_step 51 = .ok (.ireturn, 1) := by decide +kernel
theorem d_A_readsFile_0 : decode b_A_readsFile 0 = .ok (.aload_n 0, 1) := by decide +kernel
theorem d_A_readsFile_1 : decode b_A_readsFile 1 = .ok (.iload_n 1, 1) := by decide +kernel
theorem d_A_readsFile_2 : decode b_A_readsFile 2 = .ok (.invokevirtual 59, 3) := by decide +kernel
theorem d_A_readsFile_5 : decode b_A_readsFile 5 = .ok (.astore_n 3, 1) := by decide +kernel
theorem d_A_readsFile_6 : decode b_A_readsFile 6 = .ok (.aload_n 3, 1) := by decide +kernel
theorem d_A_readsFile_7 : decode b_A_readsFile 7 = .ok (.ifnull 11, 3) := by decide +kernel
theorem d_A_readsFile_10 : decode b_A_readsFile 10 = .ok (.aload_n 0, 1) := by decide +kernel
theorem d_A_readsFile_11 : decode b_A_readsFile 11 = .ok (.iload_n 2, 1) := by decide +kernel
theorem d_A_readsFile_12 : decode b_A_readsFile 12 = .ok (.invokevirtual 41, 3) := by decide +kernel
theorem d_A_readsFile_15 : decode b_A_readsFile 15 = .ok (.ifnonnull 5, 3) := by decide +kernel
theorem d_A_readsFile_18 : decode b_A_readsFile 18 = .ok (.iconst 0, 1) := by decide +kernel
theorem d_A_readsFile_19 : decode b_A_readsFile 19 = .ok (.ireturn, 1) := by decide +kernel
theorem d_A_readsFile_20 : decode b_A_readsFile 20 = .ok (.aload_n 3, 1) := by decide +kernel
theorem d_A_readsFile_21 : decode b_A_readsFile 21 = .ok (.iload_n 2, 1) := by decide +kernel
theorem d_A_readsFile_22 : decode b_A_readsFile 22 = .ok (.invokestatic 63, 3) := by decide +kernel
theorem d_A_readsFile_25 : decode b_A_readsFile 25 = .ok (.invokevirtual 67, 3) := by decide +kernel
theorem d_A_readsFile_28 : decode b_A_readsFile 28 = .ok (.ireturn, 1) := by decide +kernel
theorem d_A_readsPart_0 : decode b_A_readsPart 0 = .ok (.aload_n 0, 1) := by decide +kernel
theorem d_A_readsPart_1 : decode b_A_readsPart 1 = .ok (.iload_n 1, 1) := by decide +kernel
theorem d_A_readsPart_2 : decode b_A_readsPart 2 = .ok (.invokevirtual 59, 3) := by decide +kernel
theorem d_A_readsPart_5 : decode b_A_readsPart 5 = .ok (.astore 4, 2) := by decide +kernel
theorem d_A_readsPart_7 : decode b_A_readsPart 7 = .ok (.aload 4, 2) := by decide +kernel
theorem d_A_readsPart_9 : decode b_A_readsPart 9 = .ok (.ifnull 23, 3) := by decide +kernel
theorem d_A_readsPart_12 : decode b_A_readsPart 12 = .ok (.aload_n 0, 1) := by decide +kernel
theorem d_A_readsPart_13 : decode b_A_readsPart 13 = .ok (.iload_n 2, 1) := by decide +kernel
theorem d_A_readsPart_14 : decode b_A_readsPart 14 = .ok (.invokevirtual 59, 3) := by decide +kernel
theorem d_A_readsPart_17 : decode b_A_readsPart 17 = .ok (.ifnull 15, 3) := by decide +kernel
theorem d_A_readsPart_20 : decode b_A_readsPart 20 = .ok (.iload_n 3, 1) := by decide +kernel
theorem d_A_readsPart_21 : decode b_A_readsPart 21 = .ok (.invokestatic 71, 3) := by decide +kernel
theorem d_A_readsPart_24 : decode b_A_readsPart 24 = .ok (.ifCond .eq 8, 3) := by decide +kernel
theorem d_A_readsPart_27 : decode b_A_readsPart 27 = .ok (.iload_n 2, 1) := by decide +kernel
theorem d_A_readsPart_28 : decode b_A_readsPart 28 = .ok (.iload_n 1, 1) := by decide +kernel
theorem d_A_readsPart_29 : decode b_A_readsPart 29 = .ok (.if_icmp .lt 5, 3) := by decide +kernel
theorem d_A_readsPart_32 : decode b_A_readsPart 32 = .ok (.iconst 0, 1) := by decide +kernel
theorem d_A_readsPart_33 : decode b_A_readsPart 33 = .ok (.ireturn, 1) := by decide +kernel
theorem d_A_readsPart_34 : decode b_A_readsPart 34 = .ok (.aload 4, 2) := by decide +kernel
theorem d_A_readsPart_36 : decode b_A_readsPart 36 = .ok (.iload_n 2, 1) := by decide +kernel
theorem d_A_readsPart_37 : decode b_A_readsPart 37 = .ok (.iload_n 3, 1) := by decide +kernel
theorem d_A_readsPart_38 : decode b_A_readsPart 38 = .ok (.invokestatic 74, 3) := by decide +kernel
theorem d_A_readsPart_41 : decode b_A_readsPart 41 = .ok (.invokevirtual 67, 3) := by decide +kernel
theorem d_A_readsPart_44 : decode b_A_readsPart 44 = .ok (.ireturn, 1) := by decide +kernel
theorem d_A_force_0 : decode b_A_force 0 = .ok (.aload_n 0, 1) := by decide +kernel
theorem d_A_force_1 : decode b_A_force 1 = .ok (.iload_n 1, 1) := by decide +kernel
theorem d_A_force_2 : decode b_A_force 2 = .ok (.invokevirtual 59, 3) := by decide +kernel
theorem d_A_force_5 : decode b_A_force 5 = .ok (.astore_n 2, 1) := by decide +kernel
theorem d_A_force_6 : decode b_A_force 6 = .ok (.aload_n 2, 1) := by decide +kernel
theorem d_A_force_7 : decode b_A_force 7 = .ok (.ifnull 10, 3) := by decide +kernel
theorem d_A_force_10 : decode b_A_force 10 = .ok (.aload_n 2, 1) := by decide +kernel
theorem d_A_force_11 : decode b_A_force 11 = .ok (.getfield 78, 3) := by decide +kernel
theorem d_A_force_14 : decode b_A_force 14 = .ok (.ifCond .eq 5, 3) := by decide +kernel
theorem d_A_force_17 : decode b_A_force 17 = .ok (.iconst 0, 1) := by decide +kernel
theorem d_A_force_18 : decode b_A_force 18 = .ok (.ireturn, 1) := by decide +kernel
theorem d_A_force_19 : decode b_A_force 19 = .ok (.aload_n 2, 1) := by decide +kernel
theorem d_A_force_20 : decode b_A_force 20 = .ok (.iconst 1, 1) := by decide +kernel
theorem d_A_force_21 : decode b_A_force 21 = .ok (.putfield 78, 3) := by decide +kernel
theorem d_A_force_24 : decode b_A_force 24 = .ok (.iconst 1, 1) := by decide +kernel
theorem d_A_force_25 : decode b_A_force 25 = .ok (.ireturn, 1) := by decide +kernel
theorem d_A_build_0 : decode b_A_build 0 = .ok (.aload_n 0, 1) := by decide +kernel
theorem d_A_build_1 : decode b_A_build 1 = .ok (.invokevirtual 81, 3) := by decide +kernel
theorem d_A_build_4 : decode b_A_build 4 = .ok (.aload_n 0, 1) := by decide +kernel
theorem d_A_build_5 : decode b_A_build 5 = .ok (.iload_n 1, 1) := by decide +kernel
theorem d_A_build_6 : decode b_A_build 6 = .ok (.invokevirtual 84, 3) := by decide +kernel
theorem d_A_build_9 : decode b_A_build 9 = .ok (.iconst 0, 1) := by decide +kernel
theorem d_A_build_10 : decode b_A_build 10 = .ok (.istore_n 2, 1) := by decide +kernel
theorem d_A_build_11 : decode b_A_build 11 = .ok (.iconst 0, 1) := by decide +kernel
theorem d_A_build_12 : decode b_A_build 12 = .ok (.istore_n 3, 1) := by decide +kernel
theorem d_A_build_13 : decode b_A_build 13 = .ok (.iload_n 3, 1) := by decide +kernel
theorem d_A_build_14 : decode b_A_build 14 = .ok (.aload_n 0, 1) := by decide +kernel
theorem d_A_build_15 : decode b_A_build 15 = .ok (.getfield 25, 3) := by decide +kernel
theorem d_A_build_18 : decode b_A_build 18 = .ok (.if_icmp .ge 43, 3) := by decide +kernel
theorem d_A_build_21 : decode b_A_build 21 = .ok (.aload_n 0, 1) := by decide +kernel
theorem d_A_build_22 : decode b_A_build 22 = .ok (.getfield 21, 3) := by decide +kernel
theorem d_A_build_25 : decode b_A_build 25 = .ok (.iload_n 3, 1) := by decide +kernel
theorem d_A_build_26 : decode b_A_build 26 = .ok (.aaload, 1) := by decide +kernel
theorem d_A_build_27 : decode b_A_build 27 = .ok (.astore 4, 2) := by decide +kernel
theorem d_A_build_29 : decode b_A_build 29 = .ok (.aload 4, 2) := by decide +kernel
theorem d_A_build_31 : decode b_A_build 31 = .ok (.getfield 88, 3) := by decide +kernel
theorem d_A_build_34 : decode b_A_build 34 = .ok (.ifCond .eq 21, 3) := by decide +kernel
theorem d_A_build_37 : decode b_A_build 37 = .ok (.aload_n 0, 1) := by decide +kernel
theorem d_A_build_38 : decode b_A_build 38 = .ok (.aload 4, 2) := by decide +kernel
theorem d_A_build_40 : decode b_A_build 40 = .ok (.invokevirtual 91, 3) := by decide +kernel
theorem d_A_build_43 : decode b_A_build 43 = .ok (.aload 4, 2) := by decide +kernel
theorem d_A_build_45 : decode b_A_build 45 = .ok (.getfield 95, 3) := by decide +kernel
theorem d_A_build_48 : decode b_A_build 48 = .ok (.iconst (-1), 1) := by decide +kernel
theorem d_A_build_49 : decode b_A_build 49 = .ok (.if_icmp .eq 6, 3) := by decide +kernel
theorem d_A_build_52 : decode b_A_build 52 = .ok (.iinc 2 1, 3) := by decide +kernel
theorem d_A_build_55 : decode b_A_build 55 = .ok (.iinc 3 1, 3) := by decide +kernel
theorem d_A_build_58 : decode b_A_build 58 = .ok (.goto (-45), 3) := by decide +kernel
theorem d_A_build_61 : decode b_A_build 61 = .ok (.iload_n 2, 1) := by decide +kernel
theorem d_A_build_62 : decode b_A_build 62 = .ok (.ireturn, 1) := by decide +kernel
theorem d_A_state_0 : decode b_A_state 0 = .ok (.aload_n 0, 1) := by decide +kernel
theorem d_A_state_1 : decode b_A_state 1 = .ok (.iload_n 1, 1) := by decide +kernel
theorem d_A_state_2 : decode b_A_state 2 = .ok (.invokevirtual 59, 3) := by decide +kernel
theorem d_A_state_5 : decode b_A_state 5 = .ok (.astore_n 2, 1) := by decide +kernel
theorem d_A_state_6 : decode b_A_state 6 = .ok (.aload_n 2, 1) := by decide +kernel
theorem d_A_state_7 : decode b_A_state 7 = .ok (.ifnonnull 7, 3) := by decide +kernel
theorem d_A_state_10 : decode b_A_state 10 = .ok (.iconst 0, 1) := by decide +kernel
theorem d_A_state_11 : decode b_A_state 11 = .ok (.goto 7, 3) := by decide +kernel
theorem d_A_state_14 : decode b_A_state 14 = .ok (.aload_n 2, 1) := by decide +kernel
theorem d_A_state_15 : decode b_A_state 15 = .ok (.getfield 98, 3) := by decide +kernel
theorem d_A_state_18 : decode b_A_state 18 = .ok (.ireturn, 1) := by decide +kernel
theorem d_A_cause_0 : decode b_A_cause 0 = .ok (.aload_n 0, 1) := by decide +kernel
theorem d_A_cause_1 : decode b_A_cause 1 = .ok (.iload_n 1, 1) := by decide +kernel
theorem d_A_cause_2 : decode b_A_cause 2 = .ok (.invokevirtual 59, 3) := by decide +kernel
theorem d_A_cause_5 : decode b_A_cause 5 = .ok (.astore_n 2, 1) := by decide +kernel
theorem d_A_cause_6 : decode b_A_cause 6 = .ok (.aload_n 2, 1) := by decide +kernel
theorem d_A_cause_7 : decode b_A_cause 7 = .ok (.ifnonnull 7, 3) := by decide +kernel
theorem d_A_cause_10 : decode b_A_cause 10 = .ok (.iconst (-1), 1) := by decide +kernel
theorem d_A_cause_11 : decode b_A_cause 11 = .ok (.goto 7, 3) := by decide +kernel
theorem d_A_cause_14 : decode b_A_cause 14 = .ok (.aload_n 2, 1) := by decide +kernel
theorem d_A_cause_15 : decode b_A_cause 15 = .ok (.getfield 95, 3) := by decide +kernel
theorem d_A_cause_18 : decode b_A_cause 18 = .ok (.ireturn, 1) := by decide +kernel
theorem d_A_counted_0 : decode b_A_counted 0 = .ok (.iload_n 1, 1) := by decide +kernel
theorem d_A_counted_1 : decode b_A_counted 1 = .ok (.ifCond .lt 8, 3) := by decide +kernel
theorem d_A_counted_4 : decode b_A_counted 4 = .ok (.iload_n 1, 1) := by decide +kernel
theorem d_A_counted_5 : decode b_A_counted 5 = .ok (.iconst 5, 1) := by decide +kernel
theorem d_A_counted_6 : decode b_A_counted 6 = .ok (.if_icmp .lt 5, 3) := by decide +kernel
theorem d_A_counted_9 : decode b_A_counted 9 = .ok (.iconst (-1), 1) := by decide +kernel
theorem d_A_counted_10 : decode b_A_counted 10 = .ok (.ireturn, 1) := by decide +kernel
theorem d_A_counted_11 : decode b_A_counted 11 = .ok (.aload_n 0, 1) := by decide +kernel
theorem d_A_counted_12 : decode b_A_counted 12 = .ok (.getfield 28, 3) := by decide +kernel
theorem d_A_counted_15 : decode b_A_counted 15 = .ok (.iload_n 1, 1) := by decide +kernel
theorem d_A_counted_16 : decode b_A_counted 16 = .ok (.iaload, 1) := by decide +kernel
theorem d_A_counted_17 : decode b_A_counted 17 = .ok (.ireturn, 1) := by decide +kernel
theorem d_A_output_0 : decode b_A_output 0 = .ok (.aload_n 0, 1) := by decide +kernel
theorem d_A_output_1 : decode b_A_output 1 = .ok (.iload_n 1, 1) := by decide +kernel
theorem d_A_output_2 : decode b_A_output 2 = .ok (.invokevirtual 59, 3) := by decide +kernel
theorem d_A_output_5 : decode b_A_output 5 = .ok (.astore_n 3, 1) := by decide +kernel
theorem d_A_output_6 : decode b_A_output 6 = .ok (.aload_n 3, 1) := by decide +kernel
theorem d_A_output_7 : decode b_A_output 7 = .ok (.ifnull 10, 3) := by decide +kernel
theorem d_A_output_10 : decode b_A_output 10 = .ok (.iload_n 2, 1) := by decide +kernel
theorem d_A_output_11 : decode b_A_output 11 = .ok (.invokestatic 71, 3) := by decide +kernel
theorem d_A_output_14 : decode b_A_output 14 = .ok (.ifCond .ne 13, 3) := by decide +kernel
theorem d_A_output_17 : decode b_A_output 17 = .ok (.new 101, 3) := by decide +kernel
theorem d_A_output_20 : decode b_A_output 20 = .ok (.dup, 1) := by decide +kernel
theorem d_A_output_21 : decode b_A_output 21 = .ok (.ldc 103, 2) := by decide +kernel
theorem d_A_output_23 : decode b_A_output 23 = .ok (.invokespecial 105, 3) := by decide +kernel
theorem d_A_output_26 : decode b_A_output 26 = .ok (.athrow, 1) := by decide +kernel
theorem d_A_output_27 : decode b_A_output 27 = .ok (.aload_n 3, 1) := by decide +kernel
theorem d_A_output_28 : decode b_A_output 28 = .ok (.iconst 0, 1) := by decide +kernel
theorem d_A_output_29 : decode b_A_output 29 = .ok (.invokevirtual 108, 3) := by decide +kernel
theorem d_A_output_32 : decode b_A_output 32 = .ok (.astore 4, 2) := by decide +kernel
theorem d_A_output_34 : decode b_A_output 34 = .ok (.aload 4, 2) := by decide +kernel
theorem d_A_output_36 : decode b_A_output 36 = .ok (.ifnull 11, 3) := by decide +kernel
theorem d_A_output_39 : decode b_A_output 39 = .ok (.aload 4, 2) := by decide +kernel
theorem d_A_output_41 : decode b_A_output 41 = .ok (.invokevirtual 112, 3) := by decide +kernel
theorem d_A_output_44 : decode b_A_output 44 = .ok (.ifCond .eq 13, 3) := by decide +kernel
theorem d_A_output_47 : decode b_A_output 47 = .ok (.new 118, 3) := by decide +kernel
theorem d_A_output_50 : decode b_A_output 50 = .ok (.dup, 1) := by decide +kernel
theorem d_A_output_51 : decode b_A_output 51 = .ok (.ldc 120, 2) := by decide +kernel
theorem d_A_output_53 : decode b_A_output 53 = .ok (.invokespecial 122, 3) := by decide +kernel
theorem d_A_output_56 : decode b_A_output 56 = .ok (.athrow, 1) := by decide +kernel
theorem d_A_output_57 : decode b_A_output 57 = .ok (.aload 4, 2) := by decide +kernel
theorem d_A_output_59 : decode b_A_output 59 = .ok (.iload_n 2, 1) := by decide +kernel
theorem d_A_output_60 : decode b_A_output 60 = .ok (.invokevirtual 123, 3) := by decide +kernel
theorem d_A_output_63 : decode b_A_output 63 = .ok (.lreturn, 1) := by decide +kernel
theorem d_A_records_0 : decode b_A_records 0 = .ok (.aload_n 0, 1) := by decide +kernel
theorem d_A_records_1 : decode b_A_records 1 = .ok (.iload_n 1, 1) := by decide +kernel
theorem d_A_records_2 : decode b_A_records 2 = .ok (.invokevirtual 59, 3) := by decide +kernel
theorem d_A_records_5 : decode b_A_records 5 = .ok (.astore_n 2, 1) := by decide +kernel
theorem d_A_records_6 : decode b_A_records 6 = .ok (.aload_n 2, 1) := by decide +kernel
theorem d_A_records_7 : decode b_A_records 7 = .ok (.ifnonnull 7, 3) := by decide +kernel
theorem d_A_records_10 : decode b_A_records 10 = .ok (.iconst 0, 1) := by decide +kernel
theorem d_A_records_11 : decode b_A_records 11 = .ok (.goto 7, 3) := by decide +kernel
theorem d_A_records_14 : decode b_A_records 14 = .ok (.aload_n 2, 1) := by decide +kernel
theorem d_A_records_15 : decode b_A_records 15 = .ok (.getfield 127, 3) := by decide +kernel
theorem d_A_records_18 : decode b_A_records 18 = .ok (.ireturn, 1) := by decide +kernel
theorem d_A_record_0 : decode b_A_record 0 = .ok (.aload_n 0, 1) := by decide +kernel
theorem d_A_record_1 : decode b_A_record 1 = .ok (.iload_n 1, 1) := by decide +kernel
theorem d_A_record_2 : decode b_A_record 2 = .ok (.invokevirtual 59, 3) := by decide +kernel
theorem d_A_record_5 : decode b_A_record 5 = .ok (.astore 4, 2) := by decide +kernel
theorem d_A_record_7 : decode b_A_record 7 = .ok (.aload 4, 2) := by decide +kernel
theorem d_A_record_9 : decode b_A_record 9 = .ok (.ifnull 16, 3) := by decide +kernel
theorem d_A_record_12 : decode b_A_record 12 = .ok (.iload_n 3, 1) := by decide +kernel
theorem d_A_record_13 : decode b_A_record 13 = .ok (.ifCond .lt 12, 3) := by decide +kernel
theorem d_A_record_16 : decode b_A_record 16 = .ok (.iload_n 3, 1) := by decide +kernel
theorem d_A_record_17 : decode b_A_record 17 = .ok (.aload 4, 2) := by decide +kernel
theorem d_A_record_19 : decode b_A_record 19 = .ok (.getfield 130, 3) := by decide +kernel
theorem d_A_record_22 : decode b_A_record 22 = .ok (.if_icmp .lt 5, 3) := by decide +kernel
theorem d_A_record_25 : decode b_A_record 25 = .ok (.lconst 0, 1) := by decide +kernel
theorem d_A_record_26 : decode b_A_record 26 = .ok (.lreturn, 1) := by decide +kernel
theorem d_A_record_27 : decode b_A_record 27 = .ok (.aload 4, 2) := by decide +kernel
theorem d_A_record_29 : decode b_A_record 29 = .ok (.iload_n 2, 1) := by decide +kernel
theorem d_A_record_30 : decode b_A_record 30 = .ok (.invokevirtual 108, 3) := by decide +kernel
theorem d_A_record_33 : decode b_A_record 33 = .ok (.astore 5, 2) := by decide +kernel
theorem d_A_record_35 : decode b_A_record 35 = .ok (.aload 5, 2) := by decide +kernel
theorem d_A_record_37 : decode b_A_record 37 = .ok (.ifnonnull 7, 3) := by decide +kernel
theorem d_A_record_40 : decode b_A_record 40 = .ok (.lconst 0, 1) := by decide +kernel
theorem d_A_record_41 : decode b_A_record 41 = .ok (.goto 10, 3) := by decide +kernel
theorem d_A_record_44 : decode b_A_record 44 = .ok (.aload 5, 2) := by decide +kernel
theorem d_A_record_46 : decode b_A_record 46 = .ok (.getfield 133, 3) := by decide +kernel
theorem d_A_record_49 : decode b_A_record 49 = .ok (.iload_n 3, 1) := by decide +kernel
theorem d_A_record_50 : decode b_A_record 50 = .ok (.laload, 1) := by decide +kernel
theorem d_A_record_51 : decode b_A_record 51 = .ok (.lreturn, 1) := by decide +kernel
theorem d_A_failed_0 : decode b_A_failed 0 = .ok (.aload_n 0, 1) := by decide +kernel
theorem d_A_failed_1 : decode b_A_failed 1 = .ok (.iload_n 1, 1) := by decide +kernel
theorem d_A_failed_2 : decode b_A_failed 2 = .ok (.invokevirtual 59, 3) := by decide +kernel
theorem d_A_failed_5 : decode b_A_failed 5 = .ok (.astore_n 3, 1) := by decide +kernel
theorem d_A_failed_6 : decode b_A_failed 6 = .ok (.aload_n 3, 1) := by decide +kernel
theorem d_A_failed_7 : decode b_A_failed 7 = .ok (.ifnonnull 5, 3) := by decide +kernel
theorem d_A_failed_10 : decode b_A_failed 10 = .ok (.iconst (-1), 1) := by decide +kernel
theorem d_A_failed_11 : decode b_A_failed 11 = .ok (.ireturn, 1) := by decide +kernel
theorem d_A_failed_12 : decode b_A_failed 12 = .ok (.aload_n 3, 1) := by decide +kernel
theorem d_A_failed_13 : decode b_A_failed 13 = .ok (.iload_n 2, 1) := by decide +kernel
theorem d_A_failed_14 : decode b_A_failed 14 = .ok (.invokevirtual 108, 3) := by decide +kernel
theorem d_A_failed_17 : decode b_A_failed 17 = .ok (.astore 4, 2) := by decide +kernel
theorem d_A_failed_19 : decode b_A_failed 19 = .ok (.aload 4, 2) := by decide +kernel
theorem d_A_failed_21 : decode b_A_failed 21 = .ok (.ifnonnull 7, 3) := by decide +kernel
theorem d_A_failed_24 : decode b_A_failed 24 = .ok (.iconst (-1), 1) := by decide +kernel
theorem d_A_failed_25 : decode b_A_failed 25 = .ok (.goto 8, 3) := by decide +kernel
theorem d_A_failed_28 : decode b_A_failed 28 = .ok (.aload 4, 2) := by decide +kernel
theorem d_A_failed_30 : decode b_A_failed 30 = .ok (.getfield 137, 3) := by decide +kernel
theorem d_A_failed_33 : decode b_A_failed 33 = .ok (.ireturn, 1) := by decide +kernel
theorem d_A_total_0 : decode b_A_total 0 = .ok (.iload_n 1, 1) := by decide +kernel
theorem d_A_total_1 : decode b_A_total 1 = .ok (.ifCond .lt 8, 3) := by decide +kernel
theorem d_A_total_4 : decode b_A_total 4 = .ok (.iload_n 1, 1) := by decide +kernel
theorem d_A_total_5 : decode b_A_total 5 = .ok (.iconst 4, 1) := by decide +kernel
theorem d_A_total_6 : decode b_A_total 6 = .ok (.if_icmp .lt 5, 3) := by decide +kernel
theorem d_A_total_9 : decode b_A_total 9 = .ok (.iconst (-1), 1) := by decide +kernel
theorem d_A_total_10 : decode b_A_total 10 = .ok (.ireturn, 1) := by decide +kernel
theorem d_A_total_11 : decode b_A_total 11 = .ok (.aload_n 0, 1) := by decide +kernel
theorem d_A_total_12 : decode b_A_total 12 = .ok (.getfield 32, 3) := by decide +kernel
theorem d_A_total_15 : decode b_A_total 15 = .ok (.iload_n 1, 1) := by decide +kernel
theorem d_A_total_16 : decode b_A_total 16 = .ok (.iaload, 1) := by decide +kernel
theorem d_A_total_17 : decode b_A_total 17 = .ok (.ireturn, 1) := by decide +kernel
theorem d_A_share_0 : decode b_A_share 0 = .ok (.iconst 0, 1) := by decide +kernel
theorem d_A_share_1 : decode b_A_share 1 = .ok (.istore_n 1, 1) := by decide +kernel
theorem d_A_share_2 : decode b_A_share 2 = .ok (.iconst 0, 1) := by decide +kernel
theorem d_A_share_3 : decode b_A_share 3 = .ok (.istore_n 2, 1) := by decide +kernel
theorem d_A_share_4 : decode b_A_share 4 = .ok (.iload_n 2, 1) := by decide +kernel
theorem d_A_share_5 : decode b_A_share 5 = .ok (.iconst 4, 1) := by decide +kernel
theorem d_A_share_6 : decode b_A_share 6 = .ok (.if_icmp .ge 18, 3) := by decide +kernel
theorem d_A_share_9 : decode b_A_share 9 = .ok (.iload_n 1, 1) := by decide +kernel
theorem d_A_share_10 : decode b_A_share 10 = .ok (.aload_n 0, 1) := by decide +kernel
theorem d_A_share_11 : decode b_A_share 11 = .ok (.getfield 32, 3) := by decide +kernel
theorem d_A_share_14 : decode b_A_share 14 = .ok (.iload_n 2, 1) := by decide +kernel
theorem d_A_share_15 : decode b_A_share 15 = .ok (.iaload, 1) := by decide +kernel
theorem d_A_share_16 : decode b_A_share 16 = .ok (.iadd, 1) := by decide +kernel
theorem d_A_share_17 : decode b_A_share 17 = .ok (.istore_n 1, 1) := by decide +kernel
theorem d_A_share_18 : decode b_A_share 18 = .ok (.iinc 2 1, 3) := by decide +kernel
theorem d_A_share_21 : decode b_A_share 21 = .ok (.goto (-17), 3) := by decide +kernel
theorem d_A_share_24 : decode b_A_share 24 = .ok (.iload_n 1, 1) := by decide +kernel
theorem d_A_share_25 : decode b_A_share 25 = .ok (.ifCond .ne 13, 3) := by decide +kernel
theorem d_A_share_28 : decode b_A_share 28 = .ok (.new 140, 3) := by decide +kernel
theorem d_A_share_31 : decode b_A_share 31 = .ok (.dup, 1) := by decide +kernel
theorem d_A_share_32 : decode b_A_share 32 = .ok (.ldc 142, 2) := by decide +kernel
theorem d_A_share_34 : decode b_A_share 34 = .ok (.invokespecial 144, 3) := by decide +kernel
theorem d_A_share_37 : decode b_A_share 37 = .ok (.athrow, 1) := by decide +kernel
theorem d_A_share_38 : decode b_A_share 38 = .ok (.sipush 1000, 3) := by decide +kernel
theorem d_A_share_41 : decode b_A_share 41 = .ok (.aload_n 0, 1) := by decide +kernel
theorem d_A_share_42 : decode b_A_share 42 = .ok (.getfield 35, 3) := by decide +kernel
theorem d_A_share_45 : decode b_A_share 45 = .ok (.imul, 1) := by decide +kernel
theorem d_A_share_46 : decode b_A_share 46 = .ok (.iload_n 1, 1) := by decide +kernel
theorem d_A_share_47 : decode b_A_share 47 = .ok (.idiv, 1) := by decide +kernel
theorem d_A_share_48 : decode b_A_share 48 = .ok (.ireturn, 1) := by decide +kernel
theorem d_A_sourceAt_0 : decode b_A_sourceAt 0 = .ok (.iload_n 1, 1) := by decide +kernel
theorem d_A_sourceAt_1 : decode b_A_sourceAt 1 = .ok (.ifCond .lt 20, 3) := by decide +kernel
theorem d_A_sourceAt_4 : decode b_A_sourceAt 4 = .ok (.iload_n 1, 1) := by decide +kernel
theorem d_A_sourceAt_5 : decode b_A_sourceAt 5 = .ok (.aload_n 0, 1) := by decide +kernel
theorem d_A_sourceAt_6 : decode b_A_sourceAt 6 = .ok (.getfield 15, 3) := by decide +kernel
theorem d_A_sourceAt_9 : decode b_A_sourceAt 9 = .ok (.if_icmp .ge 12, 3) := by decide +kernel
theorem d_A_sourceAt_12 : decode b_A_sourceAt 12 = .ok (.aload_n 0, 1) := by decide +kernel
theorem d_A_sourceAt_13 : decode b_A_sourceAt 13 = .ok (.getfield 11, 3) := by decide +kernel
theorem d_A_sourceAt_16 : decode b_A_sourceAt 16 = .ok (.iload_n 1, 1) := by decide +kernel
theorem d_A_sourceAt_17 : decode b_A_sourceAt 17 = .ok (.aaload, 1) := by decide +kernel
theorem d_A_sourceAt_18 : decode b_A_sourceAt 18 = .ok (.goto 4, 3) := by decide +kernel
theorem d_A_sourceAt_21 : decode b_A_sourceAt 21 = .ok (.aconst_null, 1) := by decide +kernel
theorem d_A_sourceAt_22 : decode b_A_sourceAt 22 = .ok (.areturn, 1) := by decide +kernel
theorem d_A_stepAt_0 : decode b_A_stepAt 0 = .ok (.iload_n 1, 1) := by decide +kernel
theorem d_A_stepAt_1 : decode b_A_stepAt 1 = .ok (.ifCond .lt 20, 3) := by decide +kernel
theorem d_A_stepAt_4 : decode b_A_stepAt 4 = .ok (.iload_n 1, 1) := by decide +kernel
theorem d_A_stepAt_5 : decode b_A_stepAt 5 = .ok (.aload_n 0, 1) := by decide +kernel
theorem d_A_stepAt_6 : decode b_A_stepAt 6 = .ok (.getfield 25, 3) := by decide +kernel
theorem d_A_stepAt_9 : decode b_A_stepAt 9 = .ok (.if_icmp .ge 12, 3) := by decide +kernel
theorem d_A_stepAt_12 : decode b_A_stepAt 12 = .ok (.aload_n 0, 1) := by decide +kernel
theorem d_A_stepAt_13 : decode b_A_stepAt 13 = .ok (.getfield 21, 3) := by decide +kernel
theorem d_A_stepAt_16 : decode b_A_stepAt 16 = .ok (.iload_n 1, 1) := by decide +kernel
theorem d_A_stepAt_17 : decode b_A_stepAt 17 = .ok (.aaload, 1) := by decide +kernel
theorem d_A_stepAt_18 : decode b_A_stepAt 18 = .ok (.goto 4, 3) := by decide +kernel
theorem d_A_stepAt_21 : decode b_A_stepAt 21 = .ok (.aconst_null, 1) := by decide +kernel
theorem d_A_stepAt_22 : decode b_A_stepAt 22 = .ok (.areturn, 1) := by decide +kernel
theorem d_A_isPart_0 : decode b_A_isPart 0 = .ok (.iload_n 0, 1) := by decide +kernel
theorem d_A_isPart_1 : decode b_A_isPart 1 = .ok (.ifCond .eq 8, 3) := by decide +kernel
theorem d_A_isPart_4 : decode b_A_isPart 4 = .ok (.iload_n 0, 1) := by decide +kernel
theorem d_A_isPart_5 : decode b_A_isPart 5 = .ok (.iconst 1, 1) := by decide +kernel
theorem d_A_isPart_6 : decode b_A_isPart 6 = .ok (.if_icmp .ne 7, 3) := by decide +kernel
theorem d_A_isPart_9 : decode b_A_isPart 9 = .ok (.iconst 1, 1) := by decide +kernel
theorem d_A_isPart_10 : decode b_A_isPart 10 = .ok (.goto 4, 3) := by decide +kernel
theorem d_A_isPart_13 : decode b_A_isPart 13 = .ok (.iconst 0, 1) := by decide +kernel
theorem d_A_isPart_14 : decode b_A_isPart 14 = .ok (.ireturn, 1) := by decide +kernel
theorem d_A_codeOfFile_0 : decode b_A_codeOfFile 0 = .ok (.iload_n 0, 1) := by decide +kernel
theorem d_A_codeOfFile_1 : decode b_A_codeOfFile 1 = .ok (.ireturn, 1) := by decide +kernel
theorem d_A_codeOfPart_0 : decode b_A_codeOfPart 0 = .ok (.bipush 16, 2) := by decide +kernel
theorem d_A_codeOfPart_2 : decode b_A_codeOfPart 2 = .ok (.iconst 2, 1) := by decide +kernel
theorem d_A_codeOfPart_3 : decode b_A_codeOfPart 3 = .ok (.iload_n 0, 1) := by decide +kernel
theorem d_A_codeOfPart_4 : decode b_A_codeOfPart 4 = .ok (.imul, 1) := by decide +kernel
theorem d_A_codeOfPart_5 : decode b_A_codeOfPart 5 = .ok (.iadd, 1) := by decide +kernel
theorem d_A_codeOfPart_6 : decode b_A_codeOfPart 6 = .ok (.iload_n 1, 1) := by decide +kernel
theorem d_A_codeOfPart_7 : decode b_A_codeOfPart 7 = .ok (.iadd, 1) := by decide +kernel
theorem d_A_codeOfPart_8 : decode b_A_codeOfPart 8 = .ok (.ireturn, 1) := by decide +kernel
theorem d_A_isFileCode_0 : decode b_A_isFileCode 0 = .ok (.iload_n 0, 1) := by decide +kernel
theorem d_A_isFileCode_1 : decode b_A_isFileCode 1 = .ok (.bipush 16, 2) := by decide +kernel
theorem d_A_isFileCode_3 : decode b_A_isFileCode 3 = .ok (.if_icmp .ge 7, 3) := by decide +kernel
theorem d_A_isFileCode_6 : decode b_A_isFileCode 6 = .ok (.iconst 1, 1) := by decide +kernel
theorem d_A_isFileCode_7 : decode b_A_isFileCode 7 = .ok (.goto 4, 3) := by decide +kernel
theorem d_A_isFileCode_10 : decode b_A_isFileCode 10 = .ok (.iconst 0, 1) := by decide +kernel
theorem d_A_isFileCode_11 : decode b_A_isFileCode 11 = .ok (.ireturn, 1) := by decide +kernel
theorem d_A_stepOfCode_0 : decode b_A_stepOfCode 0 = .ok (.aload_n 0, 1) := by decide +kernel
theorem d_A_stepOfCode_1 : decode b_A_stepOfCode 1 = .ok (.iload_n 1, 1) := by decide +kernel
theorem d_A_stepOfCode_2 : decode b_A_stepOfCode 2 = .ok (.bipush 16, 2) := by decide +kernel
theorem d_A_stepOfCode_4 : decode b_A_stepOfCode 4 = .ok (.isub, 1) := by decide +kernel
theorem d_A_stepOfCode_5 : decode b_A_stepOfCode 5 = .ok (.iconst 2, 1) := by decide +kernel
theorem d_A_stepOfCode_6 : decode b_A_stepOfCode 6 = .ok (.idiv, 1) := by decide +kernel
theorem d_A_stepOfCode_7 : decode b_A_stepOfCode 7 = .ok (.invokevirtual 59, 3) := by decide +kernel
theorem d_A_stepOfCode_10 : decode b_A_stepOfCode 10 = .ok (.areturn, 1) := by decide +kernel
theorem d_A_partOfCode_0 : decode b_A_partOfCode 0 = .ok (.iload_n 0, 1) := by decide +kernel
theorem d_A_partOfCode_1 : decode b_A_partOfCode 1 = .ok (.bipush 16, 2) := by decide +kernel
theorem d_A_partOfCode_3 : decode b_A_partOfCode 3 = .ok (.isub, 1) := by decide +kernel
theorem d_A_partOfCode_4 : decode b_A_partOfCode 4 = .ok (.iconst 2, 1) := by decide +kernel
theorem d_A_partOfCode_5 : decode b_A_partOfCode 5 = .ok (.irem, 1) := by decide +kernel
theorem d_A_partOfCode_6 : decode b_A_partOfCode 6 = .ok (.ireturn, 1) := by decide +kernel
theorem d_A_forgetLatestBuild_0 : decode b_A_forgetLatestBuild 0 = .ok (.iconst 0, 1) := by decide +kernel
theorem d_A_forgetLatestBuild_1 : decode b_A_forgetLatestBuild 1 = .ok (.istore_n 1, 1) := by decide +kernel
theorem d_A_forgetLatestBuild_2 : decode b_A_forgetLatestBuild 2 = .ok (.iload_n 1, 1) := by decide +kernel
theorem d_A_forgetLatestBuild_3 : decode b_A_forgetLatestBuild 3 = .ok (.aload_n 0, 1) := by decide +kernel
theorem d_A_forgetLatestBuild_4 : decode b_A_forgetLatestBuild 4 = .ok (.getfield 25, 3) := by decide +kernel
theorem d_A_forgetLatestBuild_7 : decode b_A_forgetLatestBuild 7 = .ok (.if_icmp .ge 18, 3) := by decide +kernel
theorem d_A_forgetLatestBuild_10 : decode b_A_forgetLatestBuild 10 = .ok (.aload_n 0, 1) := by decide +kernel
theorem d_A_forgetLatestBuild_11 : decode b_A_forgetLatestBuild 11 = .ok (.getfield 21, 3) := by decide +kernel
theorem d_A_forgetLatestBuild_14 : decode b_A_forgetLatestBuild 14 = .ok (.iload_n 1, 1) := by decide +kernel
theorem d_A_forgetLatestBuild_15 : decode b_A_forgetLatestBuild 15 = .ok (.aaload, 1) := by decide +kernel
theorem d_A_forgetLatestBuild_16 : decode b_A_forgetLatestBuild 16 = .ok (.invokevirtual 145, 3) := by decide +kernel
theorem d_A_forgetLatestBuild_19 : decode b_A_forgetLatestBuild 19 = .ok (.iinc 1 1, 3) := by decide +kernel
theorem d_A_forgetLatestBuild_22 : decode b_A_forgetLatestBuild 22 = .ok (.goto (-20), 3) := by decide +kernel
theorem d_A_forgetLatestBuild_25 : decode b_A_forgetLatestBuild 25 = .ok (.iconst 0, 1) := by decide +kernel
theorem d_A_forgetLatestBuild_26 : decode b_A_forgetLatestBuild 26 = .ok (.istore_n 1, 1) := by decide +kernel
theorem d_A_forgetLatestBuild_27 : decode b_A_forgetLatestBuild 27 = .ok (.iload_n 1, 1) := by decide +kernel
theorem d_A_forgetLatestBuild_28 : decode b_A_forgetLatestBuild 28 = .ok (.iconst 5, 1) := by decide +kernel
theorem d_A_forgetLatestBuild_29 : decode b_A_forgetLatestBuild 29 = .ok (.if_icmp .ge 16, 3) := by decide +kernel
theorem d_A_forgetLatestBuild_32 : decode b_A_forgetLatestBuild 32 = .ok (.aload_n 0, 1) := by decide +kernel
theorem d_A_forgetLatestBuild_33 : decode b_A_forgetLatestBuild 33 = .ok (.getfield 28, 3) := by decide +kernel
theorem d_A_forgetLatestBuild_36 : decode b_A_forgetLatestBuild 36 = .ok (.iload_n 1, 1) := by decide +kernel
theorem d_A_forgetLatestBuild_37 : decode b_A_forgetLatestBuild 37 = .ok (.iconst 0, 1) := by decide +kernel
theorem d_A_forgetLatestBuild_38 : decode b_A_forgetLatestBuild 38 = .ok (.iastore, 1) := by decide +kernel
theorem d_A_forgetLatestBuild_39 : decode b_A_forgetLatestBuild 39 = .ok (.iinc 1 1, 3) := by decide +kernel
theorem d_A_forgetLatestBuild_42 : decode b_A_forgetLatestBuild 42 = .ok (.goto (-15), 3) := by decide +kernel
theorem d_A_forgetLatestBuild_45 : decode b_A_forgetLatestBuild 45 = .ok (.return_, 1) := by decide +kernel
theorem d_A_takeNeeded_0 : decode b_A_takeNeeded 0 = .ok (.aload_n 0, 1) := by decide +kernel
theorem d_A_takeNeeded_1 : decode b_A_takeNeeded 1 = .ok (.getfield 25, 3) := by decide +kernel
theorem d_A_takeNeeded_4 : decode b_A_takeNeeded 4 = .ok (.iconst 1, 1) := by decide +kernel
theorem d_A_takeNeeded_5 : decode b_A_takeNeeded 5 = .ok (.isub, 1) := by decide +kernel
theorem d_A_takeNeeded_6 : decode b_A_takeNeeded 6 = .ok (.istore_n 2, 1) := by decide +kernel
theorem d_A_takeNeeded_7 : decode b_A_takeNeeded 7 = .ok (.iload_n 2, 1) := by decide +kernel
theorem d_A_takeNeeded_8 : decode b_A_takeNeeded 8 = .ok (.ifCond .lt 41, 3) := by decide +kernel
theorem d_A_takeNeeded_11 : decode b_A_takeNeeded 11 = .ok (.aload_n 0, 1) := by decide +kernel
theorem d_A_takeNeeded_12 : decode b_A_takeNeeded 12 = .ok (.getfield 21, 3) := by decide +kernel
theorem d_A_takeNeeded_15 : decode b_A_takeNeeded 15 = .ok (.iload_n 2, 1) := by decide +kernel
theorem d_A_takeNeeded_16 : decode b_A_takeNeeded 16 = .ok (.aaload, 1) := by decide +kernel
theorem d_A_takeNeeded_17 : decode b_A_takeNeeded 17 = .ok (.astore_n 3, 1) := by decide +kernel
theorem d_A_takeNeeded_18 : decode b_A_takeNeeded 18 = .ok (.iload_n 1, 1) := by decide +kernel
theorem d_A_takeNeeded_19 : decode b_A_takeNeeded 19 = .ok (.iload_n 2, 1) := by decide +kernel
theorem d_A_takeNeeded_20 : decode b_A_takeNeeded 20 = .ok (.iushr, 1) := by decide +kernel
theorem d_A_takeNeeded_21 : decode b_A_takeNeeded 21 = .ok (.iconst 1, 1) := by decide +kernel
theorem d_A_takeNeeded_22 : decode b_A_takeNeeded 22 = .ok (.iand, 1) := by decide +kernel
theorem d_A_takeNeeded_23 : decode b_A_takeNeeded 23 = .ok (.ifCond .eq 8, 3) := by decide +kernel
theorem d_A_takeNeeded_26 : decode b_A_takeNeeded 26 = .ok (.aload_n 3, 1) := by decide +kernel
theorem d_A_takeNeeded_27 : decode b_A_takeNeeded 27 = .ok (.iconst 1, 1) := by decide +kernel
theorem d_A_takeNeeded_28 : decode b_A_takeNeeded 28 = .ok (.putfield 88, 3) := by decide +kernel
theorem d_A_takeNeeded_31 : decode b_A_takeNeeded 31 = .ok (.aload_n 3, 1) := by decide +kernel
theorem d_A_takeNeeded_32 : decode b_A_takeNeeded 32 = .ok (.getfield 88, 3) := by decide +kernel
theorem d_A_takeNeeded_35 : decode b_A_takeNeeded 35 = .ok (.ifCond .eq 8, 3) := by decide +kernel
theorem d_A_takeNeeded_38 : decode b_A_takeNeeded 38 = .ok (.aload_n 0, 1) := by decide +kernel
theorem d_A_takeNeeded_39 : decode b_A_takeNeeded 39 = .ok (.aload_n 3, 1) := by decide +kernel
theorem d_A_takeNeeded_40 : decode b_A_takeNeeded 40 = .ok (.invokevirtual 146, 3) := by decide +kernel
theorem d_A_takeNeeded_43 : decode b_A_takeNeeded 43 = .ok (.iinc 2 (-1), 3) := by decide +kernel
theorem d_A_takeNeeded_46 : decode b_A_takeNeeded 46 = .ok (.goto (-39), 3) := by decide +kernel
theorem d_A_takeNeeded_49 : decode b_A_takeNeeded 49 = .ok (.return_, 1) := by decide +kernel
theorem d_A_takeStepsReadBy_0 : decode b_A_takeStepsReadBy 0 = .ok (.iconst 0, 1) := by decide +kernel
theorem d_A_takeStepsReadBy_1 : decode b_A_takeStepsReadBy 1 = .ok (.istore_n 2, 1) := by decide +kernel
theorem d_A_takeStepsReadBy_2 : decode b_A_takeStepsReadBy 2 = .ok (.iload_n 2, 1) := by decide +kernel
theorem d_A_takeStepsReadBy_3 : decode b_A_takeStepsReadBy 3 = .ok (.aload_n 1, 1) := by decide +kernel
theorem d_A_takeStepsReadBy_4 : decode b_A_takeStepsReadBy 4 = .ok (.getfield 130, 3) := by decide +kernel
theorem d_A_takeStepsReadBy_7 : decode b_A_takeStepsReadBy 7 = .ok (.if_icmp .ge 41, 3) := by decide +kernel
theorem d_A_takeStepsReadBy_10 : decode b_A_takeStepsReadBy 10 = .ok (.aload_n 1, 1) := by decide +kernel
theorem d_A_takeStepsReadBy_11 : decode b_A_takeStepsReadBy 11 = .ok (.getfield 149, 3) := by decide +kernel
theorem d_A_takeStepsReadBy_14 : decode b_A_takeStepsReadBy 14 = .ok (.iload_n 2, 1) := by decide +kernel
theorem d_A_takeStepsReadBy_15 : decode b_A_takeStepsReadBy 15 = .ok (.iaload, 1) := by decide +kernel
theorem d_A_takeStepsReadBy_16 : decode b_A_takeStepsReadBy 16 = .ok (.invokestatic 152, 3) := by decide +kernel
theorem d_A_takeStepsReadBy_19 : decode b_A_takeStepsReadBy 19 = .ok (.ifCond .ne 23, 3) := by decide +kernel
theorem d_A_takeStepsReadBy_22 : decode b_A_takeStepsReadBy 22 = .ok (.aload_n 0, 1) := by decide +kernel
theorem d_A_takeStepsReadBy_23 : decode b_A_takeStepsReadBy 23 = .ok (.aload_n 1, 1) := by decide +kernel
theorem d_A_takeStepsReadBy_24 : decode b_A_takeStepsReadBy 24 = .ok (.getfield 149, 3) := by decide +kernel
theorem d_A_takeStepsReadBy_27 : decode b_A_takeStepsReadBy 27 = .ok (.iload_n 2, 1) := by decide +kernel
theorem d_A_takeStepsReadBy_28 : decode b_A_takeStepsReadBy 28 = .ok (.iaload, 1) := by decide +kernel
theorem d_A_takeStepsReadBy_29 : decode b_A_takeStepsReadBy 29 = .ok (.invokevirtual 155, 3) := by decide +kernel
theorem d_A_takeStepsReadBy_32 : decode b_A_takeStepsReadBy 32 = .ok (.astore_n 3, 1) := by decide +kernel
theorem d_A_takeStepsReadBy_33 : decode b_A_takeStepsReadBy 33 = .ok (.aload_n 3, 1) := by decide +kernel
theorem d_A_takeStepsReadBy_34 : decode b_A_takeStepsReadBy 34 = .ok (.ifnull 8, 3) := by decide +kernel
theorem d_A_takeStepsReadBy_37 : decode b_A_takeStepsReadBy 37 = .ok (.aload_n 3, 1) := by decide +kernel
theorem d_A_takeStepsReadBy_38 : decode b_A_takeStepsReadBy 38 = .ok (.iconst 1, 1) := by decide +kernel
theorem d_A_takeStepsReadBy_39 : decode b_A_takeStepsReadBy 39 = .ok (.putfield 88, 3) := by decide +kernel
theorem d_A_takeStepsReadBy_42 : decode b_A_takeStepsReadBy 42 = .ok (.iinc 2 1, 3) := by decide +kernel
theorem d_A_takeStepsReadBy_45 : decode b_A_takeStepsReadBy 45 = .ok (.goto (-43), 3) := by decide +kernel
theorem d_A_takeStepsReadBy_48 : decode b_A_takeStepsReadBy 48 = .ok (.return_, 1) := by decide +kernel
theorem d_A_buildOne_0 : decode b_A_buildOne 0 = .ok (.aload_n 1, 1) := by decide +kernel
theorem d_A_buildOne_1 : decode b_A_buildOne 1 = .ok (.aload_n 0, 1) := by decide +kernel
theorem d_A_buildOne_2 : decode b_A_buildOne 2 = .ok (.aload_n 1, 1) := by decide +kernel
theorem d_A_buildOne_3 : decode b_A_buildOne 3 = .ok (.invokevirtual 158, 3) := by decide +kernel
theorem d_A_buildOne_6 : decode b_A_buildOne 6 = .ok (.putfield 162, 3) := by decide +kernel
theorem d_A_buildOne_9 : decode b_A_buildOne 9 = .ok (.aload_n 1, 1) := by decide +kernel
theorem d_A_buildOne_10 : decode b_A_buildOne 10 = .ok (.getfield 162, 3) := by decide +kernel
theorem d_A_buildOne_13 : decode b_A_buildOne 13 = .ok (.ifCond .eq 13, 3) := by decide +kernel
theorem d_A_buildOne_16 : decode b_A_buildOne 16 = .ok (.aload_n 0, 1) := by decide +kernel
theorem d_A_buildOne_17 : decode b_A_buildOne 17 = .ok (.getfield 28, 3) := by decide +kernel
theorem d_A_buildOne_20 : decode b_A_buildOne 20 = .ok (.iconst 4, 1) := by decide +kernel
theorem d_A_buildOne_21 : decode b_A_buildOne 21 = .ok (.dup2, 1) := by decide +kernel
theorem d_A_buildOne_22 : decode b_A_buildOne 22 = .ok (.iaload, 1) := by decide +kernel
theorem d_A_buildOne_23 : decode b_A_buildOne 23 = .ok (.iconst 1, 1) := by decide +kernel
theorem d_A_buildOne_24 : decode b_A_buildOne 24 = .ok (.iadd, 1) := by decide +kernel
theorem d_A_buildOne_25 : decode b_A_buildOne 25 = .ok (.iastore, 1) := by decide +kernel
theorem d_A_buildOne_26 : decode b_A_buildOne 26 = .ok (.aload_n 0, 1) := by decide +kernel
theorem d_A_buildOne_27 : decode b_A_buildOne 27 = .ok (.aload_n 1, 1) := by decide +kernel
theorem d_A_buildOne_28 : decode b_A_buildOne 28 = .ok (.invokevirtual 165, 3) := by decide +kernel
theorem d_A_buildOne_31 : decode b_A_buildOne 31 = .ok (.ifCond .eq 19, 3) := by decide +kernel
theorem d_A_buildOne_34 : decode b_A_buildOne 34 = .ok (.aload_n 1, 1) := by decide +kernel
theorem d_A_buildOne_35 : decode b_A_buildOne 35 = .ok (.iconst 5, 1) := by decide +kernel
theorem d_A_buildOne_36 : decode b_A_buildOne 36 = .ok (.putfield 98, 3) := by decide +kernel
theorem d_A_buildOne_39 : decode b_A_buildOne 39 = .ok (.aload_n 0, 1) := by decide +kernel
theorem d_A_buildOne_40 : decode b_A_buildOne 40 = .ok (.getfield 28, 3) := by decide +kernel
theorem d_A_buildOne_43 : decode b_A_buildOne 43 = .ok (.iconst 3, 1) := by decide +kernel
theorem d_A_buildOne_44 : decode b_A_buildOne 44 = .ok (.dup2, 1) := by decide +kernel
theorem d_A_buildOne_45 : decode b_A_buildOne 45 = .ok (.iaload, 1) := by decide +kernel
theorem d_A_buildOne_46 : decode b_A_buildOne 46 = .ok (.iconst 1, 1) := by decide +kernel
theorem d_A_buildOne_47 : decode b_A_buildOne 47 = .ok (.iadd, 1) := by decide +kernel
theorem d_A_buildOne_48 : decode b_A_buildOne 48 = .ok (.iastore, 1) := by decide +kernel
theorem d_A_buildOne_49 : decode b_A_buildOne 49 = .ok (.return_, 1) := by decide +kernel
theorem d_A_buildOne_50 : decode b_A_buildOne 50 = .ok (.aload_n 0, 1) := by decide +kernel
theorem d_A_buildOne_51 : decode b_A_buildOne 51 = .ok (.aload_n 1, 1) := by decide +kernel
theorem d_A_buildOne_52 : decode b_A_buildOne 52 = .ok (.invokevirtual 168, 3) := by decide +kernel
theorem d_A_buildOne_55 : decode b_A_buildOne 55 = .ok (.aload_n 1, 1) := by decide +kernel
theorem d_A_buildOne_56 : decode b_A_buildOne 56 = .ok (.getfield 162, 3) := by decide +kernel
theorem d_A_buildOne_59 : decode b_A_buildOne 59 = .ok (.ifCond .eq 21, 3) := by decide +kernel
theorem d_A_buildOne_62 : decode b_A_buildOne 62 = .ok (.aload_n 1, 1) := by decide +kernel
theorem d_A_buildOne_63 : decode b_A_buildOne 63 = .ok (.getfield 95, 3) := by decide +kernel
theorem d_A_buildOne_66 : decode b_A_buildOne 66 = .ok (.iconst (-1), 1) := by decide +kernel
theorem d_A_buildOne_67 : decode b_A_buildOne 67 = .ok (.if_icmp .ne 13, 3) := by decide +kernel
theorem d_A_buildOne_70 : decode b_A_buildOne 70 = .ok (.aload_n 0, 1) := by decide +kernel
theorem d_A_buildOne_71 : decode b_A_buildOne 71 = .ok (.getfield 28, 3) := by decide +kernel
theorem d_A_buildOne_74 : decode b_A_buildOne 74 = .ok (.iconst 0, 1) := by decide +kernel
theorem d_A_buildOne_75 : decode b_A_buildOne 75 = .ok (.dup2, 1) := by decide +kernel
theorem d_A_buildOne_76 : decode b_A_buildOne 76 = .ok (.iaload, 1) := by decide +kernel
theorem d_A_buildOne_77 : decode b_A_buildOne 77 = .ok (.iconst 1, 1) := by decide +kernel
theorem d_A_buildOne_78 : decode b_A_buildOne 78 = .ok (.iadd, 1) := by decide +kernel
theorem d_A_buildOne_79 : decode b_A_buildOne 79 = .ok (.iastore, 1) := by decide +kernel
theorem d_A_buildOne_80 : decode b_A_buildOne 80 = .ok (.return_, 1) := by decide +kernel
theorem d_A_isMarked_0 : decode b_A_isMarked 0 = .ok (.aload_n 1, 1) := by decide +kernel
theorem d_A_isMarked_1 : decode b_A_isMarked 1 = .ok (.iconst 0, 1) := by decide +kernel
theorem d_A_isMarked_2 : decode b_A_isMarked 2 = .ok (.invokevirtual 108, 3) := by decide +kernel
theorem d_A_isMarked_5 : decode b_A_isMarked 5 = .ok (.astore_n 2, 1) := by decide +kernel
theorem d_A_isMarked_6 : decode b_A_isMarked 6 = .ok (.aload_n 2, 1) := by decide +kernel
theorem d_A_isMarked_7 : decode b_A_isMarked 7 = .ok (.ifnull 10, 3) := by decide +kernel
theorem d_A_isMarked_10 : decode b_A_isMarked 10 = .ok (.aload_n 1, 1) := by decide +kernel
theorem d_A_isMarked_11 : decode b_A_isMarked 11 = .ok (.getfield 78, 3) := by decide +kernel
theorem d_A_isMarked_14 : decode b_A_isMarked 14 = .ok (.ifCond .eq 5, 3) := by decide +kernel
theorem d_A_isMarked_17 : decode b_A_isMarked 17 = .ok (.iconst 1, 1) := by decide +kernel
theorem d_A_isMarked_18 : decode b_A_isMarked 18 = .ok (.ireturn, 1) := by decide +kernel
theorem d_A_isMarked_19 : decode b_A_isMarked 19 = .ok (.iconst 0, 1) := by decide +kernel
theorem d_A_isMarked_20 : decode b_A_isMarked 20 = .ok (.istore_n 3, 1) := by decide +kernel
theorem d_A_isMarked_21 : decode b_A_isMarked 21 = .ok (.iload_n 3, 1) := by decide +kernel
theorem d_A_isMarked_22 : decode b_A_isMarked 22 = .ok (.aload_n 1, 1) := by decide +kernel
theorem d_A_isMarked_23 : decode b_A_isMarked 23 = .ok (.getfield 130, 3) := by decide +kernel
theorem d_A_isMarked_26 : decode b_A_isMarked 26 = .ok (.if_icmp .ge 26, 3) := by decide +kernel
theorem d_A_isMarked_29 : decode b_A_isMarked 29 = .ok (.aload_n 0, 1) := by decide +kernel
theorem d_A_isMarked_30 : decode b_A_isMarked 30 = .ok (.aload_n 1, 1) := by decide +kernel
theorem d_A_isMarked_31 : decode b_A_isMarked 31 = .ok (.getfield 149, 3) := by decide +kernel
theorem d_A_isMarked_34 : decode b_A_isMarked 34 = .ok (.iload_n 3, 1) := by decide +kernel
theorem d_A_isMarked_35 : decode b_A_isMarked 35 = .ok (.iaload, 1) := by decide +kernel
theorem d_A_isMarked_36 : decode b_A_isMarked 36 = .ok (.aload_n 2, 1) := by decide +kernel
theorem d_A_isMarked_37 : decode b_A_isMarked 37 = .ok (.iload_n 3, 1) := by decide +kernel
theorem d_A_isMarked_38 : decode b_A_isMarked 38 = .ok (.invokevirtual 171, 3) := by decide +kernel
theorem d_A_isMarked_41 : decode b_A_isMarked 41 = .ok (.ifCond .eq 5, 3) := by decide +kernel
theorem d_A_isMarked_44 : decode b_A_isMarked 44 = .ok (.iconst 1, 1) := by decide +kernel
theorem d_A_isMarked_45 : decode b_A_isMarked 45 = .ok (.ireturn, 1) := by decide +kernel
theorem d_A_isMarked_46 : decode b_A_isMarked 46 = .ok (.iinc 3 1, 3) := by decide +kernel
theorem d_A_isMarked_49 : decode b_A_isMarked 49 = .ok (.goto (-28), 3) := by decide +kernel
theorem d_A_isMarked_52 : decode b_A_isMarked 52 = .ok (.iconst 0, 1) := by decide +kernel
theorem d_A_isMarked_53 : decode b_A_isMarked 53 = .ok (.ireturn, 1) := by decide +kernel
theorem d_A_marksItsReader_0 : decode b_A_marksItsReader 0 = .ok (.iload_n 1, 1) := by decide +kernel
theorem d_A_marksItsReader_1 : decode b_A_marksItsReader 1 = .ok (.invokestatic 152, 3) := by decide +kernel
theorem d_A_marksItsReader_4 : decode b_A_marksItsReader 4 = .ok (.ifCond .eq 19, 3) := by decide +kernel
theorem d_A_marksItsReader_7 : decode b_A_marksItsReader 7 = .ok (.aload_n 2, 1) := by decide +kernel
theorem d_A_marksItsReader_8 : decode b_A_marksItsReader 8 = .ok (.iload_n 3, 1) := by decide +kernel
theorem d_A_marksItsReader_9 : decode b_A_marksItsReader 9 = .ok (.aload_n 0, 1) := by decide +kernel
theorem d_A_marksItsReader_10 : decode b_A_marksItsReader 10 = .ok (.iload_n 1, 1) := by decide +kernel
theorem d_A_marksItsReader_11 : decode b_A_marksItsReader 11 = .ok (.invokevirtual 175, 3) := by decide +kernel
theorem d_A_marksItsReader_14 : decode b_A_marksItsReader 14 = .ok (.aload_n 0, 1) := by decide +kernel
theorem d_A_marksItsReader_15 : decode b_A_marksItsReader 15 = .ok (.iload_n 1, 1) := by decide +kernel
theorem d_A_marksItsReader_16 : decode b_A_marksItsReader 16 = .ok (.invokevirtual 178, 3) := by decide +kernel
theorem d_A_marksItsReader_19 : decode b_A_marksItsReader 19 = .ok (.invokevirtual 181, 3) := by decide +kernel
theorem d_A_marksItsReader_22 : decode b_A_marksItsReader 22 = .ok (.ireturn, 1) := by decide +kernel
theorem d_A_marksItsReader_23 : decode b_A_marksItsReader 23 = .ok (.aload_n 0, 1) := by decide +kernel
theorem d_A_marksItsReader_24 : decode b_A_marksItsReader 24 = .ok (.iload_n 1, 1) := by decide +kernel
theorem d_A_marksItsReader_25 : decode b_A_marksItsReader 25 = .ok (.invokevirtual 155, 3) := by decide +kernel
theorem d_A_marksItsReader_28 : decode b_A_marksItsReader 28 = .ok (.astore 4, 2) := by decide +kernel
theorem d_A_marksItsReader_30 : decode b_A_marksItsReader 30 = .ok (.aload 4, 2) := by decide +kernel
theorem d_A_marksItsReader_32 : decode b_A_marksItsReader 32 = .ok (.ifnull 15, 3) := by decide +kernel
theorem d_A_marksItsReader_35 : decode b_A_marksItsReader 35 = .ok (.aload 4, 2) := by decide +kernel
theorem d_A_marksItsReader_37 : decode b_A_marksItsReader 37 = .ok (.getfield 162, 3) := by decide +kernel
theorem d_A_marksItsReader_40 : decode b_A_marksItsReader 40 = .ok (.ifCond .eq 7, 3) := by decide +kernel
theorem d_A_marksItsReader_43 : decode b_A_marksItsReader 43 = .ok (.iconst 1, 1) := by decide +kernel
theorem d_A_marksItsReader_44 : decode b_A_marksItsReader 44 = .ok (.goto 4, 3) := by decide +kernel
theorem d_A_marksItsReader_47 : decode b_A_marksItsReader 47 = .ok (.iconst 0, 1) := by decide +kernel
theorem d_A_marksItsReader_48 : decode b_A_marksItsReader 48 = .ok (.ireturn, 1) := by decide +kernel
theorem d_A_isBlocked_0 : decode b_A_isBlocked 0 = .ok (.iconst 0, 1) := by decide +kernel
theorem d_A_isBlocked_1 : decode b_A_isBlocked 1 = .ok (.istore_n 2, 1) := by decide +kernel
theorem d_A_isBlocked_2 : decode b_A_isBlocked 2 = .ok (.iload_n 2, 1) := by decide +kernel
theorem d_A_isBlocked_3 : decode b_A_isBlocked 3 = .ok (.aload_n 1, 1) := by decide +kernel
theorem d_A_isBlocked_4 : decode b_A_isBlocked 4 = .ok (.getfield 130, 3) := by decide +kernel
theorem d_A_isBlocked_7 : decode b_A_isBlocked 7 = .ok (.if_icmp .ge 45, 3) := by decide +kernel
theorem d_A_isBlocked_10 : decode b_A_isBlocked 10 = .ok (.aload_n 1, 1) := by decide +kernel
theorem d_A_isBlocked_11 : decode b_A_isBlocked 11 = .ok (.getfield 149, 3) := by decide +kernel
theorem d_A_isBlocked_14 : decode b_A_isBlocked 14 = .ok (.iload_n 2, 1) := by decide +kernel
theorem d_A_isBlocked_15 : decode b_A_isBlocked 15 = .ok (.iaload, 1) := by decide +kernel
theorem d_A_isBlocked_16 : decode b_A_isBlocked 16 = .ok (.invokestatic 152, 3) := by decide +kernel
theorem d_A_isBlocked_19 : decode b_A_isBlocked 19 = .ok (.ifCond .ne 27, 3) := by decide +kernel
theorem d_A_isBlocked_22 : decode b_A_isBlocked 22 = .ok (.aload_n 0, 1) := by decide +kernel
theorem d_A_isBlocked_23 : decode b_A_isBlocked 23 = .ok (.aload_n 1, 1) := by decide +kernel
theorem d_A_isBlocked_24 : decode b_A_isBlocked 24 = .ok (.getfield 149, 3) := by decide +kernel
theorem d_A_isBlocked_27 : decode b_A_isBlocked 27 = .ok (.iload_n 2, 1) := by decide +kernel
theorem d_A_isBlocked_28 : decode b_A_isBlocked 28 = .ok (.iaload, 1) := by decide +kernel
theorem d_A_isBlocked_29 : decode b_A_isBlocked 29 = .ok (.invokevirtual 155, 3) := by decide +kernel
theorem d_A_isBlocked_32 : decode b_A_isBlocked 32 = .ok (.astore_n 3, 1) := by decide +kernel
theorem d_A_isBlocked_33 : decode b_A_isBlocked 33 = .ok (.aload_n 3, 1) := by decide +kernel
theorem d_A_isBlocked_34 : decode b_A_isBlocked 34 = .ok (.ifnull 12, 3) := by decide +kernel
theorem d_A_isBlocked_37 : decode b_A_isBlocked 37 = .ok (.aload_n 3, 1) := by decide +kernel
theorem d_A_isBlocked_38 : decode b_A_isBlocked 38 = .ok (.invokevirtual 185, 3) := by decide +kernel
theorem d_A_isBlocked_41 : decode b_A_isBlocked 41 = .ok (.ifCond .eq 5, 3) := by decide +kernel
theorem d_A_isBlocked_44 : decode b_A_isBlocked 44 = .ok (.iconst 1, 1) := by decide +kernel
theorem d_A_isBlocked_45 : decode b_A_isBlocked 45 = .ok (.ireturn, 1) := by decide +kernel
theorem d_A_isBlocked_46 : decode b_A_isBlocked 46 = .ok (.iinc 2 1, 3) := by decide +kernel
theorem d_A_isBlocked_49 : decode b_A_isBlocked 49 = .ok (.goto (-47), 3) := by decide +kernel
theorem d_A_isBlocked_52 : decode b_A_isBlocked 52 = .ok (.iconst 0, 1) := by decide +kernel
theorem d_A_isBlocked_53 : decode b_A_isBlocked 53 = .ok (.ireturn, 1) := by decide +kernel
theorem d_A_bringUpToDate_0 : decode b_A_bringUpToDate 0 = .ok (.aload_n 1, 1) := by decide +kernel
theorem d_A_bringUpToDate_1 : decode b_A_bringUpToDate 1 = .ok (.iconst 0, 1) := by decide +kernel
theorem d_A_bringUpToDate_2 : decode b_A_bringUpToDate 2 = .ok (.invokevirtual 108, 3) := by decide +kernel
theorem d_A_bringUpToDate_5 : decode b_A_bringUpToDate 5 = .ok (.astore_n 2, 1) := by decide +kernel
theorem d_A_bringUpToDate_6 : decode b_A_bringUpToDate 6 = .ok (.aload_n 0, 1) := by decide +kernel
theorem d_A_bringUpToDate_7 : decode b_A_bringUpToDate 7 = .ok (.aload_n 1, 1) := by decide +kernel
theorem d_A_bringUpToDate_8 : decode b_A_bringUpToDate 8 = .ok (.invokevirtual 188, 3) := by decide +kernel
theorem d_A_bringUpToDate_11 : decode b_A_bringUpToDate 11 = .ok (.astore_n 3, 1) := by decide +kernel
theorem d_A_bringUpToDate_12 : decode b_A_bringUpToDate 12 = .ok (.aload_n 1, 1) := by decide +kernel
theorem d_A_bringUpToDate_13 : decode b_A_bringUpToDate 13 = .ok (.aload_n 3, 1) := by decide +kernel
theorem d_A_bringUpToDate_14 : decode b_A_bringUpToDate 14 = .ok (.invokevirtual 192, 3) := by decide +kernel
theorem d_A_bringUpToDate_17 : decode b_A_bringUpToDate 17 = .ok (.istore 4, 2) := by decide +kernel
theorem d_A_bringUpToDate_19 : decode b_A_bringUpToDate 19 = .ok (.iload 4, 2) := by decide +kernel
theorem d_A_bringUpToDate_21 : decode b_A_bringUpToDate 21 = .ok (.iconst (-1), 1) := by decide +kernel
theorem d_A_bringUpToDate_22 : decode b_A_bringUpToDate 22 = .ok (.if_icmp .eq 19, 3) := by decide +kernel
theorem d_A_bringUpToDate_25 : decode b_A_bringUpToDate 25 = .ok (.aload_n 1, 1) := by decide +kernel
theorem d_A_bringUpToDate_26 : decode b_A_bringUpToDate 26 = .ok (.getfield 78, 3) := by decide +kernel
theorem d_A_bringUpToDate_29 : decode b_A_bringUpToDate 29 = .ok (.ifCond .ne 12, 3) := by decide +kernel
theorem d_A_bringUpToDate_32 : decode b_A_bringUpToDate 32 = .ok (.aload_n 1, 1) := by decide +kernel
theorem d_A_bringUpToDate_33 : decode b_A_bringUpToDate 33 = .ok (.iload 4, 2) := by decide +kernel
theorem d_A_bringUpToDate_35 : decode b_A_bringUpToDate 35 = .ok (.invokevirtual 196, 3) := by decide +kernel
theorem d_A_bringUpToDate_38 : decode b_A_bringUpToDate 38 = .ok (.goto 33, 3) := by decide +kernel
theorem d_A_bringUpToDate_41 : decode b_A_bringUpToDate 41 = .ok (.aload_n 1, 1) := by decide +kernel
theorem d_A_bringUpToDate_42 : decode b_A_bringUpToDate 42 = .ok (.aload_n 3, 1) := by decide +kernel
theorem d_A_bringUpToDate_43 : decode b_A_bringUpToDate 43 = .ok (.invokestatic 199, 3) := by decide +kernel
theorem d_A_bringUpToDate_46 : decode b_A_bringUpToDate 46 = .ok (.istore 5, 2) := by decide +kernel
theorem d_A_bringUpToDate_48 : decode b_A_bringUpToDate 48 = .ok (.aload_n 1, 1) := by decide +kernel
theorem d_A_bringUpToDate_49 : decode b_A_bringUpToDate 49 = .ok (.iload 4, 2) := by decide +kernel
theorem d_A_bringUpToDate_51 : decode b_A_bringUpToDate 51 = .ok (.invokevirtual 203, 3) := by decide +kernel
theorem d_A_bringUpToDate_54 : decode b_A_bringUpToDate 54 = .ok (.aload_n 1, 1) := by decide +kernel
theorem d_A_bringUpToDate_55 : decode b_A_bringUpToDate 55 = .ok (.iload 5, 2) := by decide +kernel
theorem d_A_bringUpToDate_57 : decode b_A_bringUpToDate 57 = .ok (.putfield 95, 3) := by decide +kernel
theorem d_A_bringUpToDate_60 : decode b_A_bringUpToDate 60 = .ok (.aload_n 0, 1) := by decide +kernel
theorem d_A_bringUpToDate_61 : decode b_A_bringUpToDate 61 = .ok (.getfield 32, 3) := by decide +kernel
theorem d_A_bringUpToDate_64 : decode b_A_bringUpToDate 64 = .ok (.iload 5, 2) := by decide +kernel
theorem d_A_bringUpToDate_66 : decode b_A_bringUpToDate 66 = .ok (.dup2, 1) := by decide +kernel
theorem d_A_bringUpToDate_67 : decode b_A_bringUpToDate 67 = .ok (.iaload, 1) := by decide +kernel
theorem d_A_bringUpToDate_68 : decode b_A_bringUpToDate 68 = .ok (.iconst 1, 1) := by decide +kernel
theorem d_A_bringUpToDate_69 : decode b_A_bringUpToDate 69 = .ok (.iadd, 1) := by decide +kernel
theorem d_A_bringUpToDate_70 : decode b_A_bringUpToDate 70 = .ok (.iastore, 1) := by decide +kernel
theorem d_A_bringUpToDate_71 : decode b_A_bringUpToDate 71 = .ok (.aload_n 0, 1) := by decide +kernel
theorem d_A_bringUpToDate_72 : decode b_A_bringUpToDate 72 = .ok (.aload_n 2, 1) := by decide +kernel
theorem d_A_bringUpToDate_73 : decode b_A_bringUpToDate 73 = .ok (.aload_n 1, 1) := by decide +kernel
theorem d_A_bringUpToDate_74 : decode b_A_bringUpToDate 74 = .ok (.invokevirtual 206, 3) := by decide +kernel
theorem d_A_bringUpToDate_77 : decode b_A_bringUpToDate 77 = .ok (.return_, 1) := by decide +kernel
theorem d_A_readNow_0 : decode b_A_readNow 0 = .ok (.aload_n 1, 1) := by decide +kernel
theorem d_A_readNow_1 : decode b_A_readNow 1 = .ok (.invokevirtual 210, 3) := by decide +kernel
theorem d_A_readNow_4 : decode b_A_readNow 4 = .ok (.astore_n 2, 1) := by decide +kernel
theorem d_A_readNow_5 : decode b_A_readNow 5 = .ok (.iconst 0, 1) := by decide +kernel
theorem d_A_readNow_6 : decode b_A_readNow 6 = .ok (.istore_n 3, 1) := by decide +kernel
theorem d_A_readNow_7 : decode b_A_readNow 7 = .ok (.iload_n 3, 1) := by decide +kernel
theorem d_A_readNow_8 : decode b_A_readNow 8 = .ok (.aload_n 1, 1) := by decide +kernel
theorem d_A_readNow_9 : decode b_A_readNow 9 = .ok (.getfield 130, 3) := by decide +kernel
theorem d_A_readNow_12 : decode b_A_readNow 12 = .ok (.if_icmp .ge 41, 3) := by decide +kernel
theorem d_A_readNow_15 : decode b_A_readNow 15 = .ok (.aload_n 2, 1) := by decide +kernel
theorem d_A_readNow_16 : decode b_A_readNow 16 = .ok (.getfield 214, 3) := by decide +kernel
theorem d_A_readNow_19 : decode b_A_readNow 19 = .ok (.iload_n 3, 1) := by decide +kernel
theorem d_A_readNow_20 : decode b_A_readNow 20 = .ok (.aload_n 0, 1) := by decide +kernel
theorem d_A_readNow_21 : decode b_A_readNow 21 = .ok (.aload_n 1, 1) := by decide +kernel
theorem d_A_readNow_22 : decode b_A_readNow 22 = .ok (.getfield 149, 3) := by decide +kernel
theorem d_A_readNow_25 : decode b_A_readNow 25 = .ok (.iload_n 3, 1) := by decide +kernel
theorem d_A_readNow_26 : decode b_A_readNow 26 = .ok (.iaload, 1) := by decide +kernel
theorem d_A_readNow_27 : decode b_A_readNow 27 = .ok (.invokevirtual 175, 3) := by decide +kernel
theorem d_A_readNow_30 : decode b_A_readNow 30 = .ok (.bastore, 1) := by decide +kernel
theorem d_A_readNow_31 : decode b_A_readNow 31 = .ok (.aload_n 2, 1) := by decide +kernel
theorem d_A_readNow_32 : decode b_A_readNow 32 = .ok (.getfield 133, 3) := by decide +kernel
theorem d_A_readNow_35 : decode b_A_readNow 35 = .ok (.iload_n 3, 1) := by decide +kernel
theorem d_A_readNow_36 : decode b_A_readNow 36 = .ok (.aload_n 0, 1) := by decide +kernel
theorem d_A_readNow_37 : decode b_A_readNow 37 = .ok (.aload_n 1, 1) := by decide +kernel
theorem d_A_readNow_38 : decode b_A_readNow 38 = .ok (.getfield 149, 3) := by decide +kernel
theorem d_A_readNow_41 : decode b_A_readNow 41 = .ok (.iload_n 3, 1) := by decide +kernel
theorem d_A_readNow_42 : decode b_A_readNow 42 = .ok (.iaload, 1) := by decide +kernel
theorem d_A_readNow_43 : decode b_A_readNow 43 = .ok (.invokevirtual 178, 3) := by decide +kernel
theorem d_A_readNow_46 : decode b_A_readNow 46 = .ok (.lastore, 1) := by decide +kernel
theorem d_A_readNow_47 : decode b_A_readNow 47 = .ok (.iinc 3 1, 3) := by decide +kernel
theorem d_A_readNow_50 : decode b_A_readNow 50 = .ok (.goto (-43), 3) := by decide +kernel
theorem d_A_readNow_53 : decode b_A_readNow 53 = .ok (.aload_n 2, 1) := by decide +kernel
theorem d_A_readNow_54 : decode b_A_readNow 54 = .ok (.areturn, 1) := by decide +kernel
theorem d_A_isThereNow_0 : decode b_A_isThereNow 0 = .ok (.iload_n 1, 1) := by decide +kernel
theorem d_A_isThereNow_1 : decode b_A_isThereNow 1 = .ok (.invokestatic 152, 3) := by decide +kernel
theorem d_A_isThereNow_4 : decode b_A_isThereNow 4 = .ok (.ifCond .ne 5, 3) := by decide +kernel
theorem d_A_isThereNow_7 : decode b_A_isThereNow 7 = .ok (.iconst 1, 1) := by decide +kernel
theorem d_A_isThereNow_8 : decode b_A_isThereNow 8 = .ok (.ireturn, 1) := by decide +kernel
theorem d_A_isThereNow_9 : decode b_A_isThereNow 9 = .ok (.aload_n 0, 1) := by decide +kernel
theorem d_A_isThereNow_10 : decode b_A_isThereNow 10 = .ok (.iload_n 1, 1) := by decide +kernel
theorem d_A_isThereNow_11 : decode b_A_isThereNow 11 = .ok (.invokevirtual 41, 3) := by decide +kernel
theorem d_A_isThereNow_14 : decode b_A_isThereNow 14 = .ok (.astore_n 2, 1) := by decide +kernel
theorem d_A_isThereNow_15 : decode b_A_isThereNow 15 = .ok (.aload_n 2, 1) := by decide +kernel
theorem d_A_isThereNow_16 : decode b_A_isThereNow 16 = .ok (.ifnull 14, 3) := by decide +kernel
theorem d_A_isThereNow_19 : decode b_A_isThereNow 19 = .ok (.aload_n 2, 1) := by decide +kernel
theorem d_A_isThereNow_20 : decode b_A_isThereNow 20 = .ok (.getfield 45, 3) := by decide +kernel
theorem d_A_isThereNow_23 : decode b_A_isThereNow 23 = .ok (.ifCond .eq 7, 3) := by decide +kernel
theorem d_A_isThereNow_26 : decode b_A_isThereNow 26 = .ok (.iconst 1, 1) := by decide +kernel
theorem d_A_isThereNow_27 : decode b_A_isThereNow 27 = .ok (.goto 4, 3) := by decide +kernel
theorem d_A_isThereNow_30 : decode b_A_isThereNow 30 = .ok (.iconst 0, 1) := by decide +kernel
theorem d_A_isThereNow_31 : decode b_A_isThereNow 31 = .ok (.ireturn, 1) := by decide +kernel
theorem d_A_valueNow_0 : decode b_A_valueNow 0 = .ok (.iload_n 1, 1) := by decide +kernel
theorem d_A_valueNow_1 : decode b_A_valueNow 1 = .ok (.invokestatic 152, 3) := by decide +kernel
theorem d_A_valueNow_4 : decode b_A_valueNow 4 = .ok (.ifCond .eq 22, 3) := by decide +kernel
theorem d_A_valueNow_7 : decode b_A_valueNow 7 = .ok (.aload_n 0, 1) := by decide +kernel
theorem d_A_valueNow_8 : decode b_A_valueNow 8 = .ok (.iload_n 1, 1) := by decide +kernel
theorem d_A_valueNow_9 : decode b_A_valueNow 9 = .ok (.invokevirtual 41, 3) := by decide +kernel
theorem d_A_valueNow_12 : decode b_A_valueNow 12 = .ok (.astore_n 2, 1) := by decide +kernel
theorem d_A_valueNow_13 : decode b_A_valueNow 13 = .ok (.aload_n 2, 1) := by decide +kernel
theorem d_A_valueNow_14 : decode b_A_valueNow 14 = .ok (.ifnonnull 7, 3) := by decide +kernel
theorem d_A_valueNow_17 : decode b_A_valueNow 17 = .ok (.lconst 0, 1) := by decide +kernel
theorem d_A_valueNow_18 : decode b_A_valueNow 18 = .ok (.goto 7, 3) := by decide +kernel
theorem d_A_valueNow_21 : decode b_A_valueNow 21 = .ok (.aload_n 2, 1) := by decide +kernel
theorem d_A_valueNow_22 : decode b_A_valueNow 22 = .ok (.getfield 49, 3) := by decide +kernel
theorem d_A_valueNow_25 : decode b_A_valueNow 25 = .ok (.lreturn, 1) := by decide +kernel
theorem d_A_valueNow_26 : decode b_A_valueNow 26 = .ok (.aload_n 0, 1) := by decide +kernel
theorem d_A_valueNow_27 : decode b_A_valueNow 27 = .ok (.iload_n 1, 1) := by decide +kernel
theorem d_A_valueNow_28 : decode b_A_valueNow 28 = .ok (.invokevirtual 155, 3) := by decide +kernel
theorem d_A_valueNow_31 : decode b_A_valueNow 31 = .ok (.astore_n 2, 1) := by decide +kernel
theorem d_A_valueNow_32 : decode b_A_valueNow 32 = .ok (.aload_n 2, 1) := by decide +kernel
theorem d_A_valueNow_33 : decode b_A_valueNow 33 = .ok (.ifnonnull 7, 3) := by decide +kernel
theorem d_A_valueNow_36 : decode b_A_valueNow 36 = .ok (.aconst_null, 1) := by decide +kernel
theorem d_A_valueNow_37 : decode b_A_valueNow 37 = .ok (.goto 8, 3) := by decide +kernel
theorem d_A_valueNow_40 : decode b_A_valueNow 40 = .ok (.aload_n 2, 1) := by decide +kernel
theorem d_A_valueNow_41 : decode b_A_valueNow 41 = .ok (.iconst 0, 1) := by decide +kernel
theorem d_A_valueNow_42 : decode b_A_valueNow 42 = .ok (.invokevirtual 108, 3) := by decide +kernel
theorem d_A_valueNow_45 : decode b_A_valueNow 45 = .ok (.astore_n 3, 1) := by decide +kernel
theorem d_A_valueNow_46 : decode b_A_valueNow 46 = .ok (.aload_n 3, 1) := by decide +kernel
theorem d_A_valueNow_47 : decode b_A_valueNow 47 = .ok (.ifnonnull 7, 3) := by decide +kernel
theorem d_A_valueNow_50 : decode b_A_valueNow 50 = .ok (.lconst 0, 1) := by decide +kernel
theorem d_A_valueNow_51 : decode b_A_valueNow 51 = .ok (.goto 11, 3) := by decide +kernel
theorem d_A_valueNow_54 : decode b_A_valueNow 54 = .ok (.aload_n 3, 1) := by decide +kernel
theorem d_A_valueNow_55 : decode b_A_valueNow 55 = .ok (.iload_n 1, 1) := by decide +kernel
theorem d_A_valueNow_56 : decode b_A_valueNow 56 = .ok (.invokestatic 217, 3) := by decide +kernel
theorem d_A_valueNow_59 : decode b_A_valueNow 59 = .ok (.invokevirtual 123, 3) := by decide +kernel
theorem d_A_valueNow_62 : decode b_A_valueNow 62 = .ok (.lreturn, 1) := by decide +kernel
theorem d_A_causeToRedo_0 : decode b_A_causeToRedo 0 = .ok (.aload_n 0, 1) := by decide +kernel
theorem d_A_causeToRedo_1 : decode b_A_causeToRedo 1 = .ok (.iconst 0, 1) := by decide +kernel
theorem d_A_causeToRedo_2 : decode b_A_causeToRedo 2 = .ok (.invokevirtual 108, 3) := by decide +kernel
theorem d_A_causeToRedo_5 : decode b_A_causeToRedo 5 = .ok (.astore_n 2, 1) := by decide +kernel
theorem d_A_causeToRedo_6 : decode b_A_causeToRedo 6 = .ok (.aload_n 2, 1) := by decide +kernel
theorem d_A_causeToRedo_7 : decode b_A_causeToRedo 7 = .ok (.ifnonnull 5, 3) := by decide +kernel
theorem d_A_causeToRedo_10 : decode b_A_causeToRedo 10 = .ok (.iconst 0, 1) := by decide +kernel
theorem d_A_causeToRedo_11 : decode b_A_causeToRedo 11 = .ok (.ireturn, 1) := by decide +kernel
theorem d_A_causeToRedo_12 : decode b_A_causeToRedo 12 = .ok (.aload_n 2, 1) := by decide +kernel
theorem d_A_causeToRedo_13 : decode b_A_causeToRedo 13 = .ok (.aload_n 1, 1) := by decide +kernel
theorem d_A_causeToRedo_14 : decode b_A_causeToRedo 14 = .ok (.aload_n 0, 1) := by decide +kernel
theorem d_A_causeToRedo_15 : decode b_A_causeToRedo 15 = .ok (.getfield 130, 3) := by decide +kernel
theorem d_A_causeToRedo_18 : decode b_A_causeToRedo 18 = .ok (.invokevirtual 220, 3) := by decide +kernel
theorem d_A_causeToRedo_21 : decode b_A_causeToRedo 21 = .ok (.istore_n 3, 1) := by decide +kernel
theorem d_A_causeToRedo_22 : decode b_A_causeToRedo 22 = .ok (.aload_n 0, 1) := by decide +kernel
theorem d_A_causeToRedo_23 : decode b_A_causeToRedo 23 = .ok (.getfield 78, 3) := by decide +kernel
theorem d_A_causeToRedo_26 : decode b_A_causeToRedo 26 = .ok (.ifCond .ne 8, 3) := by decide +kernel
theorem d_A_causeToRedo_29 : decode b_A_causeToRedo 29 = .ok (.iload_n 3, 1) := by decide +kernel
theorem d_A_causeToRedo_30 : decode b_A_causeToRedo 30 = .ok (.iconst (-1), 1) := by decide +kernel
theorem d_A_causeToRedo_31 : decode b_A_causeToRedo 31 = .ok (.if_icmp .ne 5, 3) := by decide +kernel
theorem d_A_causeToRedo_34 : decode b_A_causeToRedo 34 = .ok (.iconst 1, 1) := by decide +kernel
theorem d_A_causeToRedo_35 : decode b_A_causeToRedo 35 = .ok (.ireturn, 1) := by decide +kernel
theorem d_A_causeToRedo_36 : decode b_A_causeToRedo 36 = .ok (.aload_n 0, 1) := by decide +kernel
theorem d_A_causeToRedo_37 : decode b_A_causeToRedo 37 = .ok (.getfield 149, 3) := by decide +kernel
theorem d_A_causeToRedo_40 : decode b_A_causeToRedo 40 = .ok (.iload_n 3, 1) := by decide +kernel
theorem d_A_causeToRedo_41 : decode b_A_causeToRedo 41 = .ok (.iaload, 1) := by decide +kernel
theorem d_A_causeToRedo_42 : decode b_A_causeToRedo 42 = .ok (.invokestatic 152, 3) := by decide +kernel
theorem d_A_causeToRedo_45 : decode b_A_causeToRedo 45 = .ok (.ifCond .eq 7, 3) := by decide +kernel
theorem d_A_causeToRedo_48 : decode b_A_causeToRedo 48 = .ok (.iconst 2, 1) := by decide +kernel
theorem d_A_causeToRedo_49 : decode b_A_causeToRedo 49 = .ok (.goto 4, 3) := by decide +kernel
theorem d_A_causeToRedo_52 : decode b_A_causeToRedo 52 = .ok (.iconst 3, 1) := by decide +kernel
theorem d_A_causeToRedo_53 : decode b_A_causeToRedo 53 = .ok (.ireturn, 1) := by decide +kernel
theorem d_A_compareOutputs_0 : decode b_A_compareOutputs 0 = .ok (.aload_n 2, 1) := by decide +kernel
theorem d_A_compareOutputs_1 : decode b_A_compareOutputs 1 = .ok (.getfield 98, 3) := by decide +kernel
theorem d_A_compareOutputs_4 : decode b_A_compareOutputs 4 = .ok (.iconst 2, 1) := by decide +kernel
theorem d_A_compareOutputs_5 : decode b_A_compareOutputs 5 = .ok (.if_icmp .eq 12, 3) := by decide +kernel
theorem d_A_compareOutputs_8 : decode b_A_compareOutputs 8 = .ok (.aload_n 2, 1) := by decide +kernel
theorem d_A_compareOutputs_9 : decode b_A_compareOutputs 9 = .ok (.getfield 98, 3) := by decide +kernel
theorem d_A_compareOutputs_12 : decode b_A_compareOutputs 12 = .ok (.bipush 6, 2) := by decide +kernel
theorem d_A_compareOutputs_14 : decode b_A_compareOutputs 14 = .ok (.if_icmp .ne 7, 3) := by decide +kernel
theorem d_A_compareOutputs_17 : decode b_A_compareOutputs 17 = .ok (.iconst 1, 1) := by decide +kernel
theorem d_A_compareOutputs_18 : decode b_A_compareOutputs 18 = .ok (.goto 4, 3) := by decide +kernel
theorem d_A_compareOutputs_21 : decode b_A_compareOutputs 21 = .ok (.iconst 0, 1) := by decide +kernel
theorem d_A_compareOutputs_22 : decode b_A_compareOutputs 22 = .ok (.istore_n 3, 1) := by decide +kernel
theorem d_A_compareOutputs_23 : decode b_A_compareOutputs 23 = .ok (.aload_n 2, 1) := by decide +kernel
theorem d_A_compareOutputs_24 : decode b_A_compareOutputs 24 = .ok (.iconst 0, 1) := by decide +kernel
theorem d_A_compareOutputs_25 : decode b_A_compareOutputs 25 = .ok (.invokevirtual 108, 3) := by decide +kernel
theorem d_A_compareOutputs_28 : decode b_A_compareOutputs 28 = .ok (.astore 4, 2) := by decide +kernel
theorem d_A_compareOutputs_30 : decode b_A_compareOutputs 30 = .ok (.iload_n 3, 1) := by decide +kernel
theorem d_A_compareOutputs_31 : decode b_A_compareOutputs 31 = .ok (.ifCond .eq 19, 3) := by decide +kernel
theorem d_A_compareOutputs_34 : decode b_A_compareOutputs 34 = .ok (.aload_n 1, 1) := by decide +kernel
theorem d_A_compareOutputs_35 : decode b_A_compareOutputs 35 = .ok (.ifnull 15, 3) := by decide +kernel
theorem d_A_compareOutputs_38 : decode b_A_compareOutputs 38 = .ok (.aload_n 1, 1) := by decide +kernel
theorem d_A_compareOutputs_39 : decode b_A_compareOutputs 39 = .ok (.invokevirtual 112, 3) := by decide +kernel
theorem d_A_compareOutputs_42 : decode b_A_compareOutputs 42 = .ok (.ifCond .ne 8, 3) := by decide +kernel
theorem d_A_compareOutputs_45 : decode b_A_compareOutputs 45 = .ok (.aload 4, 2) := by decide +kernel
theorem d_A_compareOutputs_47 : decode b_A_compareOutputs 47 = .ok (.ifnonnull 4, 3) := by decide +kernel
theorem d_A_compareOutputs_50 : decode b_A_compareOutputs 50 = .ok (.return_, 1) := by decide +kernel
theorem d_A_compareOutputs_51 : decode b_A_compareOutputs 51 = .ok (.aload 4, 2) := by decide +kernel
theorem d_A_compareOutputs_53 : decode b_A_compareOutputs 53 = .ok (.getfield 224, 3) := by decide +kernel
theorem d_A_compareOutputs_56 : decode b_A_compareOutputs 56 = .ok (.aload_n 1, 1) := by decide +kernel
theorem d_A_compareOutputs_57 : decode b_A_compareOutputs 57 = .ok (.getfield 224, 3) := by decide +kernel
theorem d_A_compareOutputs_60 : decode b_A_compareOutputs 60 = .ok (.lcmp, 1) := by decide +kernel
theorem d_A_compareOutputs_61 : decode b_A_compareOutputs 61 = .ok (.ifCond .ne 34, 3) := by decide +kernel
theorem d_A_compareOutputs_64 : decode b_A_compareOutputs 64 = .ok (.aload_n 0, 1) := by decide +kernel
theorem d_A_compareOutputs_65 : decode b_A_compareOutputs 65 = .ok (.getfield 28, 3) := by decide +kernel
theorem d_A_compareOutputs_68 : decode b_A_compareOutputs 68 = .ok (.iconst 1, 1) := by decide +kernel
theorem d_A_compareOutputs_69 : decode b_A_compareOutputs 69 = .ok (.dup2, 1) := by decide +kernel
theorem d_A_compareOutputs_70 : decode b_A_compareOutputs 70 = .ok (.iaload, 1) := by decide +kernel
theorem d_A_compareOutputs_71 : decode b_A_compareOutputs 71 = .ok (.iconst 1, 1) := by decide +kernel
theorem d_A_compareOutputs_72 : decode b_A_compareOutputs 72 = .ok (.iadd, 1) := by decide +kernel
theorem d_A_compareOutputs_73 : decode b_A_compareOutputs 73 = .ok (.iastore, 1) := by decide +kernel
theorem d_A_compareOutputs_74 : decode b_A_compareOutputs 74 = .ok (.aload_n 2, 1) := by decide +kernel
theorem d_A_compareOutputs_75 : decode b_A_compareOutputs 75 = .ok (.getfield 98, 3) := by decide +kernel
theorem d_A_compareOutputs_78 : decode b_A_compareOutputs 78 = .ok (.iconst 2, 1) := by decide +kernel
theorem d_A_compareOutputs_79 : decode b_A_compareOutputs 79 = .ok (.if_icmp .ne 39, 3) := by decide +kernel
theorem d_A_compareOutputs_82 : decode b_A_compareOutputs 82 = .ok (.aload_n 0, 1) := by decide +kernel
theorem d_A_compareOutputs_83 : decode b_A_compareOutputs 83 = .ok (.dup, 1) := by decide +kernel
theorem d_A_compareOutputs_84 : decode b_A_compareOutputs 84 = .ok (.getfield 35, 3) := by decide +kernel
theorem d_A_compareOutputs_87 : decode b_A_compareOutputs 87 = .ok (.iconst 1, 1) := by decide +kernel
theorem d_A_compareOutputs_88 : decode b_A_compareOutputs 88 = .ok (.iadd, 1) := by decide +kernel
theorem d_A_compareOutputs_89 : decode b_A_compareOutputs 89 = .ok (.putfield 35, 3) := by decide +kernel
theorem d_A_compareOutputs_92 : decode b_A_compareOutputs 92 = .ok (.goto 26, 3) := by decide +kernel
theorem d_A_compareOutputs_95 : decode b_A_compareOutputs 95 = .ok (.aload 4, 2) := by decide +kernel
theorem d_A_compareOutputs_97 : decode b_A_compareOutputs 97 = .ok (.getfield 227, 3) := by decide +kernel
theorem d_A_compareOutputs_100 : decode b_A_compareOutputs 100 = .ok (.aload_n 1, 1) := by decide +kernel
theorem d_A_compareOutputs_101 : decode b_A_compareOutputs 101 = .ok (.getfield 227, 3) := by decide +kernel
theorem d_A_compareOutputs_104 : decode b_A_compareOutputs 104 = .ok (.lcmp, 1) := by decide +kernel
theorem d_A_compareOutputs_105 : decode b_A_compareOutputs 105 = .ok (.ifCond .ne 13, 3) := by decide +kernel
theorem d_A_compareOutputs_108 : decode b_A_compareOutputs 108 = .ok (.aload_n 0, 1) := by decide +kernel
theorem d_A_compareOutputs_109 : decode b_A_compareOutputs 109 = .ok (.getfield 28, 3) := by decide +kernel
theorem d_A_compareOutputs_112 : decode b_A_compareOutputs 112 = .ok (.iconst 2, 1) := by decide +kernel
theorem d_A_compareOutputs_113 : decode b_A_compareOutputs 113 = .ok (.dup2, 1) := by decide +kernel
theorem d_A_compareOutputs_114 : decode b_A_compareOutputs 114 = .ok (.iaload, 1) := by decide +kernel
theorem d_A_compareOutputs_115 : decode b_A_compareOutputs 115 = .ok (.iconst 1, 1) := by decide +kernel
theorem d_A_compareOutputs_116 : decode b_A_compareOutputs 116 = .ok (.iadd, 1) := by decide +kernel
theorem d_A_compareOutputs_117 : decode b_A_compareOutputs 117 = .ok (.iastore, 1) := by decide +kernel
theorem d_A_compareOutputs_118 : decode b_A_compareOutputs 118 = .ok (.return_, 1) := by decide +kernel
end
section
/-! DECODE ROWS (by program) -/
theorem d_M_init_0 : decode b_M_init 0 = .ok (.aload_n 0, 1) := by decide +kernel
theorem d_M_init_1 : decode b_M_init 1 = .ok (.invokespecial 1, 3) := by decide +kernel
theorem d_M_init_4 : decode b_M_init 4 = .ok (.aload_n 0, 1) := by decide +kernel
theorem d_M_init_5 : decode b_M_init 5 = .ok (.bipush 16, 2) := by decide +kernel
theorem d_M_init_7 : decode b_M_init 7 = .ok (.newarray .long, 2) := by decide +kernel
theorem d_M_init_9 : decode b_M_init 9 = .ok (.putfield 7, 3) := by decide +kernel
theorem d_M_init_12 : decode b_M_init 12 = .ok (.aload_n 0, 1) := by decide +kernel
theorem d_M_init_13 : decode b_M_init 13 = .ok (.bipush 16, 2) := by decide +kernel
theorem d_M_init_15 : decode b_M_init 15 = .ok (.newarray .long, 2) := by decide +kernel
theorem d_M_init_17 : decode b_M_init 17 = .ok (.putfield 13, 3) := by decide +kernel
theorem d_M_init_20 : decode b_M_init 20 = .ok (.aload_n 0, 1) := by decide +kernel
theorem d_M_init_21 : decode b_M_init 21 = .ok (.bipush 16, 2) := by decide +kernel
theorem d_M_init_23 : decode b_M_init 23 = .ok (.newarray .long, 2) := by decide +kernel
theorem d_M_init_25 : decode b_M_init 25 = .ok (.putfield 16, 3) := by decide +kernel
theorem d_M_init_28 : decode b_M_init 28 = .ok (.aload_n 0, 1) := by decide +kernel
theorem d_M_init_29 : decode b_M_init 29 = .ok (.bipush 16, 2) := by decide +kernel
theorem d_M_init_31 : decode b_M_init 31 = .ok (.newarray .boolean, 2) := by decide +kernel
theorem d_M_init_33 : decode b_M_init 33 = .ok (.putfield 19, 3) := by decide +kernel
theorem d_M_init_36 : decode b_M_init 36 = .ok (.aload_n 0, 1) := by decide +kernel
theorem d_M_init_37 : decode b_M_init 37 = .ok (.bipush 16, 2) := by decide +kernel
theorem d_M_init_39 : decode b_M_init 39 = .ok (.newarray .boolean, 2) := by decide +kernel
theorem d_M_init_41 : decode b_M_init 41 = .ok (.putfield 23, 3) := by decide +kernel
theorem d_M_init_44 : decode b_M_init 44 = .ok (.aload_n 0, 1) := by decide +kernel
theorem d_M_init_45 : decode b_M_init 45 = .ok (.bipush 16, 2) := by decide +kernel
theorem d_M_init_47 : decode b_M_init 47 = .ok (.newarray .int, 2) := by decide +kernel
theorem d_M_init_49 : decode b_M_init 49 = .ok (.putfield 26, 3) := by decide +kernel
theorem d_M_init_52 : decode b_M_init 52 = .ok (.aload_n 0, 1) := by decide +kernel
theorem d_M_init_53 : decode b_M_init 53 = .ok (.bipush 16, 2) := by decide +kernel
theorem d_M_init_55 : decode b_M_init 55 = .ok (.newarray .int, 2) := by decide +kernel
theorem d_M_init_57 : decode b_M_init 57 = .ok (.putfield 30, 3) := by decide +kernel
theorem d_M_init_60 : decode b_M_init 60 = .ok (.aload_n 0, 1) := by decide +kernel
theorem d_M_init_61 : decode b_M_init 61 = .ok (.bipush 96, 2) := by decide +kernel
theorem d_M_init_63 : decode b_M_init 63 = .ok (.newarray .int, 2) := by decide +kernel
theorem d_M_init_65 : decode b_M_init 65 = .ok (.putfield 33, 3) := by decide +kernel
theorem d_M_init_68 : decode b_M_init 68 = .ok (.aload_n 0, 1) := by decide +kernel
theorem d_M_init_69 : decode b_M_init 69 = .ok (.bipush 96, 2) := by decide +kernel
theorem d_M_init_71 : decode b_M_init 71 = .ok (.newarray .int, 2) := by decide +kernel
theorem d_M_init_73 : decode b_M_init 73 = .ok (.putfield 36, 3) := by decide +kernel
theorem d_M_init_76 : decode b_M_init 76 = .ok (.aload_n 0, 1) := by decide +kernel
theorem d_M_init_77 : decode b_M_init 77 = .ok (.bipush 16, 2) := by decide +kernel
theorem d_M_init_79 : decode b_M_init 79 = .ok (.newarray .int, 2) := by decide +kernel
theorem d_M_init_81 : decode b_M_init 81 = .ok (.putfield 39, 3) := by decide +kernel
theorem d_M_init_84 : decode b_M_init 84 = .ok (.aload_n 0, 1) := by decide +kernel
theorem d_M_init_85 : decode b_M_init 85 = .ok (.bipush 64, 2) := by decide +kernel
theorem d_M_init_87 : decode b_M_init 87 = .ok (.newarray .int, 2) := by decide +kernel
theorem d_M_init_89 : decode b_M_init 89 = .ok (.putfield 42, 3) := by decide +kernel
theorem d_M_init_92 : decode b_M_init 92 = .ok (.aload_n 0, 1) := by decide +kernel
theorem d_M_init_93 : decode b_M_init 93 = .ok (.bipush 64, 2) := by decide +kernel
theorem d_M_init_95 : decode b_M_init 95 = .ok (.newarray .long, 2) := by decide +kernel
theorem d_M_init_97 : decode b_M_init 97 = .ok (.putfield 45, 3) := by decide +kernel
theorem d_M_init_100 : decode b_M_init 100 = .ok (.aload_n 0, 1) := by decide +kernel
theorem d_M_init_101 : decode b_M_init 101 = .ok (.sipush 384, 3) := by decide +kernel
theorem d_M_init_104 : decode b_M_init 104 = .ok (.newarray .long, 2) := by decide +kernel
theorem d_M_init_106 : decode b_M_init 106 = .ok (.putfield 48, 3) := by decide +kernel
theorem d_M_init_109 : decode b_M_init 109 = .ok (.aload_n 0, 1) := by decide +kernel
theorem d_M_init_110 : decode b_M_init 110 = .ok (.sipush 384, 3) := by decide +kernel
theorem d_M_init_113 : decode b_M_init 113 = .ok (.newarray .boolean, 2) := by decide +kernel
theorem d_M_init_115 : decode b_M_init 115 = .ok (.putfield 51, 3) := by decide +kernel
theorem d_M_init_118 : decode b_M_init 118 = .ok (.aload_n 0, 1) := by decide +kernel
theorem d_M_init_119 : decode b_M_init 119 = .ok (.bipush 16, 2) := by decide +kernel
theorem d_M_init_121 : decode b_M_init 121 = .ok (.newarray .int, 2) := by decide +kernel
theorem d_M_init_123 : decode b_M_init 123 = .ok (.putfield 54, 3) := by decide +kernel
theorem d_M_init_126 : decode b_M_init 126 = .ok (.aload_n 0, 1) := by decide +kernel
theorem d_M_init_127 : decode b_M_init 127 = .ok (.bipush 16, 2) := by decide +kernel
theorem d_M_init_129 : decode b_M_init 129 = .ok (.newarray .int, 2) := by decide +kernel
theorem d_M_init_131 : decode b_M_init 131 = .ok (.putfield 57, 3) := by decide +kernel
theorem d_M_init_134 : decode b_M_init 134 = .ok (.aload_n 0, 1) := by decide +kernel
theorem d_M_init_135 : decode b_M_init 135 = .ok (.iconst 5, 1) := by decide +kernel
theorem d_M_init_136 : decode b_M_init 136 = .ok (.newarray .int, 2) := by decide +kernel
theorem d_M_init_138 : decode b_M_init 138 = .ok (.putfield 60, 3) := by decide +kernel
theorem d_M_init_141 : decode b_M_init 141 = .ok (.aload_n 0, 1) := by decide +kernel
theorem d_M_init_142 : decode b_M_init 142 = .ok (.iconst 4, 1) := by decide +kernel
theorem d_M_init_143 : decode b_M_init 143 = .ok (.newarray .int, 2) := by decide +kernel
theorem d_M_init_145 : decode b_M_init 145 = .ok (.putfield 63, 3) := by decide +kernel
theorem d_M_init_148 : decode b_M_init 148 = .ok (.aload_n 0, 1) := by decide +kernel
theorem d_M_init_149 : decode b_M_init 149 = .ok (.bipush 16, 2) := by decide +kernel
theorem d_M_init_151 : decode b_M_init 151 = .ok (.newarray .boolean, 2) := by decide +kernel
theorem d_M_init_153 : decode b_M_init 153 = .ok (.putfield 66, 3) := by decide +kernel
theorem d_M_init_156 : decode b_M_init 156 = .ok (.aload_n 0, 1) := by decide +kernel
theorem d_M_init_157 : decode b_M_init 157 = .ok (.bipush 16, 2) := by decide +kernel
theorem d_M_init_159 : decode b_M_init 159 = .ok (.newarray .boolean, 2) := by decide +kernel
theorem d_M_init_161 : decode b_M_init 161 = .ok (.putfield 69, 3) := by decide +kernel
theorem d_M_init_164 : decode b_M_init 164 = .ok (.return_, 1) := by decide +kernel
theorem d_M_thrown_0 : decode b_M_thrown 0 = .ok (.aload_n 0, 1) := by decide +kernel
theorem d_M_thrown_1 : decode b_M_thrown 1 = .ok (.getfield 72, 3) := by decide +kernel
theorem d_M_thrown_4 : decode b_M_thrown 4 = .ok (.ireturn, 1) := by decide +kernel
theorem d_M_isFile_0 : decode b_M_isFile 0 = .ok (.iload_n 1, 1) := by decide +kernel
theorem d_M_isFile_1 : decode b_M_isFile 1 = .ok (.ifCond .lt 15, 3) := by decide +kernel
theorem d_M_isFile_4 : decode b_M_isFile 4 = .ok (.iload_n 1, 1) := by decide +kernel
theorem d_M_isFile_5 : decode b_M_isFile 5 = .ok (.aload_n 0, 1) := by decide +kernel
theorem d_M_isFile_6 : decode b_M_isFile 6 = .ok (.getfield 76, 3) := by decide +kernel
theorem d_M_isFile_9 : decode b_M_isFile 9 = .ok (.if_icmp .ge 7, 3) := by decide +kernel
theorem d_M_isFile_12 : decode b_M_isFile 12 = .ok (.iconst 1, 1) := by decide +kernel
theorem d_M_isFile_13 : decode b_M_isFile 13 = .ok (.goto 4, 3) := by decide +kernel
theorem d_M_isFile_16 : decode b_M_isFile 16 = .ok (.iconst 0, 1) := by decide +kernel
theorem d_M_isFile_17 : decode b_M_isFile 17 = .ok (.ireturn, 1) := by decide +kernel
theorem d_M_isStep_0 : decode b_M_isStep 0 = .ok (.iload_n 1, 1) := by decide +kernel
theorem d_M_isStep_1 : decode b_M_isStep 1 = .ok (.ifCond .lt 15, 3) := by decide +kernel
theorem d_M_isStep_4 : decode b_M_isStep 4 = .ok (.iload_n 1, 1) := by decide +kernel
theorem d_M_isStep_5 : decode b_M_isStep 5 = .ok (.aload_n 0, 1) := by decide +kernel
theorem d_M_isStep_6 : decode b_M_isStep 6 = .ok (.getfield 79, 3) := by decide +kernel
theorem d_M_isStep_9 : decode b_M_isStep 9 = .ok (.if_icmp .ge 7, 3) := by decide +kernel
theorem d_M_isStep_12 : decode b_M_isStep 12 = .ok (.iconst 1, 1) := by decide +kernel
theorem d_M_isStep_13 : decode b_M_isStep 13 = .ok (.goto 4, 3) := by decide +kernel
theorem d_M_isStep_16 : decode b_M_isStep 16 = .ok (.iconst 0, 1) := by decide +kernel
theorem d_M_isStep_17 : decode b_M_isStep 17 = .ok (.ireturn, 1) := by decide +kernel
theorem d_M_file_0 : decode b_M_file 0 = .ok (.aload_n 0, 1) := by decide +kernel
theorem d_M_file_1 : decode b_M_file 1 = .ok (.iconst 0, 1) := by decide +kernel
theorem d_M_file_2 : decode b_M_file 2 = .ok (.putfield 72, 3) := by decide +kernel
theorem d_M_file_5 : decode b_M_file 5 = .ok (.aload_n 0, 1) := by decide +kernel
theorem d_M_file_6 : decode b_M_file 6 = .ok (.getfield 76, 3) := by decide +kernel
theorem d_M_file_9 : decode b_M_file 9 = .ok (.bipush 16, 2) := by decide +kernel
theorem d_M_file_11 : decode b_M_file 11 = .ok (.if_icmp .ne 5, 3) := by decide +kernel
theorem d_M_file_14 : decode b_M_file 14 = .ok (.iconst (-1), 1) := by decide +kernel
theorem d_M_file_15 : decode b_M_file 15 = .ok (.ireturn, 1) := by decide +kernel
theorem d_M_file_16 : decode b_M_file 16 = .ok (.aload_n 0, 1) := by decide +kernel
theorem d_M_file_17 : decode b_M_file 17 = .ok (.getfield 7, 3) := by decide +kernel
theorem d_M_file_20 : decode b_M_file 20 = .ok (.aload_n 0, 1) := by decide +kernel
theorem d_M_file_21 : decode b_M_file 21 = .ok (.getfield 76, 3) := by decide +kernel
theorem d_M_file_24 : decode b_M_file 24 = .ok (.lload_n 1, 1) := by decide +kernel
theorem d_M_file_25 : decode b_M_file 25 = .ok (.lastore, 1) := by decide +kernel
theorem d_M_file_26 : decode b_M_file 26 = .ok (.aload_n 0, 1) := by decide +kernel
theorem d_M_file_27 : decode b_M_file 27 = .ok (.getfield 19, 3) := by decide +kernel
theorem d_M_file_30 : decode b_M_file 30 = .ok (.aload_n 0, 1) := by decide +kernel
theorem d_M_file_31 : decode b_M_file 31 = .ok (.getfield 76, 3) := by decide +kernel
theorem d_M_file_34 : decode b_M_file 34 = .ok (.iconst 1, 1) := by decide +kernel
theorem d_M_file_35 : decode b_M_file 35 = .ok (.bastore, 1) := by decide +kernel
theorem d_M_file_36 : decode b_M_file 36 = .ok (.aload_n 0, 1) := by decide +kernel
theorem d_M_file_37 : decode b_M_file 37 = .ok (.dup, 1) := by decide +kernel
theorem d_M_file_38 : decode b_M_file 38 = .ok (.getfield 76, 3) := by decide +kernel
theorem d_M_file_41 : decode b_M_file 41 = .ok (.iconst 1, 1) := by decide +kernel
theorem d_M_file_42 : decode b_M_file 42 = .ok (.iadd, 1) := by decide +kernel
theorem d_M_file_43 : decode b_M_file 43 = .ok (.putfield 76, 3) := by decide +kernel
theorem d_M_file_46 : decode b_M_file 46 = .ok (.aload_n 0, 1) := by decide +kernel
theorem d_M_file_47 : decode b_M_file 47 = .ok (.getfield 76, 3) := by decide +kernel
theorem d_M_file_50 : decode b_M_file 50 = .ok (.iconst 1, 1) := by decide +kernel
theorem d_M_file_51 : decode b_M_file 51 = .ok (.isub, 1) := by decide +kernel
theorem d_M_file_52 : decode b_M_file 52 = .ok (.ireturn, 1) := by decide +kernel
theorem d_M_set_0 : decode b_M_set 0 = .ok (.aload_n 0, 1) := by decide +kernel
theorem d_M_set_1 : decode b_M_set 1 = .ok (.iconst 0, 1) := by decide +kernel
theorem d_M_set_2 : decode b_M_set 2 = .ok (.putfield 72, 3) := by decide +kernel
theorem d_M_set_5 : decode b_M_set 5 = .ok (.aload_n 0, 1) := by decide +kernel
theorem d_M_set_6 : decode b_M_set 6 = .ok (.iload_n 1, 1) := by decide +kernel
theorem d_M_set_7 : decode b_M_set 7 = .ok (.invokevirtual 82, 3) := by decide +kernel
theorem d_M_set_10 : decode b_M_set 10 = .ok (.ifCond .ne 5, 3) := by decide +kernel
theorem d_M_set_13 : decode b_M_set 13 = .ok (.iconst 0, 1) := by decide +kernel
theorem d_M_set_14 : decode b_M_set 14 = .ok (.ireturn, 1) := by decide +kernel
theorem d_M_set_15 : decode b_M_set 15 = .ok (.aload_n 0, 1) := by decide +kernel
theorem d_M_set_16 : decode b_M_set 16 = .ok (.getfield 19, 3) := by decide +kernel
theorem d_M_set_19 : decode b_M_set 19 = .ok (.iload_n 1, 1) := by decide +kernel
theorem d_M_set_20 : decode b_M_set 20 = .ok (.iload_n 2, 1) := by decide +kernel
theorem d_M_set_21 : decode b_M_set 21 = .ok (.bastore, 1) := by decide +kernel
theorem d_M_set_22 : decode b_M_set 22 = .ok (.aload_n 0, 1) := by decide +kernel
theorem d_M_set_23 : decode b_M_set 23 = .ok (.getfield 7, 3) := by decide +kernel
theorem d_M_set_26 : decode b_M_set 26 = .ok (.iload_n 1, 1) := by decide +kernel
theorem d_M_set_27 : decode b_M_set 27 = .ok (.iload_n 2, 1) := by decide +kernel
theorem d_M_set_28 : decode b_M_set 28 = .ok (.ifCond .eq 7, 3) := by decide +kernel
theorem d_M_set_31 : decode b_M_set 31 = .ok (.lload_n 3, 1) := by decide +kernel
theorem d_M_set_32 : decode b_M_set 32 = .ok (.goto 4, 3) := by decide +kernel
theorem d_M_set_35 : decode b_M_set 35 = .ok (.lconst 0, 1) := by decide +kernel
theorem d_M_set_36 : decode b_M_set 36 = .ok (.lastore, 1) := by decide +kernel
theorem d_M_set_37 : decode b_M_set 37 = .ok (.iconst 1, 1) := by decide +kernel
theorem d_M_set_38 : decode b_M_set 38 = .ok (.ireturn, 1) := by decide +kernel
theorem d_M_touch_0 : decode b_M_touch 0 = .ok (.aload_n 0, 1) := by decide +kernel
theorem d_M_touch_1 : decode b_M_touch 1 = .ok (.iconst 0, 1) := by decide +kernel
theorem d_M_touch_2 : decode b_M_touch 2 = .ok (.putfield 72, 3) := by decide +kernel
theorem d_M_touch_5 : decode b_M_touch 5 = .ok (.aload_n 0, 1) := by decide +kernel
theorem d_M_touch_6 : decode b_M_touch 6 = .ok (.iload_n 1, 1) := by decide +kernel
theorem d_M_touch_7 : decode b_M_touch 7 = .ok (.invokevirtual 82, 3) := by decide +kernel
theorem d_M_touch_10 : decode b_M_touch 10 = .ok (.ifCond .ne 5, 3) := by decide +kernel
theorem d_M_touch_13 : decode b_M_touch 13 = .ok (.iconst (-1), 1) := by decide +kernel
theorem d_M_touch_14 : decode b_M_touch 14 = .ok (.ireturn, 1) := by decide +kernel
theorem d_M_touch_15 : decode b_M_touch 15 = .ok (.aload_n 0, 1) := by decide +kernel
theorem d_M_touch_16 : decode b_M_touch 16 = .ok (.getfield 26, 3) := by decide +kernel
theorem d_M_touch_19 : decode b_M_touch 19 = .ok (.iload_n 1, 1) := by decide +kernel
theorem d_M_touch_20 : decode b_M_touch 20 = .ok (.dup2, 1) := by decide +kernel
theorem d_M_touch_21 : decode b_M_touch 21 = .ok (.iaload, 1) := by decide +kernel
theorem d_M_touch_22 : decode b_M_touch 22 = .ok (.iconst 1, 1) := by decide +kernel
theorem d_M_touch_23 : decode b_M_touch 23 = .ok (.iadd, 1) := by decide +kernel
theorem d_M_touch_24 : decode b_M_touch 24 = .ok (.iastore, 1) := by decide +kernel
theorem d_M_touch_25 : decode b_M_touch 25 = .ok (.aload_n 0, 1) := by decide +kernel
theorem d_M_touch_26 : decode b_M_touch 26 = .ok (.getfield 26, 3) := by decide +kernel
theorem d_M_touch_29 : decode b_M_touch 29 = .ok (.iload_n 1, 1) := by decide +kernel
theorem d_M_touch_30 : decode b_M_touch 30 = .ok (.iaload, 1) := by decide +kernel
theorem d_M_touch_31 : decode b_M_touch 31 = .ok (.ireturn, 1) := by decide +kernel
theorem d_M_step_0 : decode b_M_step 0 = .ok (.aload_n 0, 1) := by decide +kernel
theorem d_M_step_1 : decode b_M_step 1 = .ok (.iconst 0, 1) := by decide +kernel
theorem d_M_step_2 : decode b_M_step 2 = .ok (.putfield 72, 3) := by decide +kernel
theorem d_M_step_5 : decode b_M_step 5 = .ok (.aload_n 0, 1) := by decide +kernel
theorem d_M_step_6 : decode b_M_step 6 = .ok (.getfield 79, 3) := by decide +kernel
theorem d_M_step_9 : decode b_M_step 9 = .ok (.bipush 16, 2) := by decide +kernel
theorem d_M_step_11 : decode b_M_step 11 = .ok (.if_icmp .eq 9, 3) := by decide +kernel
theorem d_M_step_14 : decode b_M_step 14 = .ok (.lload_n 3, 1) := by decide +kernel
theorem d_M_step_15 : decode b_M_step 15 = .ok (.lconst 0, 1) := by decide +kernel
theorem d_M_step_16 : decode b_M_step 16 = .ok (.lcmp, 1) := by decide +kernel
theorem d_M_step_17 : decode b_M_step 17 = .ok (.ifCond .ge 5, 3) := by decide +kernel
theorem d_M_step_20 : decode b_M_step 20 = .ok (.iconst (-1), 1) := by decide +kernel
theorem d_M_step_21 : decode b_M_step 21 = .ok (.ireturn, 1) := by decide +kernel
theorem d_M_step_22 : decode b_M_step 22 = .ok (.aload_n 0, 1) := by decide +kernel
theorem d_M_step_23 : decode b_M_step 23 = .ok (.getfield 13, 3) := by decide +kernel
theorem d_M_step_26 : decode b_M_step 26 = .ok (.aload_n 0, 1) := by decide +kernel
theorem d_M_step_27 : decode b_M_step 27 = .ok (.getfield 79, 3) := by decide +kernel
theorem d_M_step_30 : decode b_M_step 30 = .ok (.lload_n 1, 1) := by decide +kernel
theorem d_M_step_31 : decode b_M_step 31 = .ok (.lastore, 1) := by decide +kernel
theorem d_M_step_32 : decode b_M_step 32 = .ok (.aload_n 0, 1) := by decide +kernel
theorem d_M_step_33 : decode b_M_step 33 = .ok (.getfield 16, 3) := by decide +kernel
theorem d_M_step_36 : decode b_M_step 36 = .ok (.aload_n 0, 1) := by decide +kernel
theorem d_M_step_37 : decode b_M_step 37 = .ok (.getfield 79, 3) := by decide +kernel
theorem d_M_step_40 : decode b_M_step 40 = .ok (.lload_n 3, 1) := by decide +kernel
theorem d_M_step_41 : decode b_M_step 41 = .ok (.lastore, 1) := by decide +kernel
theorem d_M_step_42 : decode b_M_step 42 = .ok (.aload_n 0, 1) := by decide +kernel
theorem d_M_step_43 : decode b_M_step 43 = .ok (.dup, 1) := by decide +kernel
theorem d_M_step_44 : decode b_M_step 44 = .ok (.getfield 79, 3) := by decide +kernel
theorem d_M_step_47 : decode b_M_step 47 = .ok (.iconst 1, 1) := by decide +kernel
theorem d_M_step_48 : decode b_M_step 48 = .ok (.iadd, 1) := by decide +kernel
theorem d_M_step_49 : decode b_M_step 49 = .ok (.putfield 79, 3) := by decide +kernel
theorem d_M_step_52 : decode b_M_step 52 = .ok (.aload_n 0, 1) := by decide +kernel
theorem d_M_step_53 : decode b_M_step 53 = .ok (.getfield 79, 3) := by decide +kernel
theorem d_M_step_56 : decode b_M_step 56 = .ok (.iconst 1, 1) := by decide +kernel
theorem d_M_step_57 : decode b_M_step 57 = .ok (.isub, 1) := by decide +kernel
theorem d_M_step_58 : decode b_M_step 58 = .ok (.ireturn, 1) := by decide +kernel
theorem d_M_more_0 : decode b_M_more 0 = .ok (.aload_n 0, 1) := by decide +kernel
theorem d_M_more_1 : decode b_M_more 1 = .ok (.getfield 30, 3) := by decide +kernel
theorem d_M_more_4 : decode b_M_more 4 = .ok (.iload_n 1, 1) := by decide +kernel
theorem d_M_more_5 : decode b_M_more 5 = .ok (.iaload, 1) := by decide +kernel
theorem d_M_more_6 : decode b_M_more 6 = .ok (.bipush 6, 2) := by decide +kernel
theorem d_M_more_8 : decode b_M_more 8 = .ok (.if_icmp .ne 5, 3) := by decide +kernel
theorem d_M_more_11 : decode b_M_more 11 = .ok (.iconst 0, 1) := by decide +kernel
theorem d_M_more_12 : decode b_M_more 12 = .ok (.ireturn, 1) := by decide +kernel
theorem d_M_more_13 : decode b_M_more 13 = .ok (.iconst 0, 1) := by decide +kernel
theorem d_M_more_14 : decode b_M_more 14 = .ok (.istore 4, 2) := by decide +kernel
theorem d_M_more_16 : decode b_M_more 16 = .ok (.iload 4, 2) := by decide +kernel
theorem d_M_more_18 : decode b_M_more 18 = .ok (.aload_n 0, 1) := by decide +kernel
theorem d_M_more_19 : decode b_M_more 19 = .ok (.getfield 30, 3) := by decide +kernel
theorem d_M_more_22 : decode b_M_more 22 = .ok (.iload_n 1, 1) := by decide +kernel
theorem d_M_more_23 : decode b_M_more 23 = .ok (.iaload, 1) := by decide +kernel
theorem d_M_more_24 : decode b_M_more 24 = .ok (.if_icmp .ge 43, 3) := by decide +kernel
theorem d_M_more_27 : decode b_M_more 27 = .ok (.aload_n 0, 1) := by decide +kernel
theorem d_M_more_28 : decode b_M_more 28 = .ok (.getfield 33, 3) := by decide +kernel
theorem d_M_more_31 : decode b_M_more 31 = .ok (.bipush 6, 2) := by decide +kernel
theorem d_M_more_33 : decode b_M_more 33 = .ok (.iload_n 1, 1) := by decide +kernel
theorem d_M_more_34 : decode b_M_more 34 = .ok (.imul, 1) := by decide +kernel
theorem d_M_more_35 : decode b_M_more 35 = .ok (.iload 4, 2) := by decide +kernel
theorem d_M_more_37 : decode b_M_more 37 = .ok (.iadd, 1) := by decide +kernel
theorem d_M_more_38 : decode b_M_more 38 = .ok (.iaload, 1) := by decide +kernel
theorem d_M_more_39 : decode b_M_more 39 = .ok (.iload_n 2, 1) := by decide +kernel
theorem d_M_more_40 : decode b_M_more 40 = .ok (.if_icmp .ne 21, 3) := by decide +kernel
theorem d_M_more_43 : decode b_M_more 43 = .ok (.aload_n 0, 1) := by decide +kernel
theorem d_M_more_44 : decode b_M_more 44 = .ok (.getfield 36, 3) := by decide +kernel
theorem d_M_more_47 : decode b_M_more 47 = .ok (.bipush 6, 2) := by decide +kernel
theorem d_M_more_49 : decode b_M_more 49 = .ok (.iload_n 1, 1) := by decide +kernel
theorem d_M_more_50 : decode b_M_more 50 = .ok (.imul, 1) := by decide +kernel
theorem d_M_more_51 : decode b_M_more 51 = .ok (.iload 4, 2) := by decide +kernel
theorem d_M_more_53 : decode b_M_more 53 = .ok (.iadd, 1) := by decide +kernel
theorem d_M_more_54 : decode b_M_more 54 = .ok (.iaload, 1) := by decide +kernel
theorem d_M_more_55 : decode b_M_more 55 = .ok (.iload_n 3, 1) := by decide +kernel
theorem d_M_more_56 : decode b_M_more 56 = .ok (.if_icmp .ne 5, 3) := by decide +kernel
theorem d_M_more_59 : decode b_M_more 59 = .ok (.iconst 0, 1) := by decide +kernel
theorem d_M_more_60 : decode b_M_more 60 = .ok (.ireturn, 1) := by decide +kernel
theorem d_M_more_61 : decode b_M_more 61 = .ok (.iinc 4 1, 3) := by decide +kernel
theorem d_M_more_64 : decode b_M_more 64 = .ok (.goto (-48), 3) := by decide +kernel
theorem d_M_more_67 : decode b_M_more 67 = .ok (.aload_n 0, 1) := by decide +kernel
theorem d_M_more_68 : decode b_M_more 68 = .ok (.getfield 33, 3) := by decide +kernel
theorem d_M_more_71 : decode b_M_more 71 = .ok (.bipush 6, 2) := by decide +kernel
theorem d_M_more_73 : decode b_M_more 73 = .ok (.iload_n 1, 1) := by decide +kernel
theorem d_M_more_74 : decode b_M_more 74 = .ok (.imul, 1) := by decide +kernel
theorem d_M_more_75 : decode b_M_more 75 = .ok (.aload_n 0, 1) := by decide +kernel
theorem d_M_more_76 : decode b_M_more 76 = .ok (.getfield 30, 3) := by decide +kernel
theorem d_M_more_79 : decode b_M_more 79 = .ok (.iload_n 1, 1) := by decide +kernel
theorem d_M_more_80 : decode b_M_more 80 = .ok (.iaload, 1) := by decide +kernel
theorem d_M_more_81 : decode b_M_more 81 = .ok (.iadd, 1) := by decide +kernel
theorem d_M_more_82 : decode b_M_more 82 = .ok (.iload_n 2, 1) := by decide +kernel
theorem d_M_more_83 : decode b_M_more 83 = .ok (.iastore, 1) := by decide +kernel
theorem d_M_more_84 : decode b_M_more 84 = .ok (.aload_n 0, 1) := by decide +kernel
theorem d_M_more_85 : decode b_M_more 85 = .ok (.getfield 36, 3) := by decide +kernel
theorem d_M_more_88 : decode b_M_more 88 = .ok (.bipush 6, 2) := by decide +kernel
theorem d_M_more_90 : decode b_M_more 90 = .ok (.iload_n 1, 1) := by decide +kernel
theorem d_M_more_91 : decode b_M_more 91 = .ok (.imul, 1) := by decide +kernel
theorem d_M_more_92 : decode b_M_more 92 = .ok (.aload_n 0, 1) := by decide +kernel
theorem d_M_more_93 : decode b_M_more 93 = .ok (.getfield 30, 3) := by decide +kernel
theorem d_M_more_96 : decode b_M_more 96 = .ok (.iload_n 1, 1) := by decide +kernel
theorem d_M_more_97 : decode b_M_more 97 = .ok (.iaload, 1) := by decide +kernel
theorem d_M_more_98 : decode b_M_more 98 = .ok (.iadd, 1) := by decide +kernel
theorem d_M_more_99 : decode b_M_more 99 = .ok (.iload_n 3, 1) := by decide +kernel
theorem d_M_more_100 : decode b_M_more 100 = .ok (.iastore, 1) := by decide +kernel
theorem d_M_more_101 : decode b_M_more 101 = .ok (.aload_n 0, 1) := by decide +kernel
theorem d_M_more_102 : decode b_M_more 102 = .ok (.getfield 30, 3) := by decide +kernel
theorem d_M_more_105 : decode b_M_more 105 = .ok (.iload_n 1, 1) := by decide +kernel
theorem d_M_more_106 : decode b_M_more 106 = .ok (.dup2, 1) := by decide +kernel
theorem d_M_more_107 : decode b_M_more 107 = .ok (.iaload, 1) := by decide +kernel
theorem d_M_more_108 : decode b_M_more 108 = .ok (.iconst 1, 1) := by decide +kernel
theorem d_M_more_109 : decode b_M_more 109 = .ok (.iadd, 1) := by decide +kernel
theorem d_M_more_110 : decode b_M_more 110 = .ok (.iastore, 1) := by decide +kernel
theorem d_M_more_111 : decode b_M_more 111 = .ok (.aload_n 0, 1) := by decide +kernel
theorem d_M_more_112 : decode b_M_more 112 = .ok (.getfield 39, 3) := by decide +kernel
theorem d_M_more_115 : decode b_M_more 115 = .ok (.iload_n 1, 1) := by decide +kernel
theorem d_M_more_116 : decode b_M_more 116 = .ok (.iconst 0, 1) := by decide +kernel
theorem d_M_more_117 : decode b_M_more 117 = .ok (.iastore, 1) := by decide +kernel
theorem d_M_more_118 : decode b_M_more 118 = .ok (.iconst 1, 1) := by decide +kernel
theorem d_M_more_119 : decode b_M_more 119 = .ok (.ireturn, 1) := by decide +kernel
theorem d_M_readsFile_0 : decode b_M_readsFile 0 = .ok (.aload_n 0, 1) := by decide +kernel
theorem d_M_readsFile_1 : decode b_M_readsFile 1 = .ok (.iconst 0, 1) := by decide +kernel
theorem d_M_readsFile_2 : decode b_M_readsFile 2 = .ok (.putfield 72, 3) := by decide +kernel
theorem d_M_readsFile_5 : decode b_M_readsFile 5 = .ok (.aload_n 0, 1) := by decide +kernel
theorem d_M_readsFile_6 : decode b_M_readsFile 6 = .ok (.iload_n 1, 1) := by decide +kernel
theorem d_M_readsFile_7 : decode b_M_readsFile 7 = .ok (.invokevirtual 86, 3) := by decide +kernel
theorem d_M_readsFile_10 : decode b_M_readsFile 10 = .ok (.ifCond .eq 25, 3) := by decide +kernel
theorem d_M_readsFile_13 : decode b_M_readsFile 13 = .ok (.aload_n 0, 1) := by decide +kernel
theorem d_M_readsFile_14 : decode b_M_readsFile 14 = .ok (.iload_n 2, 1) := by decide +kernel
theorem d_M_readsFile_15 : decode b_M_readsFile 15 = .ok (.invokevirtual 82, 3) := by decide +kernel
theorem d_M_readsFile_18 : decode b_M_readsFile 18 = .ok (.ifCond .eq 17, 3) := by decide +kernel
theorem d_M_readsFile_21 : decode b_M_readsFile 21 = .ok (.aload_n 0, 1) := by decide +kernel
theorem d_M_readsFile_22 : decode b_M_readsFile 22 = .ok (.iload_n 1, 1) := by decide +kernel
theorem d_M_readsFile_23 : decode b_M_readsFile 23 = .ok (.iload_n 2, 1) := by decide +kernel
theorem d_M_readsFile_24 : decode b_M_readsFile 24 = .ok (.iconst 2, 1) := by decide +kernel
theorem d_M_readsFile_25 : decode b_M_readsFile 25 = .ok (.invokevirtual 89, 3) := by decide +kernel
theorem d_M_readsFile_28 : decode b_M_readsFile 28 = .ok (.ifCond .eq 7, 3) := by decide +kernel
theorem d_M_readsFile_31 : decode b_M_readsFile 31 = .ok (.iconst 1, 1) := by decide +kernel
theorem d_M_readsFile_32 : decode b_M_readsFile 32 = .ok (.goto 4, 3) := by decide +kernel
theorem d_M_readsFile_35 : decode b_M_readsFile 35 = .ok (.iconst 0, 1) := by decide +kernel
theorem d_M_readsFile_36 : decode b_M_readsFile 36 = .ok (.ireturn, 1) := by decide +kernel
theorem d_M_readsPart_0 : decode b_M_readsPart 0 = .ok (.aload_n 0, 1) := by decide +kernel
theorem d_M_readsPart_1 : decode b_M_readsPart 1 = .ok (.iconst 0, 1) := by decide +kernel
theorem d_M_readsPart_2 : decode b_M_readsPart 2 = .ok (.putfield 72, 3) := by decide +kernel
theorem d_M_readsPart_5 : decode b_M_readsPart 5 = .ok (.aload_n 0, 1) := by decide +kernel
theorem d_M_readsPart_6 : decode b_M_readsPart 6 = .ok (.iload_n 1, 1) := by decide +kernel
theorem d_M_readsPart_7 : decode b_M_readsPart 7 = .ok (.invokevirtual 86, 3) := by decide +kernel
theorem d_M_readsPart_10 : decode b_M_readsPart 10 = .ok (.ifCond .eq 35, 3) := by decide +kernel
theorem d_M_readsPart_13 : decode b_M_readsPart 13 = .ok (.iload_n 2, 1) := by decide +kernel
theorem d_M_readsPart_14 : decode b_M_readsPart 14 = .ok (.ifCond .lt 31, 3) := by decide +kernel
theorem d_M_readsPart_17 : decode b_M_readsPart 17 = .ok (.iload_n 2, 1) := by decide +kernel
theorem d_M_readsPart_18 : decode b_M_readsPart 18 = .ok (.iload_n 1, 1) := by decide +kernel
theorem d_M_readsPart_19 : decode b_M_readsPart 19 = .ok (.if_icmp .ge 26, 3) := by decide +kernel
theorem d_M_readsPart_22 : decode b_M_readsPart 22 = .ok (.iload_n 3, 1) := by decide +kernel
theorem d_M_readsPart_23 : decode b_M_readsPart 23 = .ok (.ifCond .eq 8, 3) := by decide +kernel
theorem d_M_readsPart_26 : decode b_M_readsPart 26 = .ok (.iload_n 3, 1) := by decide +kernel
theorem d_M_readsPart_27 : decode b_M_readsPart 27 = .ok (.iconst 1, 1) := by decide +kernel
theorem d_M_readsPart_28 : decode b_M_readsPart 28 = .ok (.if_icmp .ne 17, 3) := by decide +kernel
theorem d_M_readsPart_31 : decode b_M_readsPart 31 = .ok (.aload_n 0, 1) := by decide +kernel
theorem d_M_readsPart_32 : decode b_M_readsPart 32 = .ok (.iload_n 1, 1) := by decide +kernel
theorem d_M_readsPart_33 : decode b_M_readsPart 33 = .ok (.iload_n 2, 1) := by decide +kernel
theorem d_M_readsPart_34 : decode b_M_readsPart 34 = .ok (.iload_n 3, 1) := by decide +kernel
theorem d_M_readsPart_35 : decode b_M_readsPart 35 = .ok (.invokevirtual 89, 3) := by decide +kernel
theorem d_M_readsPart_38 : decode b_M_readsPart 38 = .ok (.ifCond .eq 7, 3) := by decide +kernel
theorem d_M_readsPart_41 : decode b_M_readsPart 41 = .ok (.iconst 1, 1) := by decide +kernel
theorem d_M_readsPart_42 : decode b_M_readsPart 42 = .ok (.goto 4, 3) := by decide +kernel
theorem d_M_readsPart_45 : decode b_M_readsPart 45 = .ok (.iconst 0, 1) := by decide +kernel
theorem d_M_readsPart_46 : decode b_M_readsPart 46 = .ok (.ireturn, 1) := by decide +kernel
theorem d_M_force_0 : decode b_M_force 0 = .ok (.aload_n 0, 1) := by decide +kernel
theorem d_M_force_1 : decode b_M_force 1 = .ok (.iconst 0, 1) := by decide +kernel
theorem d_M_force_2 : decode b_M_force 2 = .ok (.putfield 72, 3) := by decide +kernel
theorem d_M_force_5 : decode b_M_force 5 = .ok (.aload_n 0, 1) := by decide +kernel
theorem d_M_force_6 : decode b_M_force 6 = .ok (.iload_n 1, 1) := by decide +kernel
theorem d_M_force_7 : decode b_M_force 7 = .ok (.invokevirtual 86, 3) := by decide +kernel
theorem d_M_force_10 : decode b_M_force 10 = .ok (.ifCond .eq 12, 3) := by decide +kernel
theorem d_M_force_13 : decode b_M_force 13 = .ok (.aload_n 0, 1) := by decide +kernel
theorem d_M_force_14 : decode b_M_force 14 = .ok (.getfield 23, 3) := by decide +kernel
theorem d_M_force_17 : decode b_M_force 17 = .ok (.iload_n 1, 1) := by decide +kernel
theorem d_M_force_18 : decode b_M_force 18 = .ok (.baload, 1) := by decide +kernel
theorem d_M_force_19 : decode b_M_force 19 = .ok (.ifCond .eq 5, 3) := by decide +kernel
theorem d_M_force_22 : decode b_M_force 22 = .ok (.iconst 0, 1) := by decide +kernel
theorem d_M_force_23 : decode b_M_force 23 = .ok (.ireturn, 1) := by decide +kernel
theorem d_M_force_24 : decode b_M_force 24 = .ok (.aload_n 0, 1) := by decide +kernel
theorem d_M_force_25 : decode b_M_force 25 = .ok (.getfield 23, 3) := by decide +kernel
theorem d_M_force_28 : decode b_M_force 28 = .ok (.iload_n 1, 1) := by decide +kernel
theorem d_M_force_29 : decode b_M_force 29 = .ok (.iconst 1, 1) := by decide +kernel
theorem d_M_force_30 : decode b_M_force 30 = .ok (.bastore, 1) := by decide +kernel
theorem d_M_force_31 : decode b_M_force 31 = .ok (.iconst 1, 1) := by decide +kernel
theorem d_M_force_32 : decode b_M_force 32 = .ok (.ireturn, 1) := by decide +kernel
theorem d_M_record4_0 : decode b_M_record4 0 = .ok (.iconst 4, 1) := by decide +kernel
theorem d_M_record4_1 : decode b_M_record4 1 = .ok (.iload_n 0, 1) := by decide +kernel
theorem d_M_record4_2 : decode b_M_record4 2 = .ok (.imul, 1) := by decide +kernel
theorem d_M_record4_3 : decode b_M_record4 3 = .ok (.iload_n 1, 1) := by decide +kernel
theorem d_M_record4_4 : decode b_M_record4 4 = .ok (.iadd, 1) := by decide +kernel
theorem d_M_record4_5 : decode b_M_record4 5 = .ok (.ireturn, 1) := by decide +kernel
theorem d_M_isFileRead_0 : decode b_M_isFileRead 0 = .ok (.aload_n 0, 1) := by decide +kernel
theorem d_M_isFileRead_1 : decode b_M_isFileRead 1 = .ok (.getfield 36, 3) := by decide +kernel
theorem d_M_isFileRead_4 : decode b_M_isFileRead 4 = .ok (.bipush 6, 2) := by decide +kernel
theorem d_M_isFileRead_6 : decode b_M_isFileRead 6 = .ok (.iload_n 1, 1) := by decide +kernel
theorem d_M_isFileRead_7 : decode b_M_isFileRead 7 = .ok (.imul, 1) := by decide +kernel
theorem d_M_isFileRead_8 : decode b_M_isFileRead 8 = .ok (.iload_n 2, 1) := by decide +kernel
theorem d_M_isFileRead_9 : decode b_M_isFileRead 9 = .ok (.iadd, 1) := by decide +kernel
theorem d_M_isFileRead_10 : decode b_M_isFileRead 10 = .ok (.iaload, 1) := by decide +kernel
theorem d_M_isFileRead_11 : decode b_M_isFileRead 11 = .ok (.iconst 2, 1) := by decide +kernel
theorem d_M_isFileRead_12 : decode b_M_isFileRead 12 = .ok (.if_icmp .ne 7, 3) := by decide +kernel
theorem d_M_isFileRead_15 : decode b_M_isFileRead 15 = .ok (.iconst 1, 1) := by decide +kernel
theorem d_M_isFileRead_16 : decode b_M_isFileRead 16 = .ok (.goto 4, 3) := by decide +kernel
theorem d_M_isFileRead_19 : decode b_M_isFileRead 19 = .ok (.iconst 0, 1) := by decide +kernel
theorem d_M_isFileRead_20 : decode b_M_isFileRead 20 = .ok (.ireturn, 1) := by decide +kernel
theorem d_M_partOf_0 : decode b_M_partOf 0 = .ok (.iload_n 2, 1) := by decide +kernel
theorem d_M_partOf_1 : decode b_M_partOf 1 = .ok (.ifCond .ne 23, 3) := by decide +kernel
theorem d_M_partOf_4 : decode b_M_partOf 4 = .ok (.aload_n 0, 1) := by decide +kernel
theorem d_M_partOf_5 : decode b_M_partOf 5 = .ok (.getfield 45, 3) := by decide +kernel
theorem d_M_partOf_8 : decode b_M_partOf 8 = .ok (.iload_n 1, 1) := by decide +kernel
theorem d_M_partOf_9 : decode b_M_partOf 9 = .ok (.iconst 0, 1) := by decide +kernel
theorem d_M_partOf_10 : decode b_M_partOf 10 = .ok (.invokestatic 93, 3) := by decide +kernel
theorem d_M_partOf_13 : decode b_M_partOf 13 = .ok (.laload, 1) := by decide +kernel
theorem d_M_partOf_14 : decode b_M_partOf 14 = .ok (.aload_n 0, 1) := by decide +kernel
theorem d_M_partOf_15 : decode b_M_partOf 15 = .ok (.getfield 13, 3) := by decide +kernel
theorem d_M_partOf_18 : decode b_M_partOf 18 = .ok (.iload_n 1, 1) := by decide +kernel
theorem d_M_partOf_19 : decode b_M_partOf 19 = .ok (.laload, 1) := by decide +kernel
theorem d_M_partOf_20 : decode b_M_partOf 20 = .ok (.land, 1) := by decide +kernel
theorem d_M_partOf_21 : decode b_M_partOf 21 = .ok (.goto 13, 3) := by decide +kernel
theorem d_M_partOf_24 : decode b_M_partOf 24 = .ok (.aload_n 0, 1) := by decide +kernel
theorem d_M_partOf_25 : decode b_M_partOf 25 = .ok (.getfield 45, 3) := by decide +kernel
theorem d_M_partOf_28 : decode b_M_partOf 28 = .ok (.iload_n 1, 1) := by decide +kernel
theorem d_M_partOf_29 : decode b_M_partOf 29 = .ok (.iconst 0, 1) := by decide +kernel
theorem d_M_partOf_30 : decode b_M_partOf 30 = .ok (.invokestatic 93, 3) := by decide +kernel
theorem d_M_partOf_33 : decode b_M_partOf 33 = .ok (.laload, 1) := by decide +kernel
theorem d_M_partOf_34 : decode b_M_partOf 34 = .ok (.lreturn, 1) := by decide +kernel
theorem d_M_valueNow_0 : decode b_M_valueNow 0 = .ok (.aload_n 0, 1) := by decide +kernel
theorem d_M_valueNow_1 : decode b_M_valueNow 1 = .ok (.getfield 33, 3) := by decide +kernel
theorem d_M_valueNow_4 : decode b_M_valueNow 4 = .ok (.bipush 6, 2) := by decide +kernel
theorem d_M_valueNow_6 : decode b_M_valueNow 6 = .ok (.iload_n 1, 1) := by decide +kernel
theorem d_M_valueNow_7 : decode b_M_valueNow 7 = .ok (.imul, 1) := by decide +kernel
theorem d_M_valueNow_8 : decode b_M_valueNow 8 = .ok (.iload_n 2, 1) := by decide +kernel
theorem d_M_valueNow_9 : decode b_M_valueNow 9 = .ok (.iadd, 1) := by decide +kernel
theorem d_M_valueNow_10 : decode b_M_valueNow 10 = .ok (.iaload, 1) := by decide +kernel
theorem d_M_valueNow_11 : decode b_M_valueNow 11 = .ok (.istore_n 3, 1) := by decide +kernel
theorem d_M_valueNow_12 : decode b_M_valueNow 12 = .ok (.aload_n 0, 1) := by decide +kernel
theorem d_M_valueNow_13 : decode b_M_valueNow 13 = .ok (.iload_n 1, 1) := by decide +kernel
theorem d_M_valueNow_14 : decode b_M_valueNow 14 = .ok (.iload_n 2, 1) := by decide +kernel
theorem d_M_valueNow_15 : decode b_M_valueNow 15 = .ok (.invokevirtual 97, 3) := by decide +kernel
theorem d_M_valueNow_18 : decode b_M_valueNow 18 = .ok (.ifCond .eq 25, 3) := by decide +kernel
theorem d_M_valueNow_21 : decode b_M_valueNow 21 = .ok (.aload_n 0, 1) := by decide +kernel
theorem d_M_valueNow_22 : decode b_M_valueNow 22 = .ok (.getfield 19, 3) := by decide +kernel
theorem d_M_valueNow_25 : decode b_M_valueNow 25 = .ok (.iload_n 3, 1) := by decide +kernel
theorem d_M_valueNow_26 : decode b_M_valueNow 26 = .ok (.baload, 1) := by decide +kernel
theorem d_M_valueNow_27 : decode b_M_valueNow 27 = .ok (.ifCond .eq 12, 3) := by decide +kernel
theorem d_M_valueNow_30 : decode b_M_valueNow 30 = .ok (.aload_n 0, 1) := by decide +kernel
theorem d_M_valueNow_31 : decode b_M_valueNow 31 = .ok (.getfield 7, 3) := by decide +kernel
theorem d_M_valueNow_34 : decode b_M_valueNow 34 = .ok (.iload_n 3, 1) := by decide +kernel
theorem d_M_valueNow_35 : decode b_M_valueNow 35 = .ok (.laload, 1) := by decide +kernel
theorem d_M_valueNow_36 : decode b_M_valueNow 36 = .ok (.goto 23, 3) := by decide +kernel
theorem d_M_valueNow_39 : decode b_M_valueNow 39 = .ok (.lconst 0, 1) := by decide +kernel
theorem d_M_valueNow_40 : decode b_M_valueNow 40 = .ok (.goto 19, 3) := by decide +kernel
theorem d_M_valueNow_43 : decode b_M_valueNow 43 = .ok (.aload_n 0, 1) := by decide +kernel
theorem d_M_valueNow_44 : decode b_M_valueNow 44 = .ok (.iload_n 3, 1) := by decide +kernel
theorem d_M_valueNow_45 : decode b_M_valueNow 45 = .ok (.aload_n 0, 1) := by decide +kernel
theorem d_M_valueNow_46 : decode b_M_valueNow 46 = .ok (.getfield 36, 3) := by decide +kernel
theorem d_M_valueNow_49 : decode b_M_valueNow 49 = .ok (.bipush 6, 2) := by decide +kernel
theorem d_M_valueNow_51 : decode b_M_valueNow 51 = .ok (.iload_n 1, 1) := by decide +kernel
theorem d_M_valueNow_52 : decode b_M_valueNow 52 = .ok (.imul, 1) := by decide +kernel
theorem d_M_valueNow_53 : decode b_M_valueNow 53 = .ok (.iload_n 2, 1) := by decide +kernel
theorem d_M_valueNow_54 : decode b_M_valueNow 54 = .ok (.iadd, 1) := by decide +kernel
theorem d_M_valueNow_55 : decode b_M_valueNow 55 = .ok (.iaload, 1) := by decide +kernel
theorem d_M_valueNow_56 : decode b_M_valueNow 56 = .ok (.invokevirtual 101, 3) := by decide +kernel
theorem d_M_valueNow_59 : decode b_M_valueNow 59 = .ok (.lreturn, 1) := by decide +kernel
theorem d_M_thereNow_0 : decode b_M_thereNow 0 = .ok (.aload_n 0, 1) := by decide +kernel
theorem d_M_thereNow_1 : decode b_M_thereNow 1 = .ok (.iload_n 1, 1) := by decide +kernel
theorem d_M_thereNow_2 : decode b_M_thereNow 2 = .ok (.iload_n 2, 1) := by decide +kernel
theorem d_M_thereNow_3 : decode b_M_thereNow 3 = .ok (.invokevirtual 97, 3) := by decide +kernel
theorem d_M_thereNow_6 : decode b_M_thereNow 6 = .ok (.ifCond .eq 22, 3) := by decide +kernel
theorem d_M_thereNow_9 : decode b_M_thereNow 9 = .ok (.aload_n 0, 1) := by decide +kernel
theorem d_M_thereNow_10 : decode b_M_thereNow 10 = .ok (.getfield 19, 3) := by decide +kernel
theorem d_M_thereNow_13 : decode b_M_thereNow 13 = .ok (.aload_n 0, 1) := by decide +kernel
theorem d_M_thereNow_14 : decode b_M_thereNow 14 = .ok (.getfield 33, 3) := by decide +kernel
theorem d_M_thereNow_17 : decode b_M_thereNow 17 = .ok (.bipush 6, 2) := by decide +kernel
theorem d_M_thereNow_19 : decode b_M_thereNow 19 = .ok (.iload_n 1, 1) := by decide +kernel
theorem d_M_thereNow_20 : decode b_M_thereNow 20 = .ok (.imul, 1) := by decide +kernel
theorem d_M_thereNow_21 : decode b_M_thereNow 21 = .ok (.iload_n 2, 1) := by decide +kernel
theorem d_M_thereNow_22 : decode b_M_thereNow 22 = .ok (.iadd, 1) := by decide +kernel
theorem d_M_thereNow_23 : decode b_M_thereNow 23 = .ok (.iaload, 1) := by decide +kernel
theorem d_M_thereNow_24 : decode b_M_thereNow 24 = .ok (.baload, 1) := by decide +kernel
theorem d_M_thereNow_25 : decode b_M_thereNow 25 = .ok (.ifCond .eq 7, 3) := by decide +kernel
theorem d_M_thereNow_28 : decode b_M_thereNow 28 = .ok (.iconst 1, 1) := by decide +kernel
theorem d_M_thereNow_29 : decode b_M_thereNow 29 = .ok (.goto 4, 3) := by decide +kernel
theorem d_M_thereNow_32 : decode b_M_thereNow 32 = .ok (.iconst 0, 1) := by decide +kernel
theorem d_M_thereNow_33 : decode b_M_thereNow 33 = .ok (.ireturn, 1) := by decide +kernel
theorem d_M_isAsWas_0 : decode b_M_isAsWas 0 = .ok (.bipush 6, 2) := by decide +kernel
theorem d_M_isAsWas_2 : decode b_M_isAsWas 2 = .ok (.iload_n 1, 1) := by decide +kernel
theorem d_M_isAsWas_3 : decode b_M_isAsWas 3 = .ok (.iload_n 2, 1) := by decide +kernel
theorem d_M_isAsWas_4 : decode b_M_isAsWas 4 = .ok (.invokestatic 93, 3) := by decide +kernel
theorem d_M_isAsWas_7 : decode b_M_isAsWas 7 = .ok (.imul, 1) := by decide +kernel
theorem d_M_isAsWas_8 : decode b_M_isAsWas 8 = .ok (.iload_n 3, 1) := by decide +kernel
theorem d_M_isAsWas_9 : decode b_M_isAsWas 9 = .ok (.iadd, 1) := by decide +kernel
theorem d_M_isAsWas_10 : decode b_M_isAsWas 10 = .ok (.istore 4, 2) := by decide +kernel
theorem d_M_isAsWas_12 : decode b_M_isAsWas 12 = .ok (.aload_n 0, 1) := by decide +kernel
theorem d_M_isAsWas_13 : decode b_M_isAsWas 13 = .ok (.getfield 51, 3) := by decide +kernel
theorem d_M_isAsWas_16 : decode b_M_isAsWas 16 = .ok (.iload 4, 2) := by decide +kernel
theorem d_M_isAsWas_18 : decode b_M_isAsWas 18 = .ok (.baload, 1) := by decide +kernel
theorem d_M_isAsWas_19 : decode b_M_isAsWas 19 = .ok (.aload_n 0, 1) := by decide +kernel
theorem d_M_isAsWas_20 : decode b_M_isAsWas 20 = .ok (.iload_n 1, 1) := by decide +kernel
theorem d_M_isAsWas_21 : decode b_M_isAsWas 21 = .ok (.iload_n 3, 1) := by decide +kernel
theorem d_M_isAsWas_22 : decode b_M_isAsWas 22 = .ok (.invokevirtual 105, 3) := by decide +kernel
theorem d_M_isAsWas_25 : decode b_M_isAsWas 25 = .ok (.if_icmp .ne 24, 3) := by decide +kernel
theorem d_M_isAsWas_28 : decode b_M_isAsWas 28 = .ok (.aload_n 0, 1) := by decide +kernel
theorem d_M_isAsWas_29 : decode b_M_isAsWas 29 = .ok (.getfield 48, 3) := by decide +kernel
theorem d_M_isAsWas_32 : decode b_M_isAsWas 32 = .ok (.iload 4, 2) := by decide +kernel
theorem d_M_isAsWas_34 : decode b_M_isAsWas 34 = .ok (.laload, 1) := by decide +kernel
theorem d_M_isAsWas_35 : decode b_M_isAsWas 35 = .ok (.aload_n 0, 1) := by decide +kernel
theorem d_M_isAsWas_36 : decode b_M_isAsWas 36 = .ok (.iload_n 1, 1) := by decide +kernel
theorem d_M_isAsWas_37 : decode b_M_isAsWas 37 = .ok (.iload_n 3, 1) := by decide +kernel
theorem d_M_isAsWas_38 : decode b_M_isAsWas 38 = .ok (.invokevirtual 108, 3) := by decide +kernel
theorem d_M_isAsWas_41 : decode b_M_isAsWas 41 = .ok (.lcmp, 1) := by decide +kernel
theorem d_M_isAsWas_42 : decode b_M_isAsWas 42 = .ok (.ifCond .ne 7, 3) := by decide +kernel
theorem d_M_isAsWas_45 : decode b_M_isAsWas 45 = .ok (.iconst 1, 1) := by decide +kernel
theorem d_M_isAsWas_46 : decode b_M_isAsWas 46 = .ok (.goto 4, 3) := by decide +kernel
theorem d_M_isAsWas_49 : decode b_M_isAsWas 49 = .ok (.iconst 0, 1) := by decide +kernel
theorem d_M_isAsWas_50 : decode b_M_isAsWas 50 = .ok (.ireturn, 1) := by decide +kernel
theorem d_M_matching_0 : decode b_M_matching 0 = .ok (.iconst 0, 1) := by decide +kernel
theorem d_M_matching_1 : decode b_M_matching 1 = .ok (.istore_n 2, 1) := by decide +kernel
theorem d_M_matching_2 : decode b_M_matching 2 = .ok (.iload_n 2, 1) := by decide +kernel
theorem d_M_matching_3 : decode b_M_matching 3 = .ok (.aload_n 0, 1) := by decide +kernel
theorem d_M_matching_4 : decode b_M_matching 4 = .ok (.getfield 39, 3) := by decide +kernel
theorem d_M_matching_7 : decode b_M_matching 7 = .ok (.iload_n 1, 1) := by decide +kernel
theorem d_M_matching_8 : decode b_M_matching 8 = .ok (.iaload, 1) := by decide +kernel
theorem d_M_matching_9 : decode b_M_matching 9 = .ok (.if_icmp .ge 58, 3) := by decide +kernel
theorem d_M_matching_12 : decode b_M_matching 12 = .ok (.iconst 1, 1) := by decide +kernel
theorem d_M_matching_13 : decode b_M_matching 13 = .ok (.istore_n 3, 1) := by decide +kernel
theorem d_M_matching_14 : decode b_M_matching 14 = .ok (.iconst 0, 1) := by decide +kernel
theorem d_M_matching_15 : decode b_M_matching 15 = .ok (.istore 4, 2) := by decide +kernel
theorem d_M_matching_17 : decode b_M_matching 17 = .ok (.iload 4, 2) := by decide +kernel
theorem d_M_matching_19 : decode b_M_matching 19 = .ok (.aload_n 0, 1) := by decide +kernel
theorem d_M_matching_20 : decode b_M_matching 20 = .ok (.getfield 30, 3) := by decide +kernel
theorem d_M_matching_23 : decode b_M_matching 23 = .ok (.iload_n 1, 1) := by decide +kernel
theorem d_M_matching_24 : decode b_M_matching 24 = .ok (.iaload, 1) := by decide +kernel
theorem d_M_matching_25 : decode b_M_matching 25 = .ok (.if_icmp .ge 30, 3) := by decide +kernel
theorem d_M_matching_28 : decode b_M_matching 28 = .ok (.iload_n 3, 1) := by decide +kernel
theorem d_M_matching_29 : decode b_M_matching 29 = .ok (.ifCond .eq 18, 3) := by decide +kernel
theorem d_M_matching_32 : decode b_M_matching 32 = .ok (.aload_n 0, 1) := by decide +kernel
theorem d_M_matching_33 : decode b_M_matching 33 = .ok (.iload_n 1, 1) := by decide +kernel
theorem d_M_matching_34 : decode b_M_matching 34 = .ok (.iload_n 2, 1) := by decide +kernel
theorem d_M_matching_35 : decode b_M_matching 35 = .ok (.iload 4, 2) := by decide +kernel
theorem d_M_matching_37 : decode b_M_matching 37 = .ok (.invokevirtual 111, 3) := by decide +kernel
theorem d_M_matching_40 : decode b_M_matching 40 = .ok (.ifCond .eq 7, 3) := by decide +kernel
theorem d_M_matching_43 : decode b_M_matching 43 = .ok (.iconst 1, 1) := by decide +kernel
theorem d_M_matching_44 : decode b_M_matching 44 = .ok (.goto 4, 3) := by decide +kernel
theorem d_M_matching_47 : decode b_M_matching 47 = .ok (.iconst 0, 1) := by decide +kernel
theorem d_M_matching_48 : decode b_M_matching 48 = .ok (.istore_n 3, 1) := by decide +kernel
theorem d_M_matching_49 : decode b_M_matching 49 = .ok (.iinc 4 1, 3) := by decide +kernel
theorem d_M_matching_52 : decode b_M_matching 52 = .ok (.goto (-35), 3) := by decide +kernel
theorem d_M_matching_55 : decode b_M_matching 55 = .ok (.iload_n 3, 1) := by decide +kernel
theorem d_M_matching_56 : decode b_M_matching 56 = .ok (.ifCond .eq 5, 3) := by decide +kernel
theorem d_M_matching_59 : decode b_M_matching 59 = .ok (.iload_n 2, 1) := by decide +kernel
theorem d_M_matching_60 : decode b_M_matching 60 = .ok (.ireturn, 1) := by decide +kernel
theorem d_M_matching_61 : decode b_M_matching 61 = .ok (.iinc 2 1, 3) := by decide +kernel
theorem d_M_matching_64 : decode b_M_matching 64 = .ok (.goto (-62), 3) := by decide +kernel
theorem d_M_matching_67 : decode b_M_matching 67 = .ok (.iconst (-1), 1) := by decide +kernel
theorem d_M_matching_68 : decode b_M_matching 68 = .ok (.ireturn, 1) := by decide +kernel
theorem d_M_copy_0 : decode b_M_copy 0 = .ok (.aload_n 0, 1) := by decide +kernel
theorem d_M_copy_1 : decode b_M_copy 1 = .ok (.getfield 45, 3) := by decide +kernel
theorem d_M_copy_4 : decode b_M_copy 4 = .ok (.iload_n 1, 1) := by decide +kernel
theorem d_M_copy_5 : decode b_M_copy 5 = .ok (.iload_n 3, 1) := by decide +kernel
theorem d_M_copy_6 : decode b_M_copy 6 = .ok (.invokestatic 93, 3) := by decide +kernel
theorem d_M_copy_9 : decode b_M_copy 9 = .ok (.aload_n 0, 1) := by decide +kernel
theorem d_M_copy_10 : decode b_M_copy 10 = .ok (.getfield 45, 3) := by decide +kernel
theorem d_M_copy_13 : decode b_M_copy 13 = .ok (.iload_n 1, 1) := by decide +kernel
theorem d_M_copy_14 : decode b_M_copy 14 = .ok (.iload_n 2, 1) := by decide +kernel
theorem d_M_copy_15 : decode b_M_copy 15 = .ok (.invokestatic 93, 3) := by decide +kernel
theorem d_M_copy_18 : decode b_M_copy 18 = .ok (.laload, 1) := by decide +kernel
theorem d_M_copy_19 : decode b_M_copy 19 = .ok (.lastore, 1) := by decide +kernel
theorem d_M_copy_20 : decode b_M_copy 20 = .ok (.aload_n 0, 1) := by decide +kernel
theorem d_M_copy_21 : decode b_M_copy 21 = .ok (.getfield 42, 3) := by decide +kernel
theorem d_M_copy_24 : decode b_M_copy 24 = .ok (.iload_n 1, 1) := by decide +kernel
theorem d_M_copy_25 : decode b_M_copy 25 = .ok (.iload_n 3, 1) := by decide +kernel
theorem d_M_copy_26 : decode b_M_copy 26 = .ok (.invokestatic 93, 3) := by decide +kernel
theorem d_M_copy_29 : decode b_M_copy 29 = .ok (.aload_n 0, 1) := by decide +kernel
theorem d_M_copy_30 : decode b_M_copy 30 = .ok (.getfield 42, 3) := by decide +kernel
theorem d_M_copy_33 : decode b_M_copy 33 = .ok (.iload_n 1, 1) := by decide +kernel
theorem d_M_copy_34 : decode b_M_copy 34 = .ok (.iload_n 2, 1) := by decide +kernel
theorem d_M_copy_35 : decode b_M_copy 35 = .ok (.invokestatic 93, 3) := by decide +kernel
theorem d_M_copy_38 : decode b_M_copy 38 = .ok (.iaload, 1) := by decide +kernel
theorem d_M_copy_39 : decode b_M_copy 39 = .ok (.iastore, 1) := by decide +kernel
theorem d_M_copy_40 : decode b_M_copy 40 = .ok (.iconst 0, 1) := by decide +kernel
theorem d_M_copy_41 : decode b_M_copy 41 = .ok (.istore 4, 2) := by decide +kernel
theorem d_M_copy_43 : decode b_M_copy 43 = .ok (.iload 4, 2) := by decide +kernel
theorem d_M_copy_45 : decode b_M_copy 45 = .ok (.bipush 6, 2) := by decide +kernel
theorem d_M_copy_47 : decode b_M_copy 47 = .ok (.if_icmp .ge 73, 3) := by decide +kernel
theorem d_M_copy_50 : decode b_M_copy 50 = .ok (.aload_n 0, 1) := by decide +kernel
theorem d_M_copy_51 : decode b_M_copy 51 = .ok (.getfield 48, 3) := by decide +kernel
theorem d_M_copy_54 : decode b_M_copy 54 = .ok (.bipush 6, 2) := by decide +kernel
theorem d_M_copy_56 : decode b_M_copy 56 = .ok (.iload_n 1, 1) := by decide +kernel
theorem d_M_copy_57 : decode b_M_copy 57 = .ok (.iload_n 3, 1) := by decide +kernel
theorem d_M_copy_58 : decode b_M_copy 58 = .ok (.invokestatic 93, 3) := by decide +kernel
theorem d_M_copy_61 : decode b_M_copy 61 = .ok (.imul, 1) := by decide +kernel
theorem d_M_copy_62 : decode b_M_copy 62 = .ok (.iload 4, 2) := by decide +kernel
theorem d_M_copy_64 : decode b_M_copy 64 = .ok (.iadd, 1) := by decide +kernel
theorem d_M_copy_65 : decode b_M_copy 65 = .ok (.aload_n 0, 1) := by decide +kernel
theorem d_M_copy_66 : decode b_M_copy 66 = .ok (.getfield 48, 3) := by decide +kernel
theorem d_M_copy_69 : decode b_M_copy 69 = .ok (.bipush 6, 2) := by decide +kernel
theorem d_M_copy_71 : decode b_M_copy 71 = .ok (.iload_n 1, 1) := by decide +kernel
theorem d_M_copy_72 : decode b_M_copy 72 = .ok (.iload_n 2, 1) := by decide +kernel
theorem d_M_copy_73 : decode b_M_copy 73 = .ok (.invokestatic 93, 3) := by decide +kernel
theorem d_M_copy_76 : decode b_M_copy 76 = .ok (.imul, 1) := by decide +kernel
theorem d_M_copy_77 : decode b_M_copy 77 = .ok (.iload 4, 2) := by decide +kernel
theorem d_M_copy_79 : decode b_M_copy 79 = .ok (.iadd, 1) := by decide +kernel
theorem d_M_copy_80 : decode b_M_copy 80 = .ok (.laload, 1) := by decide +kernel
theorem d_M_copy_81 : decode b_M_copy 81 = .ok (.lastore, 1) := by decide +kernel
theorem d_M_copy_82 : decode b_M_copy 82 = .ok (.aload_n 0, 1) := by decide +kernel
theorem d_M_copy_83 : decode b_M_copy 83 = .ok (.getfield 51, 3) := by decide +kernel
theorem d_M_copy_86 : decode b_M_copy 86 = .ok (.bipush 6, 2) := by decide +kernel
theorem d_M_copy_88 : decode b_M_copy 88 = .ok (.iload_n 1, 1) := by decide +kernel
theorem d_M_copy_89 : decode b_M_copy 89 = .ok (.iload_n 3, 1) := by decide +kernel
theorem d_M_copy_90 : decode b_M_copy 90 = .ok (.invokestatic 93, 3) := by decide +kernel
theorem d_M_copy_93 : decode b_M_copy 93 = .ok (.imul, 1) := by decide +kernel
theorem d_M_copy_94 : decode b_M_copy 94 = .ok (.iload 4, 2) := by decide +kernel
theorem d_M_copy_96 : decode b_M_copy 96 = .ok (.iadd, 1) := by decide +kernel
theorem d_M_copy_97 : decode b_M_copy 97 = .ok (.aload_n 0, 1) := by decide +kernel
theorem d_M_copy_98 : decode b_M_copy 98 = .ok (.getfield 51, 3) := by decide +kernel
theorem d_M_copy_101 : decode b_M_copy 101 = .ok (.bipush 6, 2) := by decide +kernel
theorem d_M_copy_103 : decode b_M_copy 103 = .ok (.iload_n 1, 1) := by decide +kernel
theorem d_M_copy_104 : decode b_M_copy 104 = .ok (.iload_n 2, 1) := by decide +kernel
theorem d_M_copy_105 : decode b_M_copy 105 = .ok (.invokestatic 93, 3) := by decide +kernel
theorem d_M_copy_108 : decode b_M_copy 108 = .ok (.imul, 1) := by decide +kernel
theorem d_M_copy_109 : decode b_M_copy 109 = .ok (.iload 4, 2) := by decide +kernel
theorem d_M_copy_111 : decode b_M_copy 111 = .ok (.iadd, 1) := by decide +kernel
theorem d_M_copy_112 : decode b_M_copy 112 = .ok (.baload, 1) := by decide +kernel
theorem d_M_copy_113 : decode b_M_copy 113 = .ok (.bastore, 1) := by decide +kernel
theorem d_M_copy_114 : decode b_M_copy 114 = .ok (.iinc 4 1, 3) := by decide +kernel
theorem d_M_copy_117 : decode b_M_copy 117 = .ok (.goto (-74), 3) := by decide +kernel
theorem d_M_copy_120 : decode b_M_copy 120 = .ok (.return_, 1) := by decide +kernel
theorem d_M_moveBack_0 : decode b_M_moveBack 0 = .ok (.iload_n 2, 1) := by decide +kernel
theorem d_M_moveBack_1 : decode b_M_moveBack 1 = .ok (.istore_n 3, 1) := by decide +kernel
theorem d_M_moveBack_2 : decode b_M_moveBack 2 = .ok (.iload_n 3, 1) := by decide +kernel
theorem d_M_moveBack_3 : decode b_M_moveBack 3 = .ok (.ifCond .le 18, 3) := by decide +kernel
theorem d_M_moveBack_6 : decode b_M_moveBack 6 = .ok (.aload_n 0, 1) := by decide +kernel
theorem d_M_moveBack_7 : decode b_M_moveBack 7 = .ok (.iload_n 1, 1) := by decide +kernel
theorem d_M_moveBack_8 : decode b_M_moveBack 8 = .ok (.iload_n 3, 1) := by decide +kernel
theorem d_M_moveBack_9 : decode b_M_moveBack 9 = .ok (.iconst 1, 1) := by decide +kernel
theorem d_M_moveBack_10 : decode b_M_moveBack 10 = .ok (.isub, 1) := by decide +kernel
theorem d_M_moveBack_11 : decode b_M_moveBack 11 = .ok (.iload_n 3, 1) := by decide +kernel
theorem d_M_moveBack_12 : decode b_M_moveBack 12 = .ok (.invokevirtual 114, 3) := by decide +kernel
theorem d_M_moveBack_15 : decode b_M_moveBack 15 = .ok (.iinc 3 (-1), 3) := by decide +kernel
theorem d_M_moveBack_18 : decode b_M_moveBack 18 = .ok (.goto (-16), 3) := by decide +kernel
theorem d_M_moveBack_21 : decode b_M_moveBack 21 = .ok (.return_, 1) := by decide +kernel
theorem d_M_bring_0 : decode b_M_bring 0 = .ok (.aload_n 0, 1) := by decide +kernel
theorem d_M_bring_1 : decode b_M_bring 1 = .ok (.iload_n 1, 1) := by decide +kernel
theorem d_M_bring_2 : decode b_M_bring 2 = .ok (.iload_n 2, 1) := by decide +kernel
theorem d_M_bring_3 : decode b_M_bring 3 = .ok (.iconst 3, 1) := by decide +kernel
theorem d_M_bring_4 : decode b_M_bring 4 = .ok (.invokevirtual 114, 3) := by decide +kernel
theorem d_M_bring_7 : decode b_M_bring 7 = .ok (.aload_n 0, 1) := by decide +kernel
theorem d_M_bring_8 : decode b_M_bring 8 = .ok (.iload_n 1, 1) := by decide +kernel
theorem d_M_bring_9 : decode b_M_bring 9 = .ok (.iload_n 2, 1) := by decide +kernel
theorem d_M_bring_10 : decode b_M_bring 10 = .ok (.invokevirtual 118, 3) := by decide +kernel
theorem d_M_bring_13 : decode b_M_bring 13 = .ok (.aload_n 0, 1) := by decide +kernel
theorem d_M_bring_14 : decode b_M_bring 14 = .ok (.iload_n 1, 1) := by decide +kernel
theorem d_M_bring_15 : decode b_M_bring 15 = .ok (.iconst 3, 1) := by decide +kernel
theorem d_M_bring_16 : decode b_M_bring 16 = .ok (.iconst 0, 1) := by decide +kernel
theorem d_M_bring_17 : decode b_M_bring 17 = .ok (.invokevirtual 114, 3) := by decide +kernel
theorem d_M_bring_20 : decode b_M_bring 20 = .ok (.return_, 1) := by decide +kernel
theorem d_M_hasOutput_0 : decode b_M_hasOutput 0 = .ok (.aload_n 0, 1) := by decide +kernel
theorem d_M_hasOutput_1 : decode b_M_hasOutput 1 = .ok (.getfield 39, 3) := by decide +kernel
theorem d_M_hasOutput_4 : decode b_M_hasOutput 4 = .ok (.iload_n 1, 1) := by decide +kernel
theorem d_M_hasOutput_5 : decode b_M_hasOutput 5 = .ok (.iaload, 1) := by decide +kernel
theorem d_M_hasOutput_6 : decode b_M_hasOutput 6 = .ok (.ifCond .le 21, 3) := by decide +kernel
theorem d_M_hasOutput_9 : decode b_M_hasOutput 9 = .ok (.aload_n 0, 1) := by decide +kernel
theorem d_M_hasOutput_10 : decode b_M_hasOutput 10 = .ok (.getfield 42, 3) := by decide +kernel
theorem d_M_hasOutput_13 : decode b_M_hasOutput 13 = .ok (.iload_n 1, 1) := by decide +kernel
theorem d_M_hasOutput_14 : decode b_M_hasOutput 14 = .ok (.iconst 0, 1) := by decide +kernel
theorem d_M_hasOutput_15 : decode b_M_hasOutput 15 = .ok (.invokestatic 93, 3) := by decide +kernel
theorem d_M_hasOutput_18 : decode b_M_hasOutput 18 = .ok (.iaload, 1) := by decide +kernel
theorem d_M_hasOutput_19 : decode b_M_hasOutput 19 = .ok (.iconst (-1), 1) := by decide +kernel
theorem d_M_hasOutput_20 : decode b_M_hasOutput 20 = .ok (.if_icmp .ne 7, 3) := by decide +kernel
theorem d_M_hasOutput_23 : decode b_M_hasOutput 23 = .ok (.iconst 1, 1) := by decide +kernel
theorem d_M_hasOutput_24 : decode b_M_hasOutput 24 = .ok (.goto 4, 3) := by decide +kernel
theorem d_M_hasOutput_27 : decode b_M_hasOutput 27 = .ok (.iconst 0, 1) := by decide +kernel
theorem d_M_hasOutput_28 : decode b_M_hasOutput 28 = .ok (.ireturn, 1) := by decide +kernel
theorem d_M_take_0 : decode b_M_take 0 = .ok (.aload_n 0, 1) := by decide +kernel
theorem d_M_take_1 : decode b_M_take 1 = .ok (.getfield 79, 3) := by decide +kernel
theorem d_M_take_4 : decode b_M_take 4 = .ok (.iconst 1, 1) := by decide +kernel
theorem d_M_take_5 : decode b_M_take 5 = .ok (.isub, 1) := by decide +kernel
theorem d_M_take_6 : decode b_M_take 6 = .ok (.istore_n 2, 1) := by decide +kernel
theorem d_M_take_7 : decode b_M_take 7 = .ok (.iload_n 2, 1) := by decide +kernel
theorem d_M_take_8 : decode b_M_take 8 = .ok (.ifCond .lt 122, 3) := by decide +kernel
theorem d_M_take_11 : decode b_M_take 11 = .ok (.aload_n 0, 1) := by decide +kernel
theorem d_M_take_12 : decode b_M_take 12 = .ok (.getfield 66, 3) := by decide +kernel
theorem d_M_take_15 : decode b_M_take 15 = .ok (.iload_n 2, 1) := by decide +kernel
theorem d_M_take_16 : decode b_M_take 16 = .ok (.iload_n 1, 1) := by decide +kernel
theorem d_M_take_17 : decode b_M_take 17 = .ok (.iload_n 2, 1) := by decide +kernel
theorem d_M_take_18 : decode b_M_take 18 = .ok (.ishr, 1) := by decide +kernel
theorem d_M_take_19 : decode b_M_take 19 = .ok (.iconst 1, 1) := by decide +kernel
theorem d_M_take_20 : decode b_M_take 20 = .ok (.iand, 1) := by decide +kernel
theorem d_M_take_21 : decode b_M_take 21 = .ok (.iconst 1, 1) := by decide +kernel
theorem d_M_take_22 : decode b_M_take 22 = .ok (.if_icmp .ne 7, 3) := by decide +kernel
theorem d_M_take_25 : decode b_M_take 25 = .ok (.iconst 1, 1) := by decide +kernel
theorem d_M_take_26 : decode b_M_take 26 = .ok (.goto 4, 3) := by decide +kernel
theorem d_M_take_29 : decode b_M_take 29 = .ok (.iconst 0, 1) := by decide +kernel
theorem d_M_take_30 : decode b_M_take 30 = .ok (.bastore, 1) := by decide +kernel
theorem d_M_take_31 : decode b_M_take 31 = .ok (.iload_n 2, 1) := by decide +kernel
theorem d_M_take_32 : decode b_M_take 32 = .ok (.iconst 1, 1) := by decide +kernel
theorem d_M_take_33 : decode b_M_take 33 = .ok (.iadd, 1) := by decide +kernel
theorem d_M_take_34 : decode b_M_take 34 = .ok (.istore_n 3, 1) := by decide +kernel
theorem d_M_take_35 : decode b_M_take 35 = .ok (.iload_n 3, 1) := by decide +kernel
theorem d_M_take_36 : decode b_M_take 36 = .ok (.aload_n 0, 1) := by decide +kernel
theorem d_M_take_37 : decode b_M_take 37 = .ok (.getfield 79, 3) := by decide +kernel
theorem d_M_take_40 : decode b_M_take 40 = .ok (.if_icmp .ge 84, 3) := by decide +kernel
theorem d_M_take_43 : decode b_M_take 43 = .ok (.iconst 0, 1) := by decide +kernel
theorem d_M_take_44 : decode b_M_take 44 = .ok (.istore 4, 2) := by decide +kernel
theorem d_M_take_46 : decode b_M_take 46 = .ok (.iload 4, 2) := by decide +kernel
theorem d_M_take_48 : decode b_M_take 48 = .ok (.aload_n 0, 1) := by decide +kernel
theorem d_M_take_49 : decode b_M_take 49 = .ok (.getfield 30, 3) := by decide +kernel
theorem d_M_take_52 : decode b_M_take 52 = .ok (.iload_n 3, 1) := by decide +kernel
theorem d_M_take_53 : decode b_M_take 53 = .ok (.iaload, 1) := by decide +kernel
theorem d_M_take_54 : decode b_M_take 54 = .ok (.if_icmp .ge 64, 3) := by decide +kernel
theorem d_M_take_57 : decode b_M_take 57 = .ok (.aload_n 0, 1) := by decide +kernel
theorem d_M_take_58 : decode b_M_take 58 = .ok (.getfield 66, 3) := by decide +kernel
theorem d_M_take_61 : decode b_M_take 61 = .ok (.iload_n 2, 1) := by decide +kernel
theorem d_M_take_62 : decode b_M_take 62 = .ok (.aload_n 0, 1) := by decide +kernel
theorem d_M_take_63 : decode b_M_take 63 = .ok (.getfield 66, 3) := by decide +kernel
theorem d_M_take_66 : decode b_M_take 66 = .ok (.iload_n 2, 1) := by decide +kernel
theorem d_M_take_67 : decode b_M_take 67 = .ok (.baload, 1) := by decide +kernel
theorem d_M_take_68 : decode b_M_take 68 = .ok (.ifCond .ne 38, 3) := by decide +kernel
theorem d_M_take_71 : decode b_M_take 71 = .ok (.aload_n 0, 1) := by decide +kernel
theorem d_M_take_72 : decode b_M_take 72 = .ok (.getfield 66, 3) := by decide +kernel
theorem d_M_take_75 : decode b_M_take 75 = .ok (.iload_n 3, 1) := by decide +kernel
theorem d_M_take_76 : decode b_M_take 76 = .ok (.baload, 1) := by decide +kernel
theorem d_M_take_77 : decode b_M_take 77 = .ok (.ifCond .eq 33, 3) := by decide +kernel
theorem d_M_take_80 : decode b_M_take 80 = .ok (.aload_n 0, 1) := by decide +kernel
theorem d_M_take_81 : decode b_M_take 81 = .ok (.iload_n 3, 1) := by decide +kernel
theorem d_M_take_82 : decode b_M_take 82 = .ok (.iload 4, 2) := by decide +kernel
theorem d_M_take_84 : decode b_M_take 84 = .ok (.invokevirtual 97, 3) := by decide +kernel
theorem d_M_take_87 : decode b_M_take 87 = .ok (.ifCond .ne 23, 3) := by decide +kernel
theorem d_M_take_90 : decode b_M_take 90 = .ok (.aload_n 0, 1) := by decide +kernel
theorem d_M_take_91 : decode b_M_take 91 = .ok (.getfield 33, 3) := by decide +kernel
theorem d_M_take_94 : decode b_M_take 94 = .ok (.bipush 6, 2) := by decide +kernel
theorem d_M_take_96 : decode b_M_take 96 = .ok (.iload_n 3, 1) := by decide +kernel
theorem d_M_take_97 : decode b_M_take 97 = .ok (.imul, 1) := by decide +kernel
theorem d_M_take_98 : decode b_M_take 98 = .ok (.iload 4, 2) := by decide +kernel
theorem d_M_take_100 : decode b_M_take 100 = .ok (.iadd, 1) := by decide +kernel
theorem d_M_take_101 : decode b_M_take 101 = .ok (.iaload, 1) := by decide +kernel
theorem d_M_take_102 : decode b_M_take 102 = .ok (.iload_n 2, 1) := by decide +kernel
theorem d_M_take_103 : decode b_M_take 103 = .ok (.if_icmp .ne 7, 3) := by decide +kernel
theorem d_M_take_106 : decode b_M_take 106 = .ok (.iconst 1, 1) := by decide +kernel
theorem d_M_take_107 : decode b_M_take 107 = .ok (.goto 4, 3) := by decide +kernel
theorem d_M_take_110 : decode b_M_take 110 = .ok (.iconst 0, 1) := by decide +kernel
theorem d_M_take_111 : decode b_M_take 111 = .ok (.bastore, 1) := by decide +kernel
theorem d_M_take_112 : decode b_M_take 112 = .ok (.iinc 4 1, 3) := by decide +kernel
theorem d_M_take_115 : decode b_M_take 115 = .ok (.goto (-69), 3) := by decide +kernel
theorem d_M_take_118 : decode b_M_take 118 = .ok (.iinc 3 1, 3) := by decide +kernel
theorem d_M_take_121 : decode b_M_take 121 = .ok (.goto (-86), 3) := by decide +kernel
theorem d_M_take_124 : decode b_M_take 124 = .ok (.iinc 2 (-1), 3) := by decide +kernel
theorem d_M_take_127 : decode b_M_take 127 = .ok (.goto (-120), 3) := by decide +kernel
theorem d_M_take_130 : decode b_M_take 130 = .ok (.return_, 1) := by decide +kernel
theorem d_M_mark_0 : decode b_M_mark 0 = .ok (.iconst 0, 1) := by decide +kernel
theorem d_M_mark_1 : decode b_M_mark 1 = .ok (.istore_n 1, 1) := by decide +kernel
theorem d_M_mark_2 : decode b_M_mark 2 = .ok (.iload_n 1, 1) := by decide +kernel
theorem d_M_mark_3 : decode b_M_mark 3 = .ok (.aload_n 0, 1) := by decide +kernel
theorem d_M_mark_4 : decode b_M_mark 4 = .ok (.getfield 79, 3) := by decide +kernel
theorem d_M_mark_7 : decode b_M_mark 7 = .ok (.if_icmp .ge 158, 3) := by decide +kernel
theorem d_M_mark_10 : decode b_M_mark 10 = .ok (.aload_n 0, 1) := by decide +kernel
theorem d_M_mark_11 : decode b_M_mark 11 = .ok (.getfield 69, 3) := by decide +kernel
theorem d_M_mark_14 : decode b_M_mark 14 = .ok (.iload_n 1, 1) := by decide +kernel
theorem d_M_mark_15 : decode b_M_mark 15 = .ok (.aload_n 0, 1) := by decide +kernel
theorem d_M_mark_16 : decode b_M_mark 16 = .ok (.getfield 66, 3) := by decide +kernel
theorem d_M_mark_19 : decode b_M_mark 19 = .ok (.iload_n 1, 1) := by decide +kernel
theorem d_M_mark_20 : decode b_M_mark 20 = .ok (.baload, 1) := by decide +kernel
theorem d_M_mark_21 : decode b_M_mark 21 = .ok (.ifCond .eq 25, 3) := by decide +kernel
theorem d_M_mark_24 : decode b_M_mark 24 = .ok (.aload_n 0, 1) := by decide +kernel
theorem d_M_mark_25 : decode b_M_mark 25 = .ok (.getfield 39, 3) := by decide +kernel
theorem d_M_mark_28 : decode b_M_mark 28 = .ok (.iload_n 1, 1) := by decide +kernel
theorem d_M_mark_29 : decode b_M_mark 29 = .ok (.iaload, 1) := by decide +kernel
theorem d_M_mark_30 : decode b_M_mark 30 = .ok (.ifCond .eq 12, 3) := by decide +kernel
theorem d_M_mark_33 : decode b_M_mark 33 = .ok (.aload_n 0, 1) := by decide +kernel
theorem d_M_mark_34 : decode b_M_mark 34 = .ok (.getfield 23, 3) := by decide +kernel
theorem d_M_mark_37 : decode b_M_mark 37 = .ok (.iload_n 1, 1) := by decide +kernel
theorem d_M_mark_38 : decode b_M_mark 38 = .ok (.baload, 1) := by decide +kernel
theorem d_M_mark_39 : decode b_M_mark 39 = .ok (.ifCond .eq 7, 3) := by decide +kernel
theorem d_M_mark_42 : decode b_M_mark 42 = .ok (.iconst 1, 1) := by decide +kernel
theorem d_M_mark_43 : decode b_M_mark 43 = .ok (.goto 4, 3) := by decide +kernel
theorem d_M_mark_46 : decode b_M_mark 46 = .ok (.iconst 0, 1) := by decide +kernel
theorem d_M_mark_47 : decode b_M_mark 47 = .ok (.bastore, 1) := by decide +kernel
theorem d_M_mark_48 : decode b_M_mark 48 = .ok (.iconst 0, 1) := by decide +kernel
theorem d_M_mark_49 : decode b_M_mark 49 = .ok (.istore_n 2, 1) := by decide +kernel
theorem d_M_mark_50 : decode b_M_mark 50 = .ok (.iload_n 2, 1) := by decide +kernel
theorem d_M_mark_51 : decode b_M_mark 51 = .ok (.aload_n 0, 1) := by decide +kernel
theorem d_M_mark_52 : decode b_M_mark 52 = .ok (.getfield 30, 3) := by decide +kernel
theorem d_M_mark_55 : decode b_M_mark 55 = .ok (.iload_n 1, 1) := by decide +kernel
theorem d_M_mark_56 : decode b_M_mark 56 = .ok (.iaload, 1) := by decide +kernel
theorem d_M_mark_57 : decode b_M_mark 57 = .ok (.if_icmp .ge 79, 3) := by decide +kernel
theorem d_M_mark_60 : decode b_M_mark 60 = .ok (.aload_n 0, 1) := by decide +kernel
theorem d_M_mark_61 : decode b_M_mark 61 = .ok (.getfield 66, 3) := by decide +kernel
theorem d_M_mark_64 : decode b_M_mark 64 = .ok (.iload_n 1, 1) := by decide +kernel
theorem d_M_mark_65 : decode b_M_mark 65 = .ok (.baload, 1) := by decide +kernel
theorem d_M_mark_66 : decode b_M_mark 66 = .ok (.ifCond .eq 70, 3) := by decide +kernel
theorem d_M_mark_69 : decode b_M_mark 69 = .ok (.aload_n 0, 1) := by decide +kernel
theorem d_M_mark_70 : decode b_M_mark 70 = .ok (.getfield 69, 3) := by decide +kernel
theorem d_M_mark_73 : decode b_M_mark 73 = .ok (.iload_n 1, 1) := by decide +kernel
theorem d_M_mark_74 : decode b_M_mark 74 = .ok (.aload_n 0, 1) := by decide +kernel
theorem d_M_mark_75 : decode b_M_mark 75 = .ok (.getfield 69, 3) := by decide +kernel
theorem d_M_mark_78 : decode b_M_mark 78 = .ok (.iload_n 1, 1) := by decide +kernel
theorem d_M_mark_79 : decode b_M_mark 79 = .ok (.baload, 1) := by decide +kernel
theorem d_M_mark_80 : decode b_M_mark 80 = .ok (.ifCond .ne 44, 3) := by decide +kernel
theorem d_M_mark_83 : decode b_M_mark 83 = .ok (.aload_n 0, 1) := by decide +kernel
theorem d_M_mark_84 : decode b_M_mark 84 = .ok (.iload_n 1, 1) := by decide +kernel
theorem d_M_mark_85 : decode b_M_mark 85 = .ok (.iload_n 2, 1) := by decide +kernel
theorem d_M_mark_86 : decode b_M_mark 86 = .ok (.invokevirtual 97, 3) := by decide +kernel
theorem d_M_mark_89 : decode b_M_mark 89 = .ok (.ifCond .eq 16, 3) := by decide +kernel
theorem d_M_mark_92 : decode b_M_mark 92 = .ok (.aload_n 0, 1) := by decide +kernel
theorem d_M_mark_93 : decode b_M_mark 93 = .ok (.iload_n 1, 1) := by decide +kernel
theorem d_M_mark_94 : decode b_M_mark 94 = .ok (.iconst 0, 1) := by decide +kernel
theorem d_M_mark_95 : decode b_M_mark 95 = .ok (.iload_n 2, 1) := by decide +kernel
theorem d_M_mark_96 : decode b_M_mark 96 = .ok (.invokevirtual 111, 3) := by decide +kernel
theorem d_M_mark_99 : decode b_M_mark 99 = .ok (.ifCond .ne 29, 3) := by decide +kernel
theorem d_M_mark_102 : decode b_M_mark 102 = .ok (.goto 22, 3) := by decide +kernel
theorem d_M_mark_105 : decode b_M_mark 105 = .ok (.aload_n 0, 1) := by decide +kernel
theorem d_M_mark_106 : decode b_M_mark 106 = .ok (.getfield 69, 3) := by decide +kernel
theorem d_M_mark_109 : decode b_M_mark 109 = .ok (.aload_n 0, 1) := by decide +kernel
theorem d_M_mark_110 : decode b_M_mark 110 = .ok (.getfield 33, 3) := by decide +kernel
theorem d_M_mark_113 : decode b_M_mark 113 = .ok (.bipush 6, 2) := by decide +kernel
theorem d_M_mark_115 : decode b_M_mark 115 = .ok (.iload_n 1, 1) := by decide +kernel
theorem d_M_mark_116 : decode b_M_mark 116 = .ok (.imul, 1) := by decide +kernel
theorem d_M_mark_117 : decode b_M_mark 117 = .ok (.iload_n 2, 1) := by decide +kernel
theorem d_M_mark_118 : decode b_M_mark 118 = .ok (.iadd, 1) := by decide +kernel
theorem d_M_mark_119 : decode b_M_mark 119 = .ok (.iaload, 1) := by decide +kernel
theorem d_M_mark_120 : decode b_M_mark 120 = .ok (.baload, 1) := by decide +kernel
theorem d_M_mark_121 : decode b_M_mark 121 = .ok (.ifCond .eq 7, 3) := by decide +kernel
theorem d_M_mark_124 : decode b_M_mark 124 = .ok (.iconst 1, 1) := by decide +kernel
theorem d_M_mark_125 : decode b_M_mark 125 = .ok (.goto 4, 3) := by decide +kernel
theorem d_M_mark_128 : decode b_M_mark 128 = .ok (.iconst 0, 1) := by decide +kernel
theorem d_M_mark_129 : decode b_M_mark 129 = .ok (.bastore, 1) := by decide +kernel
theorem d_M_mark_130 : decode b_M_mark 130 = .ok (.iinc 2 1, 3) := by decide +kernel
theorem d_M_mark_133 : decode b_M_mark 133 = .ok (.goto (-83), 3) := by decide +kernel
theorem d_M_mark_136 : decode b_M_mark 136 = .ok (.aload_n 0, 1) := by decide +kernel
theorem d_M_mark_137 : decode b_M_mark 137 = .ok (.getfield 60, 3) := by decide +kernel
theorem d_M_mark_140 : decode b_M_mark 140 = .ok (.iconst 4, 1) := by decide +kernel
theorem d_M_mark_141 : decode b_M_mark 141 = .ok (.dup2, 1) := by decide +kernel
theorem d_M_mark_142 : decode b_M_mark 142 = .ok (.iaload, 1) := by decide +kernel
theorem d_M_mark_143 : decode b_M_mark 143 = .ok (.aload_n 0, 1) := by decide +kernel
theorem d_M_mark_144 : decode b_M_mark 144 = .ok (.getfield 69, 3) := by decide +kernel
theorem d_M_mark_147 : decode b_M_mark 147 = .ok (.iload_n 1, 1) := by decide +kernel
theorem d_M_mark_148 : decode b_M_mark 148 = .ok (.baload, 1) := by decide +kernel
theorem d_M_mark_149 : decode b_M_mark 149 = .ok (.ifCond .eq 7, 3) := by decide +kernel
theorem d_M_mark_152 : decode b_M_mark 152 = .ok (.iconst 1, 1) := by decide +kernel
theorem d_M_mark_153 : decode b_M_mark 153 = .ok (.goto 4, 3) := by decide +kernel
theorem d_M_mark_156 : decode b_M_mark 156 = .ok (.iconst 0, 1) := by decide +kernel
theorem d_M_mark_157 : decode b_M_mark 157 = .ok (.iadd, 1) := by decide +kernel
theorem d_M_mark_158 : decode b_M_mark 158 = .ok (.iastore, 1) := by decide +kernel
theorem d_M_mark_159 : decode b_M_mark 159 = .ok (.iinc 1 1, 3) := by decide +kernel
theorem d_M_mark_162 : decode b_M_mark 162 = .ok (.goto (-160), 3) := by decide +kernel
theorem d_M_mark_165 : decode b_M_mark 165 = .ok (.return_, 1) := by decide +kernel
theorem d_M_isBlocked_0 : decode b_M_isBlocked 0 = .ok (.iconst 0, 1) := by decide +kernel
theorem d_M_isBlocked_1 : decode b_M_isBlocked 1 = .ok (.istore_n 2, 1) := by decide +kernel
theorem d_M_isBlocked_2 : decode b_M_isBlocked 2 = .ok (.iconst 0, 1) := by decide +kernel
theorem d_M_isBlocked_3 : decode b_M_isBlocked 3 = .ok (.istore_n 3, 1) := by decide +kernel
theorem d_M_isBlocked_4 : decode b_M_isBlocked 4 = .ok (.iload_n 3, 1) := by decide +kernel
theorem d_M_isBlocked_5 : decode b_M_isBlocked 5 = .ok (.aload_n 0, 1) := by decide +kernel
theorem d_M_isBlocked_6 : decode b_M_isBlocked 6 = .ok (.getfield 30, 3) := by decide +kernel
theorem d_M_isBlocked_9 : decode b_M_isBlocked 9 = .ok (.iload_n 1, 1) := by decide +kernel
theorem d_M_isBlocked_10 : decode b_M_isBlocked 10 = .ok (.iaload, 1) := by decide +kernel
theorem d_M_isBlocked_11 : decode b_M_isBlocked 11 = .ok (.if_icmp .ge 74, 3) := by decide +kernel
theorem d_M_isBlocked_14 : decode b_M_isBlocked 14 = .ok (.aload_n 0, 1) := by decide +kernel
theorem d_M_isBlocked_15 : decode b_M_isBlocked 15 = .ok (.getfield 33, 3) := by decide +kernel
theorem d_M_isBlocked_18 : decode b_M_isBlocked 18 = .ok (.bipush 6, 2) := by decide +kernel
theorem d_M_isBlocked_20 : decode b_M_isBlocked 20 = .ok (.iload_n 1, 1) := by decide +kernel
theorem d_M_isBlocked_21 : decode b_M_isBlocked 21 = .ok (.imul, 1) := by decide +kernel
theorem d_M_isBlocked_22 : decode b_M_isBlocked 22 = .ok (.iload_n 3, 1) := by decide +kernel
theorem d_M_isBlocked_23 : decode b_M_isBlocked 23 = .ok (.iadd, 1) := by decide +kernel
theorem d_M_isBlocked_24 : decode b_M_isBlocked 24 = .ok (.iaload, 1) := by decide +kernel
theorem d_M_isBlocked_25 : decode b_M_isBlocked 25 = .ok (.istore 4, 2) := by decide +kernel
theorem d_M_isBlocked_27 : decode b_M_isBlocked 27 = .ok (.iload_n 2, 1) := by decide +kernel
theorem d_M_isBlocked_28 : decode b_M_isBlocked 28 = .ok (.ifCond .ne 45, 3) := by decide +kernel
theorem d_M_isBlocked_31 : decode b_M_isBlocked 31 = .ok (.aload_n 0, 1) := by decide +kernel
theorem d_M_isBlocked_32 : decode b_M_isBlocked 32 = .ok (.iload_n 1, 1) := by decide +kernel
theorem d_M_isBlocked_33 : decode b_M_isBlocked 33 = .ok (.iload_n 3, 1) := by decide +kernel
theorem d_M_isBlocked_34 : decode b_M_isBlocked 34 = .ok (.invokevirtual 97, 3) := by decide +kernel
theorem d_M_isBlocked_37 : decode b_M_isBlocked 37 = .ok (.ifCond .ne 40, 3) := by decide +kernel
theorem d_M_isBlocked_40 : decode b_M_isBlocked 40 = .ok (.aload_n 0, 1) := by decide +kernel
theorem d_M_isBlocked_41 : decode b_M_isBlocked 41 = .ok (.getfield 54, 3) := by decide +kernel
theorem d_M_isBlocked_44 : decode b_M_isBlocked 44 = .ok (.iload 4, 2) := by decide +kernel
theorem d_M_isBlocked_46 : decode b_M_isBlocked 46 = .ok (.iaload, 1) := by decide +kernel
theorem d_M_isBlocked_47 : decode b_M_isBlocked 47 = .ok (.iconst 5, 1) := by decide +kernel
theorem d_M_isBlocked_48 : decode b_M_isBlocked 48 = .ok (.if_icmp .eq 25, 3) := by decide +kernel
theorem d_M_isBlocked_51 : decode b_M_isBlocked 51 = .ok (.aload_n 0, 1) := by decide +kernel
theorem d_M_isBlocked_52 : decode b_M_isBlocked 52 = .ok (.getfield 54, 3) := by decide +kernel
theorem d_M_isBlocked_55 : decode b_M_isBlocked 55 = .ok (.iload 4, 2) := by decide +kernel
theorem d_M_isBlocked_57 : decode b_M_isBlocked 57 = .ok (.iaload, 1) := by decide +kernel
theorem d_M_isBlocked_58 : decode b_M_isBlocked 58 = .ok (.iconst 3, 1) := by decide +kernel
theorem d_M_isBlocked_59 : decode b_M_isBlocked 59 = .ok (.if_icmp .eq 14, 3) := by decide +kernel
theorem d_M_isBlocked_62 : decode b_M_isBlocked 62 = .ok (.aload_n 0, 1) := by decide +kernel
theorem d_M_isBlocked_63 : decode b_M_isBlocked 63 = .ok (.getfield 54, 3) := by decide +kernel
theorem d_M_isBlocked_66 : decode b_M_isBlocked 66 = .ok (.iload 4, 2) := by decide +kernel
theorem d_M_isBlocked_68 : decode b_M_isBlocked 68 = .ok (.iaload, 1) := by decide +kernel
theorem d_M_isBlocked_69 : decode b_M_isBlocked 69 = .ok (.iconst 4, 1) := by decide +kernel
theorem d_M_isBlocked_70 : decode b_M_isBlocked 70 = .ok (.if_icmp .ne 7, 3) := by decide +kernel
theorem d_M_isBlocked_73 : decode b_M_isBlocked 73 = .ok (.iconst 1, 1) := by decide +kernel
theorem d_M_isBlocked_74 : decode b_M_isBlocked 74 = .ok (.goto 4, 3) := by decide +kernel
theorem d_M_isBlocked_77 : decode b_M_isBlocked 77 = .ok (.iconst 0, 1) := by decide +kernel
theorem d_M_isBlocked_78 : decode b_M_isBlocked 78 = .ok (.istore_n 2, 1) := by decide +kernel
theorem d_M_isBlocked_79 : decode b_M_isBlocked 79 = .ok (.iinc 3 1, 3) := by decide +kernel
theorem d_M_isBlocked_82 : decode b_M_isBlocked 82 = .ok (.goto (-78), 3) := by decide +kernel
theorem d_M_isBlocked_85 : decode b_M_isBlocked 85 = .ok (.iload_n 2, 1) := by decide +kernel
theorem d_M_isBlocked_86 : decode b_M_isBlocked 86 = .ok (.ireturn, 1) := by decide +kernel
theorem d_M_causeOf_0 : decode b_M_causeOf 0 = .ok (.aload_n 0, 1) := by decide +kernel
theorem d_M_causeOf_1 : decode b_M_causeOf 1 = .ok (.getfield 39, 3) := by decide +kernel
theorem d_M_causeOf_4 : decode b_M_causeOf 4 = .ok (.iload_n 1, 1) := by decide +kernel
theorem d_M_causeOf_5 : decode b_M_causeOf 5 = .ok (.iaload, 1) := by decide +kernel
theorem d_M_causeOf_6 : decode b_M_causeOf 6 = .ok (.ifCond .ne 5, 3) := by decide +kernel
theorem d_M_causeOf_9 : decode b_M_causeOf 9 = .ok (.iconst 0, 1) := by decide +kernel
theorem d_M_causeOf_10 : decode b_M_causeOf 10 = .ok (.ireturn, 1) := by decide +kernel
theorem d_M_causeOf_11 : decode b_M_causeOf 11 = .ok (.aload_n 0, 1) := by decide +kernel
theorem d_M_causeOf_12 : decode b_M_causeOf 12 = .ok (.getfield 23, 3) := by decide +kernel
theorem d_M_causeOf_15 : decode b_M_causeOf 15 = .ok (.iload_n 1, 1) := by decide +kernel
theorem d_M_causeOf_16 : decode b_M_causeOf 16 = .ok (.baload, 1) := by decide +kernel
theorem d_M_causeOf_17 : decode b_M_causeOf 17 = .ok (.ifCond .eq 5, 3) := by decide +kernel
theorem d_M_causeOf_20 : decode b_M_causeOf 20 = .ok (.iconst 1, 1) := by decide +kernel
theorem d_M_causeOf_21 : decode b_M_causeOf 21 = .ok (.ireturn, 1) := by decide +kernel
theorem d_M_causeOf_22 : decode b_M_causeOf 22 = .ok (.iconst 0, 1) := by decide +kernel
theorem d_M_causeOf_23 : decode b_M_causeOf 23 = .ok (.istore_n 2, 1) := by decide +kernel
theorem d_M_causeOf_24 : decode b_M_causeOf 24 = .ok (.aload_n 0, 1) := by decide +kernel
theorem d_M_causeOf_25 : decode b_M_causeOf 25 = .ok (.iload_n 1, 1) := by decide +kernel
theorem d_M_causeOf_26 : decode b_M_causeOf 26 = .ok (.iconst 0, 1) := by decide +kernel
theorem d_M_causeOf_27 : decode b_M_causeOf 27 = .ok (.iload_n 2, 1) := by decide +kernel
theorem d_M_causeOf_28 : decode b_M_causeOf 28 = .ok (.invokevirtual 111, 3) := by decide +kernel
theorem d_M_causeOf_31 : decode b_M_causeOf 31 = .ok (.ifCond .eq 9, 3) := by decide +kernel
theorem d_M_causeOf_34 : decode b_M_causeOf 34 = .ok (.iinc 2 1, 3) := by decide +kernel
theorem d_M_causeOf_37 : decode b_M_causeOf 37 = .ok (.goto (-13), 3) := by decide +kernel
theorem d_M_causeOf_40 : decode b_M_causeOf 40 = .ok (.aload_n 0, 1) := by decide +kernel
theorem d_M_causeOf_41 : decode b_M_causeOf 41 = .ok (.iload_n 1, 1) := by decide +kernel
theorem d_M_causeOf_42 : decode b_M_causeOf 42 = .ok (.iload_n 2, 1) := by decide +kernel
theorem d_M_causeOf_43 : decode b_M_causeOf 43 = .ok (.invokevirtual 97, 3) := by decide +kernel
theorem d_M_causeOf_46 : decode b_M_causeOf 46 = .ok (.ifCond .eq 7, 3) := by decide +kernel
theorem d_M_causeOf_49 : decode b_M_causeOf 49 = .ok (.iconst 2, 1) := by decide +kernel
theorem d_M_causeOf_50 : decode b_M_causeOf 50 = .ok (.goto 4, 3) := by decide +kernel
theorem d_M_causeOf_53 : decode b_M_causeOf 53 = .ok (.iconst 3, 1) := by decide +kernel
theorem d_M_causeOf_54 : decode b_M_causeOf 54 = .ok (.ireturn, 1) := by decide +kernel
theorem d_M_work_0 : decode b_M_work 0 = .ok (.aload_n 0, 1) := by decide +kernel
theorem d_M_work_1 : decode b_M_work 1 = .ok (.iload_n 1, 1) := by decide +kernel
theorem d_M_work_2 : decode b_M_work 2 = .ok (.invokevirtual 122, 3) := by decide +kernel
theorem d_M_work_5 : decode b_M_work 5 = .ok (.istore_n 2, 1) := by decide +kernel
theorem d_M_work_6 : decode b_M_work 6 = .ok (.iload_n 2, 1) := by decide +kernel
theorem d_M_work_7 : decode b_M_work 7 = .ok (.iconst (-1), 1) := by decide +kernel
theorem d_M_work_8 : decode b_M_work 8 = .ok (.if_icmp .eq 7, 3) := by decide +kernel
theorem d_M_work_11 : decode b_M_work 11 = .ok (.iload_n 2, 1) := by decide +kernel
theorem d_M_work_12 : decode b_M_work 12 = .ok (.goto 23, 3) := by decide +kernel
theorem d_M_work_15 : decode b_M_work 15 = .ok (.aload_n 0, 1) := by decide +kernel
theorem d_M_work_16 : decode b_M_work 16 = .ok (.getfield 39, 3) := by decide +kernel
theorem d_M_work_19 : decode b_M_work 19 = .ok (.iload_n 1, 1) := by decide +kernel
theorem d_M_work_20 : decode b_M_work 20 = .ok (.iaload, 1) := by decide +kernel
theorem d_M_work_21 : decode b_M_work 21 = .ok (.iconst 3, 1) := by decide +kernel
theorem d_M_work_22 : decode b_M_work 22 = .ok (.if_icmp .ge 12, 3) := by decide +kernel
theorem d_M_work_25 : decode b_M_work 25 = .ok (.aload_n 0, 1) := by decide +kernel
theorem d_M_work_26 : decode b_M_work 26 = .ok (.getfield 39, 3) := by decide +kernel
theorem d_M_work_29 : decode b_M_work 29 = .ok (.iload_n 1, 1) := by decide +kernel
theorem d_M_work_30 : decode b_M_work 30 = .ok (.iaload, 1) := by decide +kernel
theorem d_M_work_31 : decode b_M_work 31 = .ok (.goto 4, 3) := by decide +kernel
theorem d_M_work_34 : decode b_M_work 34 = .ok (.iconst 2, 1) := by decide +kernel
theorem d_M_work_35 : decode b_M_work 35 = .ok (.istore_n 3, 1) := by decide +kernel
theorem d_M_work_36 : decode b_M_work 36 = .ok (.aload_n 0, 1) := by decide +kernel
theorem d_M_work_37 : decode b_M_work 37 = .ok (.getfield 39, 3) := by decide +kernel
theorem d_M_work_40 : decode b_M_work 40 = .ok (.iload_n 1, 1) := by decide +kernel
theorem d_M_work_41 : decode b_M_work 41 = .ok (.dup2, 1) := by decide +kernel
theorem d_M_work_42 : decode b_M_work 42 = .ok (.iaload, 1) := by decide +kernel
theorem d_M_work_43 : decode b_M_work 43 = .ok (.iload_n 2, 1) := by decide +kernel
theorem d_M_work_44 : decode b_M_work 44 = .ok (.iconst (-1), 1) := by decide +kernel
theorem d_M_work_45 : decode b_M_work 45 = .ok (.if_icmp .ne 17, 3) := by decide +kernel
theorem d_M_work_48 : decode b_M_work 48 = .ok (.aload_n 0, 1) := by decide +kernel
theorem d_M_work_49 : decode b_M_work 49 = .ok (.getfield 39, 3) := by decide +kernel
theorem d_M_work_52 : decode b_M_work 52 = .ok (.iload_n 1, 1) := by decide +kernel
theorem d_M_work_53 : decode b_M_work 53 = .ok (.iaload, 1) := by decide +kernel
theorem d_M_work_54 : decode b_M_work 54 = .ok (.iconst 3, 1) := by decide +kernel
theorem d_M_work_55 : decode b_M_work 55 = .ok (.if_icmp .ge 7, 3) := by decide +kernel
theorem d_M_work_58 : decode b_M_work 58 = .ok (.iconst 1, 1) := by decide +kernel
theorem d_M_work_59 : decode b_M_work 59 = .ok (.goto 4, 3) := by decide +kernel
theorem d_M_work_62 : decode b_M_work 62 = .ok (.iconst 0, 1) := by decide +kernel
theorem d_M_work_63 : decode b_M_work 63 = .ok (.iadd, 1) := by decide +kernel
theorem d_M_work_64 : decode b_M_work 64 = .ok (.iastore, 1) := by decide +kernel
theorem d_M_work_65 : decode b_M_work 65 = .ok (.aload_n 0, 1) := by decide +kernel
theorem d_M_work_66 : decode b_M_work 66 = .ok (.iload_n 1, 1) := by decide +kernel
theorem d_M_work_67 : decode b_M_work 67 = .ok (.iload_n 3, 1) := by decide +kernel
theorem d_M_work_68 : decode b_M_work 68 = .ok (.invokevirtual 118, 3) := by decide +kernel
theorem d_M_work_71 : decode b_M_work 71 = .ok (.ldc2_w 126, 3) := by decide +kernel
theorem d_M_work_74 : decode b_M_work 74 = .ok (.lstore 4, 2) := by decide +kernel
theorem d_M_work_76 : decode b_M_work 76 = .ok (.iconst (-1), 1) := by decide +kernel
theorem d_M_work_77 : decode b_M_work 77 = .ok (.istore 6, 2) := by decide +kernel
theorem d_M_work_79 : decode b_M_work 79 = .ok (.iconst 0, 1) := by decide +kernel
theorem d_M_work_80 : decode b_M_work 80 = .ok (.istore 7, 2) := by decide +kernel
theorem d_M_work_82 : decode b_M_work 82 = .ok (.iload 7, 2) := by decide +kernel
theorem d_M_work_84 : decode b_M_work 84 = .ok (.aload_n 0, 1) := by decide +kernel
theorem d_M_work_85 : decode b_M_work 85 = .ok (.getfield 30, 3) := by decide +kernel
theorem d_M_work_88 : decode b_M_work 88 = .ok (.iload_n 1, 1) := by decide +kernel
theorem d_M_work_89 : decode b_M_work 89 = .ok (.iaload, 1) := by decide +kernel
theorem d_M_work_90 : decode b_M_work 90 = .ok (.if_icmp .ge 91, 3) := by decide +kernel
theorem d_M_work_93 : decode b_M_work 93 = .ok (.bipush 6, 2) := by decide +kernel
theorem d_M_work_95 : decode b_M_work 95 = .ok (.iload_n 1, 1) := by decide +kernel
theorem d_M_work_96 : decode b_M_work 96 = .ok (.iconst 0, 1) := by decide +kernel
theorem d_M_work_97 : decode b_M_work 97 = .ok (.invokestatic 93, 3) := by decide +kernel
theorem d_M_work_100 : decode b_M_work 100 = .ok (.imul, 1) := by decide +kernel
theorem d_M_work_101 : decode b_M_work 101 = .ok (.iload 7, 2) := by decide +kernel
theorem d_M_work_103 : decode b_M_work 103 = .ok (.iadd, 1) := by decide +kernel
theorem d_M_work_104 : decode b_M_work 104 = .ok (.istore 8, 2) := by decide +kernel
theorem d_M_work_106 : decode b_M_work 106 = .ok (.aload_n 0, 1) := by decide +kernel
theorem d_M_work_107 : decode b_M_work 107 = .ok (.getfield 48, 3) := by decide +kernel
theorem d_M_work_110 : decode b_M_work 110 = .ok (.iload 8, 2) := by decide +kernel
theorem d_M_work_112 : decode b_M_work 112 = .ok (.aload_n 0, 1) := by decide +kernel
theorem d_M_work_113 : decode b_M_work 113 = .ok (.iload_n 1, 1) := by decide +kernel
theorem d_M_work_114 : decode b_M_work 114 = .ok (.iload 7, 2) := by decide +kernel
theorem d_M_work_116 : decode b_M_work 116 = .ok (.invokevirtual 108, 3) := by decide +kernel
theorem d_M_work_119 : decode b_M_work 119 = .ok (.lastore, 1) := by decide +kernel
theorem d_M_work_120 : decode b_M_work 120 = .ok (.aload_n 0, 1) := by decide +kernel
theorem d_M_work_121 : decode b_M_work 121 = .ok (.getfield 51, 3) := by decide +kernel
theorem d_M_work_124 : decode b_M_work 124 = .ok (.iload 8, 2) := by decide +kernel
theorem d_M_work_126 : decode b_M_work 126 = .ok (.aload_n 0, 1) := by decide +kernel
theorem d_M_work_127 : decode b_M_work 127 = .ok (.iload_n 1, 1) := by decide +kernel
theorem d_M_work_128 : decode b_M_work 128 = .ok (.iload 7, 2) := by decide +kernel
theorem d_M_work_130 : decode b_M_work 130 = .ok (.invokevirtual 105, 3) := by decide +kernel
theorem d_M_work_133 : decode b_M_work 133 = .ok (.bastore, 1) := by decide +kernel
theorem d_M_work_134 : decode b_M_work 134 = .ok (.ldc2_w 128, 3) := by decide +kernel
theorem d_M_work_137 : decode b_M_work 137 = .ok (.lload 4, 2) := by decide +kernel
theorem d_M_work_139 : decode b_M_work 139 = .ok (.lmul, 1) := by decide +kernel
theorem d_M_work_140 : decode b_M_work 140 = .ok (.aload_n 0, 1) := by decide +kernel
theorem d_M_work_141 : decode b_M_work 141 = .ok (.getfield 48, 3) := by decide +kernel
theorem d_M_work_144 : decode b_M_work 144 = .ok (.iload 8, 2) := by decide +kernel
theorem d_M_work_146 : decode b_M_work 146 = .ok (.laload, 1) := by decide +kernel
theorem d_M_work_147 : decode b_M_work 147 = .ok (.ladd, 1) := by decide +kernel
theorem d_M_work_148 : decode b_M_work 148 = .ok (.lstore 4, 2) := by decide +kernel
theorem d_M_work_150 : decode b_M_work 150 = .ok (.iload 6, 2) := by decide +kernel
theorem d_M_work_152 : decode b_M_work 152 = .ok (.iconst (-1), 1) := by decide +kernel
theorem d_M_work_153 : decode b_M_work 153 = .ok (.if_icmp .ne 18, 3) := by decide +kernel
theorem d_M_work_156 : decode b_M_work 156 = .ok (.aload_n 0, 1) := by decide +kernel
theorem d_M_work_157 : decode b_M_work 157 = .ok (.getfield 51, 3) := by decide +kernel
theorem d_M_work_160 : decode b_M_work 160 = .ok (.iload 8, 2) := by decide +kernel
theorem d_M_work_162 : decode b_M_work 162 = .ok (.baload, 1) := by decide +kernel
theorem d_M_work_163 : decode b_M_work 163 = .ok (.ifCond .ne 8, 3) := by decide +kernel
theorem d_M_work_166 : decode b_M_work 166 = .ok (.iload 7, 2) := by decide +kernel
theorem d_M_work_168 : decode b_M_work 168 = .ok (.goto 5, 3) := by decide +kernel
theorem d_M_work_171 : decode b_M_work 171 = .ok (.iload 6, 2) := by decide +kernel
theorem d_M_work_173 : decode b_M_work 173 = .ok (.istore 6, 2) := by decide +kernel
theorem d_M_work_175 : decode b_M_work 175 = .ok (.iinc 7 1, 3) := by decide +kernel
theorem d_M_work_178 : decode b_M_work 178 = .ok (.goto (-96), 3) := by decide +kernel
theorem d_M_work_181 : decode b_M_work 181 = .ok (.iload 6, 2) := by decide +kernel
theorem d_M_work_183 : decode b_M_work 183 = .ok (.iconst (-1), 1) := by decide +kernel
theorem d_M_work_184 : decode b_M_work 184 = .ok (.if_icmp .ne 32, 3) := by decide +kernel
theorem d_M_work_187 : decode b_M_work 187 = .ok (.aload_n 0, 1) := by decide +kernel
theorem d_M_work_188 : decode b_M_work 188 = .ok (.getfield 16, 3) := by decide +kernel
theorem d_M_work_191 : decode b_M_work 191 = .ok (.iload_n 1, 1) := by decide +kernel
theorem d_M_work_192 : decode b_M_work 192 = .ok (.laload, 1) := by decide +kernel
theorem d_M_work_193 : decode b_M_work 193 = .ok (.lconst 0, 1) := by decide +kernel
theorem d_M_work_194 : decode b_M_work 194 = .ok (.lcmp, 1) := by decide +kernel
theorem d_M_work_195 : decode b_M_work 195 = .ok (.ifCond .eq 21, 3) := by decide +kernel
theorem d_M_work_198 : decode b_M_work 198 = .ok (.lload 4, 2) := by decide +kernel
theorem d_M_work_200 : decode b_M_work 200 = .ok (.aload_n 0, 1) := by decide +kernel
theorem d_M_work_201 : decode b_M_work 201 = .ok (.getfield 16, 3) := by decide +kernel
theorem d_M_work_204 : decode b_M_work 204 = .ok (.iload_n 1, 1) := by decide +kernel
theorem d_M_work_205 : decode b_M_work 205 = .ok (.laload, 1) := by decide +kernel
theorem d_M_work_206 : decode b_M_work 206 = .ok (.lrem, 1) := by decide +kernel
theorem d_M_work_207 : decode b_M_work 207 = .ok (.lconst 0, 1) := by decide +kernel
theorem d_M_work_208 : decode b_M_work 208 = .ok (.lcmp, 1) := by decide +kernel
theorem d_M_work_209 : decode b_M_work 209 = .ok (.ifCond .ne 7, 3) := by decide +kernel
theorem d_M_work_212 : decode b_M_work 212 = .ok (.bipush 6, 2) := by decide +kernel
theorem d_M_work_214 : decode b_M_work 214 = .ok (.istore 6, 2) := by decide +kernel
theorem d_M_work_216 : decode b_M_work 216 = .ok (.aload_n 0, 1) := by decide +kernel
theorem d_M_work_217 : decode b_M_work 217 = .ok (.getfield 45, 3) := by decide +kernel
theorem d_M_work_220 : decode b_M_work 220 = .ok (.iload_n 1, 1) := by decide +kernel
theorem d_M_work_221 : decode b_M_work 221 = .ok (.iconst 0, 1) := by decide +kernel
theorem d_M_work_222 : decode b_M_work 222 = .ok (.invokestatic 93, 3) := by decide +kernel
theorem d_M_work_225 : decode b_M_work 225 = .ok (.lload 4, 2) := by decide +kernel
theorem d_M_work_227 : decode b_M_work 227 = .ok (.lastore, 1) := by decide +kernel
theorem d_M_work_228 : decode b_M_work 228 = .ok (.aload_n 0, 1) := by decide +kernel
theorem d_M_work_229 : decode b_M_work 229 = .ok (.getfield 42, 3) := by decide +kernel
theorem d_M_work_232 : decode b_M_work 232 = .ok (.iload_n 1, 1) := by decide +kernel
theorem d_M_work_233 : decode b_M_work 233 = .ok (.iconst 0, 1) := by decide +kernel
theorem d_M_work_234 : decode b_M_work 234 = .ok (.invokestatic 93, 3) := by decide +kernel
theorem d_M_work_237 : decode b_M_work 237 = .ok (.iload 6, 2) := by decide +kernel
theorem d_M_work_239 : decode b_M_work 239 = .ok (.iastore, 1) := by decide +kernel
theorem d_M_work_240 : decode b_M_work 240 = .ok (.return_, 1) := by decide +kernel
theorem d_M_compare_0 : decode b_M_compare 0 = .ok (.iload_n 2, 1) := by decide +kernel
theorem d_M_compare_1 : decode b_M_compare 1 = .ok (.ifCond .eq 11, 3) := by decide +kernel
theorem d_M_compare_4 : decode b_M_compare 4 = .ok (.aload_n 0, 1) := by decide +kernel
theorem d_M_compare_5 : decode b_M_compare 5 = .ok (.iload_n 1, 1) := by decide +kernel
theorem d_M_compare_6 : decode b_M_compare 6 = .ok (.invokevirtual 130, 3) := by decide +kernel
theorem d_M_compare_9 : decode b_M_compare 9 = .ok (.ifCond .ne 4, 3) := by decide +kernel
theorem d_M_compare_12 : decode b_M_compare 12 = .ok (.return_, 1) := by decide +kernel
theorem d_M_compare_13 : decode b_M_compare 13 = .ok (.aload_n 0, 1) := by decide +kernel
theorem d_M_compare_14 : decode b_M_compare 14 = .ok (.iload_n 1, 1) := by decide +kernel
theorem d_M_compare_15 : decode b_M_compare 15 = .ok (.iconst 1, 1) := by decide +kernel
theorem d_M_compare_16 : decode b_M_compare 16 = .ok (.invokevirtual 101, 3) := by decide +kernel
theorem d_M_compare_19 : decode b_M_compare 19 = .ok (.lload 5, 2) := by decide +kernel
theorem d_M_compare_21 : decode b_M_compare 21 = .ok (.lcmp, 1) := by decide +kernel
theorem d_M_compare_22 : decode b_M_compare 22 = .ok (.ifCond .ne 18, 3) := by decide +kernel
theorem d_M_compare_25 : decode b_M_compare 25 = .ok (.aload_n 0, 1) := by decide +kernel
theorem d_M_compare_26 : decode b_M_compare 26 = .ok (.iload_n 1, 1) := by decide +kernel
theorem d_M_compare_27 : decode b_M_compare 27 = .ok (.iconst 0, 1) := by decide +kernel
theorem d_M_compare_28 : decode b_M_compare 28 = .ok (.invokevirtual 101, 3) := by decide +kernel
theorem d_M_compare_31 : decode b_M_compare 31 = .ok (.lload_n 3, 1) := by decide +kernel
theorem d_M_compare_32 : decode b_M_compare 32 = .ok (.lcmp, 1) := by decide +kernel
theorem d_M_compare_33 : decode b_M_compare 33 = .ok (.ifCond .ne 7, 3) := by decide +kernel
theorem d_M_compare_36 : decode b_M_compare 36 = .ok (.iconst 1, 1) := by decide +kernel
theorem d_M_compare_37 : decode b_M_compare 37 = .ok (.goto 4, 3) := by decide +kernel
theorem d_M_compare_40 : decode b_M_compare 40 = .ok (.iconst 0, 1) := by decide +kernel
theorem d_M_compare_41 : decode b_M_compare 41 = .ok (.istore 8, 2) := by decide +kernel
theorem d_M_compare_43 : decode b_M_compare 43 = .ok (.aload_n 0, 1) := by decide +kernel
theorem d_M_compare_44 : decode b_M_compare 44 = .ok (.getfield 60, 3) := by decide +kernel
theorem d_M_compare_47 : decode b_M_compare 47 = .ok (.iconst 1, 1) := by decide +kernel
theorem d_M_compare_48 : decode b_M_compare 48 = .ok (.dup2, 1) := by decide +kernel
theorem d_M_compare_49 : decode b_M_compare 49 = .ok (.iaload, 1) := by decide +kernel
theorem d_M_compare_50 : decode b_M_compare 50 = .ok (.iload 8, 2) := by decide +kernel
theorem d_M_compare_52 : decode b_M_compare 52 = .ok (.ifCond .eq 7, 3) := by decide +kernel
theorem d_M_compare_55 : decode b_M_compare 55 = .ok (.iconst 1, 1) := by decide +kernel
theorem d_M_compare_56 : decode b_M_compare 56 = .ok (.goto 4, 3) := by decide +kernel
theorem d_M_compare_59 : decode b_M_compare 59 = .ok (.iconst 0, 1) := by decide +kernel
theorem d_M_compare_60 : decode b_M_compare 60 = .ok (.iadd, 1) := by decide +kernel
theorem d_M_compare_61 : decode b_M_compare 61 = .ok (.iastore, 1) := by decide +kernel
theorem d_M_compare_62 : decode b_M_compare 62 = .ok (.aload_n 0, 1) := by decide +kernel
theorem d_M_compare_63 : decode b_M_compare 63 = .ok (.getfield 60, 3) := by decide +kernel
theorem d_M_compare_66 : decode b_M_compare 66 = .ok (.iconst 2, 1) := by decide +kernel
theorem d_M_compare_67 : decode b_M_compare 67 = .ok (.dup2, 1) := by decide +kernel
theorem d_M_compare_68 : decode b_M_compare 68 = .ok (.iaload, 1) := by decide +kernel
theorem d_M_compare_69 : decode b_M_compare 69 = .ok (.iload 8, 2) := by decide +kernel
theorem d_M_compare_71 : decode b_M_compare 71 = .ok (.ifCond .ne 18, 3) := by decide +kernel
theorem d_M_compare_74 : decode b_M_compare 74 = .ok (.aload_n 0, 1) := by decide +kernel
theorem d_M_compare_75 : decode b_M_compare 75 = .ok (.iload_n 1, 1) := by decide +kernel
theorem d_M_compare_76 : decode b_M_compare 76 = .ok (.iconst 0, 1) := by decide +kernel
theorem d_M_compare_77 : decode b_M_compare 77 = .ok (.invokevirtual 101, 3) := by decide +kernel
theorem d_M_compare_80 : decode b_M_compare 80 = .ok (.lload_n 3, 1) := by decide +kernel
theorem d_M_compare_81 : decode b_M_compare 81 = .ok (.lcmp, 1) := by decide +kernel
theorem d_M_compare_82 : decode b_M_compare 82 = .ok (.ifCond .ne 7, 3) := by decide +kernel
theorem d_M_compare_85 : decode b_M_compare 85 = .ok (.iconst 1, 1) := by decide +kernel
theorem d_M_compare_86 : decode b_M_compare 86 = .ok (.goto 4, 3) := by decide +kernel
theorem d_M_compare_89 : decode b_M_compare 89 = .ok (.iconst 0, 1) := by decide +kernel
theorem d_M_compare_90 : decode b_M_compare 90 = .ok (.iadd, 1) := by decide +kernel
theorem d_M_compare_91 : decode b_M_compare 91 = .ok (.iastore, 1) := by decide +kernel
theorem d_M_compare_92 : decode b_M_compare 92 = .ok (.aload_n 0, 1) := by decide +kernel
theorem d_M_compare_93 : decode b_M_compare 93 = .ok (.dup, 1) := by decide +kernel
theorem d_M_compare_94 : decode b_M_compare 94 = .ok (.getfield 133, 3) := by decide +kernel
theorem d_M_compare_97 : decode b_M_compare 97 = .ok (.iload 8, 2) := by decide +kernel
theorem d_M_compare_99 : decode b_M_compare 99 = .ok (.ifCond .eq 12, 3) := by decide +kernel
theorem d_M_compare_102 : decode b_M_compare 102 = .ok (.iload 7, 2) := by decide +kernel
theorem d_M_compare_104 : decode b_M_compare 104 = .ok (.ifCond .eq 7, 3) := by decide +kernel
theorem d_M_compare_107 : decode b_M_compare 107 = .ok (.iconst 1, 1) := by decide +kernel
theorem d_M_compare_108 : decode b_M_compare 108 = .ok (.goto 4, 3) := by decide +kernel
theorem d_M_compare_111 : decode b_M_compare 111 = .ok (.iconst 0, 1) := by decide +kernel
theorem d_M_compare_112 : decode b_M_compare 112 = .ok (.iadd, 1) := by decide +kernel
theorem d_M_compare_113 : decode b_M_compare 113 = .ok (.putfield 133, 3) := by decide +kernel
theorem d_M_compare_116 : decode b_M_compare 116 = .ok (.return_, 1) := by decide +kernel
theorem d_M_go_0 : decode b_M_go 0 = .ok (.aload_n 0, 1) := by decide +kernel
theorem d_M_go_1 : decode b_M_go 1 = .ok (.iload_n 1, 1) := by decide +kernel
theorem d_M_go_2 : decode b_M_go 2 = .ok (.invokevirtual 136, 3) := by decide +kernel
theorem d_M_go_5 : decode b_M_go 5 = .ok (.ifCond .eq 22, 3) := by decide +kernel
theorem d_M_go_8 : decode b_M_go 8 = .ok (.aload_n 0, 1) := by decide +kernel
theorem d_M_go_9 : decode b_M_go 9 = .ok (.getfield 54, 3) := by decide +kernel
theorem d_M_go_12 : decode b_M_go 12 = .ok (.iload_n 1, 1) := by decide +kernel
theorem d_M_go_13 : decode b_M_go 13 = .ok (.iconst 5, 1) := by decide +kernel
theorem d_M_go_14 : decode b_M_go 14 = .ok (.iastore, 1) := by decide +kernel
theorem d_M_go_15 : decode b_M_go 15 = .ok (.aload_n 0, 1) := by decide +kernel
theorem d_M_go_16 : decode b_M_go 16 = .ok (.getfield 60, 3) := by decide +kernel
theorem d_M_go_19 : decode b_M_go 19 = .ok (.iconst 3, 1) := by decide +kernel
theorem d_M_go_20 : decode b_M_go 20 = .ok (.dup2, 1) := by decide +kernel
theorem d_M_go_21 : decode b_M_go 21 = .ok (.iaload, 1) := by decide +kernel
theorem d_M_go_22 : decode b_M_go 22 = .ok (.iconst 1, 1) := by decide +kernel
theorem d_M_go_23 : decode b_M_go 23 = .ok (.iadd, 1) := by decide +kernel
theorem d_M_go_24 : decode b_M_go 24 = .ok (.iastore, 1) := by decide +kernel
theorem d_M_go_25 : decode b_M_go 25 = .ok (.iconst 0, 1) := by decide +kernel
theorem d_M_go_26 : decode b_M_go 26 = .ok (.ireturn, 1) := by decide +kernel
theorem d_M_go_27 : decode b_M_go 27 = .ok (.aload_n 0, 1) := by decide +kernel
theorem d_M_go_28 : decode b_M_go 28 = .ok (.iload_n 1, 1) := by decide +kernel
theorem d_M_go_29 : decode b_M_go 29 = .ok (.invokevirtual 130, 3) := by decide +kernel
theorem d_M_go_32 : decode b_M_go 32 = .ok (.istore_n 2, 1) := by decide +kernel
theorem d_M_go_33 : decode b_M_go 33 = .ok (.iload_n 2, 1) := by decide +kernel
theorem d_M_go_34 : decode b_M_go 34 = .ok (.ifCond .eq 12, 3) := by decide +kernel
theorem d_M_go_37 : decode b_M_go 37 = .ok (.aload_n 0, 1) := by decide +kernel
theorem d_M_go_38 : decode b_M_go 38 = .ok (.iload_n 1, 1) := by decide +kernel
theorem d_M_go_39 : decode b_M_go 39 = .ok (.iconst 0, 1) := by decide +kernel
theorem d_M_go_40 : decode b_M_go 40 = .ok (.invokevirtual 101, 3) := by decide +kernel
theorem d_M_go_43 : decode b_M_go 43 = .ok (.goto 4, 3) := by decide +kernel
theorem d_M_go_46 : decode b_M_go 46 = .ok (.lconst 0, 1) := by decide +kernel
theorem d_M_go_47 : decode b_M_go 47 = .ok (.lstore_n 3, 1) := by decide +kernel
theorem d_M_go_48 : decode b_M_go 48 = .ok (.iload_n 2, 1) := by decide +kernel
theorem d_M_go_49 : decode b_M_go 49 = .ok (.ifCond .eq 12, 3) := by decide +kernel
theorem d_M_go_52 : decode b_M_go 52 = .ok (.aload_n 0, 1) := by decide +kernel
theorem d_M_go_53 : decode b_M_go 53 = .ok (.iload_n 1, 1) := by decide +kernel
theorem d_M_go_54 : decode b_M_go 54 = .ok (.iconst 1, 1) := by decide +kernel
theorem d_M_go_55 : decode b_M_go 55 = .ok (.invokevirtual 101, 3) := by decide +kernel
theorem d_M_go_58 : decode b_M_go 58 = .ok (.goto 4, 3) := by decide +kernel
theorem d_M_go_61 : decode b_M_go 61 = .ok (.lconst 0, 1) := by decide +kernel
theorem d_M_go_62 : decode b_M_go 62 = .ok (.lstore 5, 2) := by decide +kernel
theorem d_M_go_64 : decode b_M_go 64 = .ok (.aload_n 0, 1) := by decide +kernel
theorem d_M_go_65 : decode b_M_go 65 = .ok (.getfield 23, 3) := by decide +kernel
theorem d_M_go_68 : decode b_M_go 68 = .ok (.iload_n 1, 1) := by decide +kernel
theorem d_M_go_69 : decode b_M_go 69 = .ok (.baload, 1) := by decide +kernel
theorem d_M_go_70 : decode b_M_go 70 = .ok (.ifCond .eq 7, 3) := by decide +kernel
theorem d_M_go_73 : decode b_M_go 73 = .ok (.iconst (-1), 1) := by decide +kernel
theorem d_M_go_74 : decode b_M_go 74 = .ok (.goto 8, 3) := by decide +kernel
theorem d_M_go_77 : decode b_M_go 77 = .ok (.aload_n 0, 1) := by decide +kernel
theorem d_M_go_78 : decode b_M_go 78 = .ok (.iload_n 1, 1) := by decide +kernel
theorem d_M_go_79 : decode b_M_go 79 = .ok (.invokevirtual 122, 3) := by decide +kernel
theorem d_M_go_82 : decode b_M_go 82 = .ok (.istore 7, 2) := by decide +kernel
theorem d_M_go_84 : decode b_M_go 84 = .ok (.iload 7, 2) := by decide +kernel
theorem d_M_go_86 : decode b_M_go 86 = .ok (.iconst (-1), 1) := by decide +kernel
theorem d_M_go_87 : decode b_M_go 87 = .ok (.if_icmp .eq 79, 3) := by decide +kernel
theorem d_M_go_90 : decode b_M_go 90 = .ok (.aload_n 0, 1) := by decide +kernel
theorem d_M_go_91 : decode b_M_go 91 = .ok (.iload_n 1, 1) := by decide +kernel
theorem d_M_go_92 : decode b_M_go 92 = .ok (.iload 7, 2) := by decide +kernel
theorem d_M_go_94 : decode b_M_go 94 = .ok (.invokevirtual 139, 3) := by decide +kernel
theorem d_M_go_97 : decode b_M_go 97 = .ok (.aload_n 0, 1) := by decide +kernel
theorem d_M_go_98 : decode b_M_go 98 = .ok (.getfield 54, 3) := by decide +kernel
theorem d_M_go_101 : decode b_M_go 101 = .ok (.iload_n 1, 1) := by decide +kernel
theorem d_M_go_102 : decode b_M_go 102 = .ok (.aload_n 0, 1) := by decide +kernel
theorem d_M_go_103 : decode b_M_go 103 = .ok (.iload_n 1, 1) := by decide +kernel
theorem d_M_go_104 : decode b_M_go 104 = .ok (.invokevirtual 130, 3) := by decide +kernel
theorem d_M_go_107 : decode b_M_go 107 = .ok (.ifCond .ne 7, 3) := by decide +kernel
theorem d_M_go_110 : decode b_M_go 110 = .ok (.iconst 4, 1) := by decide +kernel
theorem d_M_go_111 : decode b_M_go 111 = .ok (.goto 14, 3) := by decide +kernel
theorem d_M_go_114 : decode b_M_go 114 = .ok (.iload 7, 2) := by decide +kernel
theorem d_M_go_116 : decode b_M_go 116 = .ok (.ifCond .ne 7, 3) := by decide +kernel
theorem d_M_go_119 : decode b_M_go 119 = .ok (.iconst 1, 1) := by decide +kernel
theorem d_M_go_120 : decode b_M_go 120 = .ok (.goto 5, 3) := by decide +kernel
theorem d_M_go_123 : decode b_M_go 123 = .ok (.bipush 6, 2) := by decide +kernel
theorem d_M_go_125 : decode b_M_go 125 = .ok (.iastore, 1) := by decide +kernel
theorem d_M_go_126 : decode b_M_go 126 = .ok (.aload_n 0, 1) := by decide +kernel
theorem d_M_go_127 : decode b_M_go 127 = .ok (.getfield 60, 3) := by decide +kernel
theorem d_M_go_130 : decode b_M_go 130 = .ok (.iconst 0, 1) := by decide +kernel
theorem d_M_go_131 : decode b_M_go 131 = .ok (.dup2, 1) := by decide +kernel
theorem d_M_go_132 : decode b_M_go 132 = .ok (.iaload, 1) := by decide +kernel
theorem d_M_go_133 : decode b_M_go 133 = .ok (.aload_n 0, 1) := by decide +kernel
theorem d_M_go_134 : decode b_M_go 134 = .ok (.getfield 69, 3) := by decide +kernel
theorem d_M_go_137 : decode b_M_go 137 = .ok (.iload_n 1, 1) := by decide +kernel
theorem d_M_go_138 : decode b_M_go 138 = .ok (.baload, 1) := by decide +kernel
theorem d_M_go_139 : decode b_M_go 139 = .ok (.ifCond .eq 7, 3) := by decide +kernel
theorem d_M_go_142 : decode b_M_go 142 = .ok (.iconst 1, 1) := by decide +kernel
theorem d_M_go_143 : decode b_M_go 143 = .ok (.goto 4, 3) := by decide +kernel
theorem d_M_go_146 : decode b_M_go 146 = .ok (.iconst 0, 1) := by decide +kernel
theorem d_M_go_147 : decode b_M_go 147 = .ok (.iadd, 1) := by decide +kernel
theorem d_M_go_148 : decode b_M_go 148 = .ok (.iastore, 1) := by decide +kernel
theorem d_M_go_149 : decode b_M_go 149 = .ok (.iload 7, 2) := by decide +kernel
theorem d_M_go_151 : decode b_M_go 151 = .ok (.ifCond .le 13, 3) := by decide +kernel
theorem d_M_go_154 : decode b_M_go 154 = .ok (.aload_n 0, 1) := by decide +kernel
theorem d_M_go_155 : decode b_M_go 155 = .ok (.iload_n 1, 1) := by decide +kernel
theorem d_M_go_156 : decode b_M_go 156 = .ok (.iload_n 2, 1) := by decide +kernel
theorem d_M_go_157 : decode b_M_go 157 = .ok (.lload_n 3, 1) := by decide +kernel
theorem d_M_go_158 : decode b_M_go 158 = .ok (.lload 5, 2) := by decide +kernel
theorem d_M_go_160 : decode b_M_go 160 = .ok (.iconst 0, 1) := by decide +kernel
theorem d_M_go_161 : decode b_M_go 161 = .ok (.invokevirtual 142, 3) := by decide +kernel
theorem d_M_go_164 : decode b_M_go 164 = .ok (.iconst 0, 1) := by decide +kernel
theorem d_M_go_165 : decode b_M_go 165 = .ok (.ireturn, 1) := by decide +kernel
theorem d_M_go_166 : decode b_M_go 166 = .ok (.aload_n 0, 1) := by decide +kernel
theorem d_M_go_167 : decode b_M_go 167 = .ok (.getfield 57, 3) := by decide +kernel
theorem d_M_go_170 : decode b_M_go 170 = .ok (.iload_n 1, 1) := by decide +kernel
theorem d_M_go_171 : decode b_M_go 171 = .ok (.aload_n 0, 1) := by decide +kernel
theorem d_M_go_172 : decode b_M_go 172 = .ok (.iload_n 1, 1) := by decide +kernel
theorem d_M_go_173 : decode b_M_go 173 = .ok (.invokevirtual 146, 3) := by decide +kernel
theorem d_M_go_176 : decode b_M_go 176 = .ok (.iastore, 1) := by decide +kernel
theorem d_M_go_177 : decode b_M_go 177 = .ok (.aload_n 0, 1) := by decide +kernel
theorem d_M_go_178 : decode b_M_go 178 = .ok (.getfield 63, 3) := by decide +kernel
theorem d_M_go_181 : decode b_M_go 181 = .ok (.aload_n 0, 1) := by decide +kernel
theorem d_M_go_182 : decode b_M_go 182 = .ok (.getfield 57, 3) := by decide +kernel
theorem d_M_go_185 : decode b_M_go 185 = .ok (.iload_n 1, 1) := by decide +kernel
theorem d_M_go_186 : decode b_M_go 186 = .ok (.iaload, 1) := by decide +kernel
theorem d_M_go_187 : decode b_M_go 187 = .ok (.dup2, 1) := by decide +kernel
theorem d_M_go_188 : decode b_M_go 188 = .ok (.iaload, 1) := by decide +kernel
theorem d_M_go_189 : decode b_M_go 189 = .ok (.iconst 1, 1) := by decide +kernel
theorem d_M_go_190 : decode b_M_go 190 = .ok (.iadd, 1) := by decide +kernel
theorem d_M_go_191 : decode b_M_go 191 = .ok (.iastore, 1) := by decide +kernel
theorem d_M_go_192 : decode b_M_go 192 = .ok (.aload_n 0, 1) := by decide +kernel
theorem d_M_go_193 : decode b_M_go 193 = .ok (.dup, 1) := by decide +kernel
theorem d_M_go_194 : decode b_M_go 194 = .ok (.getfield 149, 3) := by decide +kernel
theorem d_M_go_197 : decode b_M_go 197 = .ok (.iconst 1, 1) := by decide +kernel
theorem d_M_go_198 : decode b_M_go 198 = .ok (.iadd, 1) := by decide +kernel
theorem d_M_go_199 : decode b_M_go 199 = .ok (.putfield 149, 3) := by decide +kernel
theorem d_M_go_202 : decode b_M_go 202 = .ok (.aload_n 0, 1) := by decide +kernel
theorem d_M_go_203 : decode b_M_go 203 = .ok (.getfield 23, 3) := by decide +kernel
theorem d_M_go_206 : decode b_M_go 206 = .ok (.iload_n 1, 1) := by decide +kernel
theorem d_M_go_207 : decode b_M_go 207 = .ok (.iconst 0, 1) := by decide +kernel
theorem d_M_go_208 : decode b_M_go 208 = .ok (.bastore, 1) := by decide +kernel
theorem d_M_go_209 : decode b_M_go 209 = .ok (.aload_n 0, 1) := by decide +kernel
theorem d_M_go_210 : decode b_M_go 210 = .ok (.iload_n 1, 1) := by decide +kernel
theorem d_M_go_211 : decode b_M_go 211 = .ok (.invokevirtual 152, 3) := by decide +kernel
theorem d_M_go_214 : decode b_M_go 214 = .ok (.aload_n 0, 1) := by decide +kernel
theorem d_M_go_215 : decode b_M_go 215 = .ok (.getfield 54, 3) := by decide +kernel
theorem d_M_go_218 : decode b_M_go 218 = .ok (.iload_n 1, 1) := by decide +kernel
theorem d_M_go_219 : decode b_M_go 219 = .ok (.aload_n 0, 1) := by decide +kernel
theorem d_M_go_220 : decode b_M_go 220 = .ok (.iload_n 1, 1) := by decide +kernel
theorem d_M_go_221 : decode b_M_go 221 = .ok (.invokevirtual 130, 3) := by decide +kernel
theorem d_M_go_224 : decode b_M_go 224 = .ok (.ifCond .eq 7, 3) := by decide +kernel
theorem d_M_go_227 : decode b_M_go 227 = .ok (.iconst 2, 1) := by decide +kernel
theorem d_M_go_228 : decode b_M_go 228 = .ok (.goto 4, 3) := by decide +kernel
theorem d_M_go_231 : decode b_M_go 231 = .ok (.iconst 3, 1) := by decide +kernel
theorem d_M_go_232 : decode b_M_go 232 = .ok (.iastore, 1) := by decide +kernel
theorem d_M_go_233 : decode b_M_go 233 = .ok (.aload_n 0, 1) := by decide +kernel
theorem d_M_go_234 : decode b_M_go 234 = .ok (.iload_n 1, 1) := by decide +kernel
theorem d_M_go_235 : decode b_M_go 235 = .ok (.iload_n 2, 1) := by decide +kernel
theorem d_M_go_236 : decode b_M_go 236 = .ok (.lload_n 3, 1) := by decide +kernel
theorem d_M_go_237 : decode b_M_go 237 = .ok (.lload 5, 2) := by decide +kernel
theorem d_M_go_239 : decode b_M_go 239 = .ok (.iconst 1, 1) := by decide +kernel
theorem d_M_go_240 : decode b_M_go 240 = .ok (.invokevirtual 142, 3) := by decide +kernel
theorem d_M_go_243 : decode b_M_go 243 = .ok (.iconst 1, 1) := by decide +kernel
theorem d_M_go_244 : decode b_M_go 244 = .ok (.ireturn, 1) := by decide +kernel
theorem d_M_build_0 : decode b_M_build 0 = .ok (.aload_n 0, 1) := by decide +kernel
theorem d_M_build_1 : decode b_M_build 1 = .ok (.iconst 0, 1) := by decide +kernel
theorem d_M_build_2 : decode b_M_build 2 = .ok (.putfield 72, 3) := by decide +kernel
theorem d_M_build_5 : decode b_M_build 5 = .ok (.iconst 0, 1) := by decide +kernel
theorem d_M_build_6 : decode b_M_build 6 = .ok (.istore_n 2, 1) := by decide +kernel
theorem d_M_build_7 : decode b_M_build 7 = .ok (.iload_n 2, 1) := by decide +kernel
theorem d_M_build_8 : decode b_M_build 8 = .ok (.iconst 5, 1) := by decide +kernel
theorem d_M_build_9 : decode b_M_build 9 = .ok (.if_icmp .ge 16, 3) := by decide +kernel
theorem d_M_build_12 : decode b_M_build 12 = .ok (.aload_n 0, 1) := by decide +kernel
theorem d_M_build_13 : decode b_M_build 13 = .ok (.getfield 60, 3) := by decide +kernel
theorem d_M_build_16 : decode b_M_build 16 = .ok (.iload_n 2, 1) := by decide +kernel
theorem d_M_build_17 : decode b_M_build 17 = .ok (.iconst 0, 1) := by decide +kernel
theorem d_M_build_18 : decode b_M_build 18 = .ok (.iastore, 1) := by decide +kernel
theorem d_M_build_19 : decode b_M_build 19 = .ok (.iinc 2 1, 3) := by decide +kernel
theorem d_M_build_22 : decode b_M_build 22 = .ok (.goto (-15), 3) := by decide +kernel
theorem d_M_build_25 : decode b_M_build 25 = .ok (.iconst 0, 1) := by decide +kernel
theorem d_M_build_26 : decode b_M_build 26 = .ok (.istore_n 2, 1) := by decide +kernel
theorem d_M_build_27 : decode b_M_build 27 = .ok (.iload_n 2, 1) := by decide +kernel
theorem d_M_build_28 : decode b_M_build 28 = .ok (.bipush 16, 2) := by decide +kernel
theorem d_M_build_30 : decode b_M_build 30 = .ok (.if_icmp .ge 23, 3) := by decide +kernel
theorem d_M_build_33 : decode b_M_build 33 = .ok (.aload_n 0, 1) := by decide +kernel
theorem d_M_build_34 : decode b_M_build 34 = .ok (.getfield 54, 3) := by decide +kernel
theorem d_M_build_37 : decode b_M_build 37 = .ok (.iload_n 2, 1) := by decide +kernel
theorem d_M_build_38 : decode b_M_build 38 = .ok (.iconst 0, 1) := by decide +kernel
theorem d_M_build_39 : decode b_M_build 39 = .ok (.iastore, 1) := by decide +kernel
theorem d_M_build_40 : decode b_M_build 40 = .ok (.aload_n 0, 1) := by decide +kernel
theorem d_M_build_41 : decode b_M_build 41 = .ok (.getfield 57, 3) := by decide +kernel
theorem d_M_build_44 : decode b_M_build 44 = .ok (.iload_n 2, 1) := by decide +kernel
theorem d_M_build_45 : decode b_M_build 45 = .ok (.iconst (-1), 1) := by decide +kernel
theorem d_M_build_46 : decode b_M_build 46 = .ok (.iastore, 1) := by decide +kernel
theorem d_M_build_47 : decode b_M_build 47 = .ok (.iinc 2 1, 3) := by decide +kernel
theorem d_M_build_50 : decode b_M_build 50 = .ok (.goto (-23), 3) := by decide +kernel
theorem d_M_build_53 : decode b_M_build 53 = .ok (.aload_n 0, 1) := by decide +kernel
theorem d_M_build_54 : decode b_M_build 54 = .ok (.iload_n 1, 1) := by decide +kernel
theorem d_M_build_55 : decode b_M_build 55 = .ok (.invokevirtual 156, 3) := by decide +kernel
theorem d_M_build_58 : decode b_M_build 58 = .ok (.aload_n 0, 1) := by decide +kernel
theorem d_M_build_59 : decode b_M_build 59 = .ok (.invokevirtual 159, 3) := by decide +kernel
theorem d_M_build_62 : decode b_M_build 62 = .ok (.iconst 0, 1) := by decide +kernel
theorem d_M_build_63 : decode b_M_build 63 = .ok (.istore_n 2, 1) := by decide +kernel
theorem d_M_build_64 : decode b_M_build 64 = .ok (.iconst 0, 1) := by decide +kernel
theorem d_M_build_65 : decode b_M_build 65 = .ok (.istore_n 3, 1) := by decide +kernel
theorem d_M_build_66 : decode b_M_build 66 = .ok (.iload_n 3, 1) := by decide +kernel
theorem d_M_build_67 : decode b_M_build 67 = .ok (.aload_n 0, 1) := by decide +kernel
theorem d_M_build_68 : decode b_M_build 68 = .ok (.getfield 79, 3) := by decide +kernel
theorem d_M_build_71 : decode b_M_build 71 = .ok (.if_icmp .ge 30, 3) := by decide +kernel
theorem d_M_build_74 : decode b_M_build 74 = .ok (.iload_n 2, 1) := by decide +kernel
theorem d_M_build_75 : decode b_M_build 75 = .ok (.aload_n 0, 1) := by decide +kernel
theorem d_M_build_76 : decode b_M_build 76 = .ok (.getfield 66, 3) := by decide +kernel
theorem d_M_build_79 : decode b_M_build 79 = .ok (.iload_n 3, 1) := by decide +kernel
theorem d_M_build_80 : decode b_M_build 80 = .ok (.baload, 1) := by decide +kernel
theorem d_M_build_81 : decode b_M_build 81 = .ok (.ifCond .eq 11, 3) := by decide +kernel
theorem d_M_build_84 : decode b_M_build 84 = .ok (.aload_n 0, 1) := by decide +kernel
theorem d_M_build_85 : decode b_M_build 85 = .ok (.iload_n 3, 1) := by decide +kernel
theorem d_M_build_86 : decode b_M_build 86 = .ok (.invokevirtual 162, 3) := by decide +kernel
theorem d_M_build_89 : decode b_M_build 89 = .ok (.goto 4, 3) := by decide +kernel
theorem d_M_build_92 : decode b_M_build 92 = .ok (.iconst 0, 1) := by decide +kernel
theorem d_M_build_93 : decode b_M_build 93 = .ok (.iadd, 1) := by decide +kernel
theorem d_M_build_94 : decode b_M_build 94 = .ok (.istore_n 2, 1) := by decide +kernel
theorem d_M_build_95 : decode b_M_build 95 = .ok (.iinc 3 1, 3) := by decide +kernel
theorem d_M_build_98 : decode b_M_build 98 = .ok (.goto (-32), 3) := by decide +kernel
theorem d_M_build_101 : decode b_M_build 101 = .ok (.iload_n 2, 1) := by decide +kernel
theorem d_M_build_102 : decode b_M_build 102 = .ok (.ireturn, 1) := by decide +kernel
theorem d_M_state_0 : decode b_M_state 0 = .ok (.aload_n 0, 1) := by decide +kernel
theorem d_M_state_1 : decode b_M_state 1 = .ok (.iconst 0, 1) := by decide +kernel
theorem d_M_state_2 : decode b_M_state 2 = .ok (.putfield 72, 3) := by decide +kernel
theorem d_M_state_5 : decode b_M_state 5 = .ok (.aload_n 0, 1) := by decide +kernel
theorem d_M_state_6 : decode b_M_state 6 = .ok (.iload_n 1, 1) := by decide +kernel
theorem d_M_state_7 : decode b_M_state 7 = .ok (.invokevirtual 86, 3) := by decide +kernel
theorem d_M_state_10 : decode b_M_state 10 = .ok (.ifCond .eq 12, 3) := by decide +kernel
theorem d_M_state_13 : decode b_M_state 13 = .ok (.aload_n 0, 1) := by decide +kernel
theorem d_M_state_14 : decode b_M_state 14 = .ok (.getfield 54, 3) := by decide +kernel
theorem d_M_state_17 : decode b_M_state 17 = .ok (.iload_n 1, 1) := by decide +kernel
theorem d_M_state_18 : decode b_M_state 18 = .ok (.iaload, 1) := by decide +kernel
theorem d_M_state_19 : decode b_M_state 19 = .ok (.goto 4, 3) := by decide +kernel
theorem d_M_state_22 : decode b_M_state 22 = .ok (.iconst 0, 1) := by decide +kernel
theorem d_M_state_23 : decode b_M_state 23 = .ok (.ireturn, 1) := by decide +kernel
theorem d_M_cause_0 : decode b_M_cause 0 = .ok (.aload_n 0, 1) := by decide +kernel
theorem d_M_cause_1 : decode b_M_cause 1 = .ok (.iconst 0, 1) := by decide +kernel
theorem d_M_cause_2 : decode b_M_cause 2 = .ok (.putfield 72, 3) := by decide +kernel
theorem d_M_cause_5 : decode b_M_cause 5 = .ok (.aload_n 0, 1) := by decide +kernel
theorem d_M_cause_6 : decode b_M_cause 6 = .ok (.iload_n 1, 1) := by decide +kernel
theorem d_M_cause_7 : decode b_M_cause 7 = .ok (.invokevirtual 86, 3) := by decide +kernel
theorem d_M_cause_10 : decode b_M_cause 10 = .ok (.ifCond .eq 32, 3) := by decide +kernel
theorem d_M_cause_13 : decode b_M_cause 13 = .ok (.aload_n 0, 1) := by decide +kernel
theorem d_M_cause_14 : decode b_M_cause 14 = .ok (.getfield 54, 3) := by decide +kernel
theorem d_M_cause_17 : decode b_M_cause 17 = .ok (.iload_n 1, 1) := by decide +kernel
theorem d_M_cause_18 : decode b_M_cause 18 = .ok (.iaload, 1) := by decide +kernel
theorem d_M_cause_19 : decode b_M_cause 19 = .ok (.iconst 2, 1) := by decide +kernel
theorem d_M_cause_20 : decode b_M_cause 20 = .ok (.if_icmp .eq 13, 3) := by decide +kernel
theorem d_M_cause_23 : decode b_M_cause 23 = .ok (.aload_n 0, 1) := by decide +kernel
theorem d_M_cause_24 : decode b_M_cause 24 = .ok (.getfield 54, 3) := by decide +kernel
theorem d_M_cause_27 : decode b_M_cause 27 = .ok (.iload_n 1, 1) := by decide +kernel
theorem d_M_cause_28 : decode b_M_cause 28 = .ok (.iaload, 1) := by decide +kernel
theorem d_M_cause_29 : decode b_M_cause 29 = .ok (.iconst 3, 1) := by decide +kernel
theorem d_M_cause_30 : decode b_M_cause 30 = .ok (.if_icmp .ne 12, 3) := by decide +kernel
theorem d_M_cause_33 : decode b_M_cause 33 = .ok (.aload_n 0, 1) := by decide +kernel
theorem d_M_cause_34 : decode b_M_cause 34 = .ok (.getfield 57, 3) := by decide +kernel
theorem d_M_cause_37 : decode b_M_cause 37 = .ok (.iload_n 1, 1) := by decide +kernel
theorem d_M_cause_38 : decode b_M_cause 38 = .ok (.iaload, 1) := by decide +kernel
theorem d_M_cause_39 : decode b_M_cause 39 = .ok (.goto 4, 3) := by decide +kernel
theorem d_M_cause_42 : decode b_M_cause 42 = .ok (.iconst (-1), 1) := by decide +kernel
theorem d_M_cause_43 : decode b_M_cause 43 = .ok (.ireturn, 1) := by decide +kernel
theorem d_M_counted_0 : decode b_M_counted 0 = .ok (.aload_n 0, 1) := by decide +kernel
theorem d_M_counted_1 : decode b_M_counted 1 = .ok (.iconst 0, 1) := by decide +kernel
theorem d_M_counted_2 : decode b_M_counted 2 = .ok (.putfield 72, 3) := by decide +kernel
theorem d_M_counted_5 : decode b_M_counted 5 = .ok (.iload_n 1, 1) := by decide +kernel
theorem d_M_counted_6 : decode b_M_counted 6 = .ok (.ifCond .lt 8, 3) := by decide +kernel
theorem d_M_counted_9 : decode b_M_counted 9 = .ok (.iload_n 1, 1) := by decide +kernel
theorem d_M_counted_10 : decode b_M_counted 10 = .ok (.iconst 4, 1) := by decide +kernel
theorem d_M_counted_11 : decode b_M_counted 11 = .ok (.if_icmp .le 7, 3) := by decide +kernel
theorem d_M_counted_14 : decode b_M_counted 14 = .ok (.iconst (-1), 1) := by decide +kernel
theorem d_M_counted_15 : decode b_M_counted 15 = .ok (.goto 9, 3) := by decide +kernel
theorem d_M_counted_18 : decode b_M_counted 18 = .ok (.aload_n 0, 1) := by decide +kernel
theorem d_M_counted_19 : decode b_M_counted 19 = .ok (.getfield 60, 3) := by decide +kernel
theorem d_M_counted_22 : decode b_M_counted 22 = .ok (.iload_n 1, 1) := by decide +kernel
theorem d_M_counted_23 : decode b_M_counted 23 = .ok (.iaload, 1) := by decide +kernel
theorem d_M_counted_24 : decode b_M_counted 24 = .ok (.ireturn, 1) := by decide +kernel
theorem d_M_output_0 : decode b_M_output 0 = .ok (.aload_n 0, 1) := by decide +kernel
theorem d_M_output_1 : decode b_M_output 1 = .ok (.iconst 0, 1) := by decide +kernel
theorem d_M_output_2 : decode b_M_output 2 = .ok (.putfield 72, 3) := by decide +kernel
theorem d_M_output_5 : decode b_M_output 5 = .ok (.aload_n 0, 1) := by decide +kernel
theorem d_M_output_6 : decode b_M_output 6 = .ok (.iload_n 1, 1) := by decide +kernel
theorem d_M_output_7 : decode b_M_output 7 = .ok (.invokevirtual 86, 3) := by decide +kernel
theorem d_M_output_10 : decode b_M_output 10 = .ok (.ifCond .eq 12, 3) := by decide +kernel
theorem d_M_output_13 : decode b_M_output 13 = .ok (.iload_n 2, 1) := by decide +kernel
theorem d_M_output_14 : decode b_M_output 14 = .ok (.ifCond .lt 8, 3) := by decide +kernel
theorem d_M_output_17 : decode b_M_output 17 = .ok (.iload_n 2, 1) := by decide +kernel
theorem d_M_output_18 : decode b_M_output 18 = .ok (.iconst 1, 1) := by decide +kernel
theorem d_M_output_19 : decode b_M_output 19 = .ok (.if_icmp .le 11, 3) := by decide +kernel
theorem d_M_output_22 : decode b_M_output 22 = .ok (.aload_n 0, 1) := by decide +kernel
theorem d_M_output_23 : decode b_M_output 23 = .ok (.iconst 1, 1) := by decide +kernel
theorem d_M_output_24 : decode b_M_output 24 = .ok (.putfield 72, 3) := by decide +kernel
theorem d_M_output_27 : decode b_M_output 27 = .ok (.goto 16, 3) := by decide +kernel
theorem d_M_output_30 : decode b_M_output 30 = .ok (.aload_n 0, 1) := by decide +kernel
theorem d_M_output_31 : decode b_M_output 31 = .ok (.iload_n 1, 1) := by decide +kernel
theorem d_M_output_32 : decode b_M_output 32 = .ok (.invokevirtual 130, 3) := by decide +kernel
theorem d_M_output_35 : decode b_M_output 35 = .ok (.ifCond .ne 8, 3) := by decide +kernel
theorem d_M_output_38 : decode b_M_output 38 = .ok (.aload_n 0, 1) := by decide +kernel
theorem d_M_output_39 : decode b_M_output 39 = .ok (.iconst 2, 1) := by decide +kernel
theorem d_M_output_40 : decode b_M_output 40 = .ok (.putfield 72, 3) := by decide +kernel
theorem d_M_output_43 : decode b_M_output 43 = .ok (.aload_n 0, 1) := by decide +kernel
theorem d_M_output_44 : decode b_M_output 44 = .ok (.getfield 72, 3) := by decide +kernel
theorem d_M_output_47 : decode b_M_output 47 = .ok (.ifCond .eq 7, 3) := by decide +kernel
theorem d_M_output_50 : decode b_M_output 50 = .ok (.lconst 0, 1) := by decide +kernel
theorem d_M_output_51 : decode b_M_output 51 = .ok (.goto 9, 3) := by decide +kernel
theorem d_M_output_54 : decode b_M_output 54 = .ok (.aload_n 0, 1) := by decide +kernel
theorem d_M_output_55 : decode b_M_output 55 = .ok (.iload_n 1, 1) := by decide +kernel
theorem d_M_output_56 : decode b_M_output 56 = .ok (.iload_n 2, 1) := by decide +kernel
theorem d_M_output_57 : decode b_M_output 57 = .ok (.invokevirtual 101, 3) := by decide +kernel
theorem d_M_output_60 : decode b_M_output 60 = .ok (.lreturn, 1) := by decide +kernel
theorem d_M_records_0 : decode b_M_records 0 = .ok (.aload_n 0, 1) := by decide +kernel
theorem d_M_records_1 : decode b_M_records 1 = .ok (.iconst 0, 1) := by decide +kernel
theorem d_M_records_2 : decode b_M_records 2 = .ok (.putfield 72, 3) := by decide +kernel
theorem d_M_records_5 : decode b_M_records 5 = .ok (.aload_n 0, 1) := by decide +kernel
theorem d_M_records_6 : decode b_M_records 6 = .ok (.iload_n 1, 1) := by decide +kernel
theorem d_M_records_7 : decode b_M_records 7 = .ok (.invokevirtual 86, 3) := by decide +kernel
theorem d_M_records_10 : decode b_M_records 10 = .ok (.ifCond .eq 12, 3) := by decide +kernel
theorem d_M_records_13 : decode b_M_records 13 = .ok (.aload_n 0, 1) := by decide +kernel
theorem d_M_records_14 : decode b_M_records 14 = .ok (.getfield 39, 3) := by decide +kernel
theorem d_M_records_17 : decode b_M_records 17 = .ok (.iload_n 1, 1) := by decide +kernel
theorem d_M_records_18 : decode b_M_records 18 = .ok (.iaload, 1) := by decide +kernel
theorem d_M_records_19 : decode b_M_records 19 = .ok (.goto 4, 3) := by decide +kernel
theorem d_M_records_22 : decode b_M_records 22 = .ok (.iconst 0, 1) := by decide +kernel
theorem d_M_records_23 : decode b_M_records 23 = .ok (.ireturn, 1) := by decide +kernel
theorem d_M_record_0 : decode b_M_record 0 = .ok (.aload_n 0, 1) := by decide +kernel
theorem d_M_record_1 : decode b_M_record 1 = .ok (.iconst 0, 1) := by decide +kernel
theorem d_M_record_2 : decode b_M_record 2 = .ok (.putfield 72, 3) := by decide +kernel
theorem d_M_record_5 : decode b_M_record 5 = .ok (.aload_n 0, 1) := by decide +kernel
theorem d_M_record_6 : decode b_M_record 6 = .ok (.iload_n 1, 1) := by decide +kernel
theorem d_M_record_7 : decode b_M_record 7 = .ok (.invokevirtual 86, 3) := by decide +kernel
theorem d_M_record_10 : decode b_M_record 10 = .ok (.ifCond .eq 31, 3) := by decide +kernel
theorem d_M_record_13 : decode b_M_record 13 = .ok (.iload_n 2, 1) := by decide +kernel
theorem d_M_record_14 : decode b_M_record 14 = .ok (.ifCond .lt 27, 3) := by decide +kernel
theorem d_M_record_17 : decode b_M_record 17 = .ok (.iload_n 2, 1) := by decide +kernel
theorem d_M_record_18 : decode b_M_record 18 = .ok (.aload_n 0, 1) := by decide +kernel
theorem d_M_record_19 : decode b_M_record 19 = .ok (.getfield 39, 3) := by decide +kernel
theorem d_M_record_22 : decode b_M_record 22 = .ok (.iload_n 1, 1) := by decide +kernel
theorem d_M_record_23 : decode b_M_record 23 = .ok (.iaload, 1) := by decide +kernel
theorem d_M_record_24 : decode b_M_record 24 = .ok (.if_icmp .ge 17, 3) := by decide +kernel
theorem d_M_record_27 : decode b_M_record 27 = .ok (.iload_n 3, 1) := by decide +kernel
theorem d_M_record_28 : decode b_M_record 28 = .ok (.ifCond .lt 13, 3) := by decide +kernel
theorem d_M_record_31 : decode b_M_record 31 = .ok (.iload_n 3, 1) := by decide +kernel
theorem d_M_record_32 : decode b_M_record 32 = .ok (.aload_n 0, 1) := by decide +kernel
theorem d_M_record_33 : decode b_M_record 33 = .ok (.getfield 30, 3) := by decide +kernel
theorem d_M_record_36 : decode b_M_record 36 = .ok (.iload_n 1, 1) := by decide +kernel
theorem d_M_record_37 : decode b_M_record 37 = .ok (.iaload, 1) := by decide +kernel
theorem d_M_record_38 : decode b_M_record 38 = .ok (.if_icmp .lt 7, 3) := by decide +kernel
theorem d_M_record_41 : decode b_M_record 41 = .ok (.lconst 0, 1) := by decide +kernel
theorem d_M_record_42 : decode b_M_record 42 = .ok (.goto 18, 3) := by decide +kernel
theorem d_M_record_45 : decode b_M_record 45 = .ok (.aload_n 0, 1) := by decide +kernel
theorem d_M_record_46 : decode b_M_record 46 = .ok (.getfield 48, 3) := by decide +kernel
theorem d_M_record_49 : decode b_M_record 49 = .ok (.bipush 6, 2) := by decide +kernel
theorem d_M_record_51 : decode b_M_record 51 = .ok (.iload_n 1, 1) := by decide +kernel
theorem d_M_record_52 : decode b_M_record 52 = .ok (.iload_n 2, 1) := by decide +kernel
theorem d_M_record_53 : decode b_M_record 53 = .ok (.invokestatic 93, 3) := by decide +kernel
theorem d_M_record_56 : decode b_M_record 56 = .ok (.imul, 1) := by decide +kernel
theorem d_M_record_57 : decode b_M_record 57 = .ok (.iload_n 3, 1) := by decide +kernel
theorem d_M_record_58 : decode b_M_record 58 = .ok (.iadd, 1) := by decide +kernel
theorem d_M_record_59 : decode b_M_record 59 = .ok (.laload, 1) := by decide +kernel
theorem d_M_record_60 : decode b_M_record 60 = .ok (.lreturn, 1) := by decide +kernel
theorem d_M_failed_0 : decode b_M_failed 0 = .ok (.aload_n 0, 1) := by decide +kernel
theorem d_M_failed_1 : decode b_M_failed 1 = .ok (.iconst 0, 1) := by decide +kernel
theorem d_M_failed_2 : decode b_M_failed 2 = .ok (.putfield 72, 3) := by decide +kernel
theorem d_M_failed_5 : decode b_M_failed 5 = .ok (.aload_n 0, 1) := by decide +kernel
theorem d_M_failed_6 : decode b_M_failed 6 = .ok (.iload_n 1, 1) := by decide +kernel
theorem d_M_failed_7 : decode b_M_failed 7 = .ok (.invokevirtual 86, 3) := by decide +kernel
theorem d_M_failed_10 : decode b_M_failed 10 = .ok (.ifCond .eq 17, 3) := by decide +kernel
theorem d_M_failed_13 : decode b_M_failed 13 = .ok (.iload_n 2, 1) := by decide +kernel
theorem d_M_failed_14 : decode b_M_failed 14 = .ok (.ifCond .lt 13, 3) := by decide +kernel
theorem d_M_failed_17 : decode b_M_failed 17 = .ok (.iload_n 2, 1) := by decide +kernel
theorem d_M_failed_18 : decode b_M_failed 18 = .ok (.aload_n 0, 1) := by decide +kernel
theorem d_M_failed_19 : decode b_M_failed 19 = .ok (.getfield 39, 3) := by decide +kernel
theorem d_M_failed_22 : decode b_M_failed 22 = .ok (.iload_n 1, 1) := by decide +kernel
theorem d_M_failed_23 : decode b_M_failed 23 = .ok (.iaload, 1) := by decide +kernel
theorem d_M_failed_24 : decode b_M_failed 24 = .ok (.if_icmp .lt 7, 3) := by decide +kernel
theorem d_M_failed_27 : decode b_M_failed 27 = .ok (.iconst (-1), 1) := by decide +kernel
theorem d_M_failed_28 : decode b_M_failed 28 = .ok (.goto 13, 3) := by decide +kernel
theorem d_M_failed_31 : decode b_M_failed 31 = .ok (.aload_n 0, 1) := by decide +kernel
theorem d_M_failed_32 : decode b_M_failed 32 = .ok (.getfield 42, 3) := by decide +kernel
theorem d_M_failed_35 : decode b_M_failed 35 = .ok (.iload_n 1, 1) := by decide +kernel
theorem d_M_failed_36 : decode b_M_failed 36 = .ok (.iload_n 2, 1) := by decide +kernel
theorem d_M_failed_37 : decode b_M_failed 37 = .ok (.invokestatic 93, 3) := by decide +kernel
theorem d_M_failed_40 : decode b_M_failed 40 = .ok (.iaload, 1) := by decide +kernel
theorem d_M_failed_41 : decode b_M_failed 41 = .ok (.ireturn, 1) := by decide +kernel
theorem d_M_total_0 : decode b_M_total 0 = .ok (.aload_n 0, 1) := by decide +kernel
theorem d_M_total_1 : decode b_M_total 1 = .ok (.iconst 0, 1) := by decide +kernel
theorem d_M_total_2 : decode b_M_total 2 = .ok (.putfield 72, 3) := by decide +kernel
theorem d_M_total_5 : decode b_M_total 5 = .ok (.iload_n 1, 1) := by decide +kernel
theorem d_M_total_6 : decode b_M_total 6 = .ok (.ifCond .lt 8, 3) := by decide +kernel
theorem d_M_total_9 : decode b_M_total 9 = .ok (.iload_n 1, 1) := by decide +kernel
theorem d_M_total_10 : decode b_M_total 10 = .ok (.iconst 3, 1) := by decide +kernel
theorem d_M_total_11 : decode b_M_total 11 = .ok (.if_icmp .le 7, 3) := by decide +kernel
theorem d_M_total_14 : decode b_M_total 14 = .ok (.iconst (-1), 1) := by decide +kernel
theorem d_M_total_15 : decode b_M_total 15 = .ok (.goto 9, 3) := by decide +kernel
theorem d_M_total_18 : decode b_M_total 18 = .ok (.aload_n 0, 1) := by decide +kernel
theorem d_M_total_19 : decode b_M_total 19 = .ok (.getfield 63, 3) := by decide +kernel
theorem d_M_total_22 : decode b_M_total 22 = .ok (.iload_n 1, 1) := by decide +kernel
theorem d_M_total_23 : decode b_M_total 23 = .ok (.iaload, 1) := by decide +kernel
theorem d_M_total_24 : decode b_M_total 24 = .ok (.ireturn, 1) := by decide +kernel
theorem d_M_share_0 : decode b_M_share 0 = .ok (.aload_n 0, 1) := by decide +kernel
theorem d_M_share_1 : decode b_M_share 1 = .ok (.aload_n 0, 1) := by decide +kernel
theorem d_M_share_2 : decode b_M_share 2 = .ok (.getfield 149, 3) := by decide +kernel
theorem d_M_share_5 : decode b_M_share 5 = .ok (.ifCond .ne 7, 3) := by decide +kernel
theorem d_M_share_8 : decode b_M_share 8 = .ok (.iconst 1, 1) := by decide +kernel
theorem d_M_share_9 : decode b_M_share 9 = .ok (.goto 4, 3) := by decide +kernel
theorem d_M_share_12 : decode b_M_share 12 = .ok (.iconst 0, 1) := by decide +kernel
theorem d_M_share_13 : decode b_M_share 13 = .ok (.putfield 72, 3) := by decide +kernel
theorem d_M_share_16 : decode b_M_share 16 = .ok (.aload_n 0, 1) := by decide +kernel
theorem d_M_share_17 : decode b_M_share 17 = .ok (.getfield 149, 3) := by decide +kernel
theorem d_M_share_20 : decode b_M_share 20 = .ok (.ifCond .ne 7, 3) := by decide +kernel
theorem d_M_share_23 : decode b_M_share 23 = .ok (.iconst 0, 1) := by decide +kernel
theorem d_M_share_24 : decode b_M_share 24 = .ok (.goto 16, 3) := by decide +kernel
theorem d_M_share_27 : decode b_M_share 27 = .ok (.aload_n 0, 1) := by decide +kernel
theorem d_M_share_28 : decode b_M_share 28 = .ok (.getfield 133, 3) := by decide +kernel
theorem d_M_share_31 : decode b_M_share 31 = .ok (.sipush 1000, 3) := by decide +kernel
theorem d_M_share_34 : decode b_M_share 34 = .ok (.imul, 1) := by decide +kernel
theorem d_M_share_35 : decode b_M_share 35 = .ok (.aload_n 0, 1) := by decide +kernel
theorem d_M_share_36 : decode b_M_share 36 = .ok (.getfield 149, 3) := by decide +kernel
theorem d_M_share_39 : decode b_M_share 39 = .ok (.idiv, 1) := by decide +kernel
theorem d_M_share_40 : decode b_M_share 40 = .ok (.ireturn, 1) := by decide +kernel
end
section
/-! METHODS (by program): GC1 -/
section GC1
variable {E : gE} {base bA : Nat} {p : Program} {l : Launch} {e : Env} {s : State} {m : MethodId} {args : Array Value} {below : List Frame} {meth : Method} {c : Code} {L : gL}
def rm_N_init : Room := { frames := 1, cells := 2, slots := 12, locals := 20 }
def D_N_init (h0 : Nat) (L : gL) (V : gV) : Option (Unit × gL × gV) :=
  g_bn (g_new L V 102 6 (fun _ => tI 0)) fun L1 V2 =>
    Option.bind (g_wr L1 V2 0 h0 0 (tR (some L.1))) fun V3 =>
    g_bn (g_new L1 V3 101 6 (fun _ => tJ 0)) fun L4 V5 =>
    Option.bind (g_wr L4 V5 0 h0 1 (tR (some L1.1))) fun V6 =>
    Option.bind (g_wr L4 V6 0 h0 2 (tI (-1 : Int32))) fun V7 =>
    Option.bind (g_wr L4 V7 0 h0 3 (tJ (0 : Int64))) fun V8 =>
    Option.bind (g_wr L4 V8 0 h0 4 (tJ (0 : Int64))) fun V9 =>
    some ((), L4, V9)
set_option maxHeartbeats 4000000 in
set_option maxRecDepth 100000 in
theorem t_N_init_0 (C : gC E base p s m args meth c b_N_init R_N 1) (hr : meth.sig.returnType = none) (hn : meth.name = "<init>") {z : Unit × gL × gV} (h0 : Nat) (V : gV) (h : D_N_init h0 L V = some z) : vW E base base 1 p l e rm_N_init s m args below meth c 0 0 (g_MQ E base base below args s 2 12 z.2.1 z.2.2 none) L V 0 [(0, tR (some h0))] [] := by
  unfold D_N_init at h
  refine r_aload_n (x := (some h0)) C d_N_init_0 rfl rfl ?_
  refine r_objInit C w_0 w_1 w_2 d_N_init_1 (Nat.le_of_ble_eq_true rfl) (Nat.le_of_ble_eq_true rfl) ?_
  refine r_aload_n (x := (some h0)) C d_N_init_4 rfl rfl ?_
  refine r_bipush C (6 : Int32) d_N_init_5 (by decide) ?_
  replace h := g_obn h; obtain ⟨L1, V2, e_L1, h⟩ := h
  refine r_newa (at_ := .boolean) (ty := .boolean) C rfl ak_102 (fun _ q => by cases q) w_3 d_N_init_7 (by decide) (by decide) (by decide) rfl e_L1 (Nat.le_of_ble_eq_true rfl) (Nat.le_of_ble_eq_true rfl) ?_
  replace h := g_ob h; obtain ⟨V3, e_V3, h⟩ := h
  refine r_putF C f_N_9 d_N_init_9 hn ⟨_, rfl, rfl⟩ e_V3 (g_nA (some L.1)).1 (g_nA (some L.1)).2 ?_
  refine r_aload_n (x := (some h0)) C d_N_init_12 rfl rfl ?_
  refine r_bipush C (6 : Int32) d_N_init_13 (by decide) ?_
  replace h := g_obn h; obtain ⟨L4, V5, e_L4, h⟩ := h
  refine r_newa (at_ := .long) (ty := .long) C rfl ak_101 (fun _ q => by cases q) w_5 d_N_init_15 (by decide) (by decide) (by decide) rfl e_L4 (Nat.le_of_ble_eq_true rfl) (Nat.le_of_ble_eq_true rfl) ?_
  replace h := g_ob h; obtain ⟨V6, e_V6, h⟩ := h
  refine r_putF C f_N_15 d_N_init_17 hn ⟨_, rfl, rfl⟩ e_V6 (g_nA (some L1.1)).1 (g_nA (some L1.1)).2 ?_
  refine r_aload_n (x := (some h0)) C d_N_init_20 rfl rfl ?_
  refine r_iconst C (-1 : Int32) d_N_init_21 (by decide) ?_
  replace h := g_ob h; obtain ⟨V7, e_V7, h⟩ := h
  refine r_put C f_N_19 d_N_init_22 e_V7 (g_nI (-1 : Int32)).1 (g_nI (-1 : Int32)).2 ?_
  refine r_aload_n (x := (some h0)) C d_N_init_25 rfl rfl ?_
  refine r_lconst C (0 : Int64) d_N_init_26 (by decide) ?_
  replace h := g_ob h; obtain ⟨V8, e_V8, h⟩ := h
  refine r_put C f_N_23 d_N_init_27 e_V8 (g_nJ (0 : Int64)).1 (g_nJ (0 : Int64)).2 ?_
  refine r_aload_n (x := (some h0)) C d_N_init_30 rfl rfl ?_
  refine r_lconst C (0 : Int64) d_N_init_31 (by decide) ?_
  replace h := g_ob h; obtain ⟨V9, e_V9, h⟩ := h
  refine r_put C f_N_27 d_N_init_32 e_V9 (g_nJ (0 : Int64)).1 (g_nJ (0 : Int64)).2 ?_
  cases h
  refine r_wid (k := 2) (n := 12) (Nat.le_of_ble_eq_true rfl) (Nat.le_of_ble_eq_true rfl) ?_
  exact r_vret C hr d_N_init_35
theorem c_N_init (l : Launch) (E : gE) (base : Nat) (h0 : Nat) (L : gL) (V : gV) {z : Unit × gL × gV} (h : D_N_init h0 L V = some z) : g_Met l E base base y_N_init b_N_init 1 none rm_N_init [tR (some h0)] L V none z.2.1 z.2.2 :=
  r_enter R_N (by decide) rfl [tR (some h0)] [(0, tR (some h0))] rfl (Nat.le_of_ble_eq_true rfl) (fun p e s m args below meth c C hr hnm => t_N_init_0 C hr hnm h0 V h)
def rm_N_hasFailed : Room := { frames := 0, cells := 0, slots := 0, locals := 0 }
def D_N_hasFailed (h0 : Nat) (L : gL) (V : gV) : Option (Int32 × gV) :=
  Option.bind (g_rI L V 0 h0 2) fun x1 =>
    (if x1 = (-1 : Int32) then
    some ((0 : Int32), V)
  else
    some ((1 : Int32), V))
set_option maxHeartbeats 4000000 in
set_option maxRecDepth 100000 in
theorem t_N_hasFailed_0 (C : gC E bA p s m args meth c b_N_hasFailed R_N 1) (hr : meth.sig.returnType = (some .boolean)) {z : Int32 × gV} (h0 : Nat) (V : gV) (h : D_N_hasFailed h0 L V = some z) : vW E base bA 1 p l e rm_N_hasFailed s m args below meth c 0 0 (g_MQ E base bA below args s 0 0 L z.2 (some (tI z.1))) L V 0 [(0, tR (some h0))] [] := by
  unfold D_N_hasFailed at h
  refine r_aload_n (x := (some h0)) C d_N_hasFailed_0 rfl rfl ?_
  replace h := g_ob h; obtain ⟨x1, e_x1, h⟩ := h
  refine r_getI C f_N_19 d_N_hasFailed_1 e_x1 ?_
  refine r_iconst C (-1 : Int32) d_N_hasFailed_4 (by decide) ?_
  refine r_icmp_eq C 12 d_N_hasFailed_5 (by decide) (fun c2 => ?_) (fun c2 => ?_)
  · rw [if_pos c2] at h
    refine r_iconst C (0 : Int32) d_N_hasFailed_12 (by decide) ?_
    cases h
    exact r_zret C hr d_N_hasFailed_13 (Or.inl rfl)
  · rw [if_neg c2] at h
    refine r_iconst C (1 : Int32) d_N_hasFailed_8 (by decide) ?_
    refine r_goto C 13 d_N_hasFailed_9 (by decide) ?_
    cases h
    exact r_zret C hr d_N_hasFailed_13 (Or.inr rfl)
theorem c_N_hasFailed (l : Launch) (E : gE) (base bA : Nat) (h0 : Nat) (L : gL) (V : gV) {z : Int32 × gV} (h : D_N_hasFailed h0 L V = some z) : g_Met l E base bA y_N_hasFailed b_N_hasFailed 1 (some .boolean) rm_N_hasFailed [tR (some h0)] L V (some (tI z.1)) L z.2 :=
  r_enter R_N (by decide) rfl [tR (some h0)] [(0, tR (some h0))] rfl (Nat.le_of_ble_eq_true rfl) (fun p e s m args below meth c C hr hnm => t_N_hasFailed_0 C hr h0 V h)
def rm_N_partOfOutput : Room := { frames := 0, cells := 0, slots := 0, locals := 0 }
def D_N_partOfOutput (h0 : Nat) (p1 : Int32) (L : gL) (V : gV) : Option (Int64 × gV) :=
  (if p1 = 0 then
    Option.bind (g_rJ L V 0 h0 3) fun x2 =>
    some (x2, V)
  else
    Option.bind (g_rJ L V 0 h0 4) fun x1 =>
    some (x1, V))
set_option maxHeartbeats 4000000 in
set_option maxRecDepth 100000 in
theorem t_N_partOfOutput_0 (C : gC E bA p s m args meth c b_N_partOfOutput R_N 2) (hr : meth.sig.returnType = (some .long)) {z : Int64 × gV} (h0 : Nat) (p1 : Int32) (V : gV) (h : D_N_partOfOutput h0 p1 L V = some z) : vW E base bA 2 p l e rm_N_partOfOutput s m args below meth c 0 0 (g_MQ E base bA below args s 0 0 L z.2 (some (tJ z.1))) L V 0 [(0, tR (some h0)), (1, tI p1)] [] := by
  unfold D_N_partOfOutput at h
  refine r_iload_n (x := p1) C d_N_partOfOutput_0 rfl rfl ?_
  refine r_if_ne C 11 d_N_partOfOutput_1 (by decide) (fun c3 => ?_) (fun c3 => ?_)
  · rw [if_neg c3] at h
    refine r_aload_n (x := (some h0)) C d_N_partOfOutput_11 rfl rfl ?_
    replace h := g_ob h; obtain ⟨x1, e_x1, h⟩ := h
    refine r_getJ C f_N_27 d_N_partOfOutput_12 e_x1 ?_
    cases h
    exact r_lret C hr d_N_partOfOutput_15
  · rw [if_pos c3] at h
    refine r_aload_n (x := (some h0)) C d_N_partOfOutput_4 rfl rfl ?_
    replace h := g_ob h; obtain ⟨x2, e_x2, h⟩ := h
    refine r_getJ C f_N_23 d_N_partOfOutput_5 e_x2 ?_
    refine r_goto C 15 d_N_partOfOutput_8 (by decide) ?_
    cases h
    exact r_lret C hr d_N_partOfOutput_15
theorem c_N_partOfOutput (l : Launch) (E : gE) (base bA : Nat) (h0 : Nat) (p1 : Int32) (L : gL) (V : gV) {z : Int64 × gV} (h : D_N_partOfOutput h0 p1 L V = some z) : g_Met l E base bA y_N_partOfOutput b_N_partOfOutput 2 (some .long) rm_N_partOfOutput [tR (some h0), tI p1] L V (some (tJ z.1)) L z.2 :=
  r_enter R_N (by decide) rfl [tR (some h0), tI p1] [(0, tR (some h0)), (1, tI p1)] rfl (Nat.le_of_ble_eq_true rfl) (fun p e s m args below meth c C hr hnm => t_N_partOfOutput_0 C hr h0 p1 V h)
def rm_N_differsAt : Room := { frames := 0, cells := 0, slots := 0, locals := 0 }
def D_N_differsAt_21 (L : gL)  (V : gV) : Option (Int32 × gV) :=
  some ((1 : Int32), V)
def D_N_differsAt (h0 : Nat) (p1 : Int32) (p2 : Int32) (p3 : Int64) (L : gL) (V : gV) : Option (Int32 × gV) :=
  Option.bind (g_rR L V 0 h0 0) fun x1 =>
    Option.bind x1 fun a2 =>
    Option.bind (g_aI L V 102 a2 p1) fun x3 =>
    (if x3 = p2 then
    Option.bind (g_rR L V 0 h0 1) fun x4 =>
    Option.bind x4 fun a5 =>
    Option.bind (g_aJ L V 101 a5 p1) fun x6 =>
    (if (lg_cmp x6 p3) = 0 then
    some ((0 : Int32), V)
  else
    D_N_differsAt_21 L   V)
  else
    D_N_differsAt_21 L   V)
set_option maxHeartbeats 4000000 in
set_option maxRecDepth 100000 in
theorem t_N_differsAt_21 (C : gC E bA p s m args meth c b_N_differsAt R_N 5) (hr : meth.sig.returnType = (some .boolean)) {z : Int32 × gV}  (V : gV) (h : D_N_differsAt_21 L   V = some z) : vW E base bA 5 p l e rm_N_differsAt s m args below meth c 0 0 (g_MQ E base bA below args s 0 0 L z.2 (some (tI z.1))) L V 21 [] [] := by
  unfold D_N_differsAt_21 at h
  refine r_iconst C (1 : Int32) d_N_differsAt_21 (by decide) ?_
  refine r_goto C 26 d_N_differsAt_22 (by decide) ?_
  cases h
  exact r_zret C hr d_N_differsAt_26 (Or.inr rfl)
set_option maxHeartbeats 4000000 in
set_option maxRecDepth 100000 in
theorem t_N_differsAt_0 (C : gC E bA p s m args meth c b_N_differsAt R_N 5) (hr : meth.sig.returnType = (some .boolean)) {z : Int32 × gV} (h0 : Nat) (p1 : Int32) (p2 : Int32) (p3 : Int64) (V : gV) (h : D_N_differsAt h0 p1 p2 p3 L V = some z) : vW E base bA 5 p l e rm_N_differsAt s m args below meth c 0 0 (g_MQ E base bA below args s 0 0 L z.2 (some (tI z.1))) L V 0 [(0, tR (some h0)), (1, tI p1), (2, tI p2), (3, tJ p3)] [] := by
  unfold D_N_differsAt at h
  refine r_aload_n (x := (some h0)) C d_N_differsAt_0 rfl rfl ?_
  replace h := g_ob h; obtain ⟨x1, e_x1, h⟩ := h
  refine r_getR C f_N_9 d_N_differsAt_1 e_x1 ?_
  refine r_iload_n (x := p1) C d_N_differsAt_4 rfl rfl ?_
  replace h := g_ob h; obtain ⟨a2, rfl, h⟩ := h
  replace h := g_ob h; obtain ⟨x3, e_x3, h⟩ := h
  refine r_zald C ak_102 d_N_differsAt_5 e_x3 ?_
  refine r_iload_n (x := p2) C d_N_differsAt_6 rfl rfl ?_
  refine r_icmp_ne C 21 d_N_differsAt_7 (by decide) (fun c8 => ?_) (fun c8 => ?_)
  · rw [if_neg c8] at h
    refine r_lv [] rfl ?_
    exact t_N_differsAt_21 C hr   V h
  · rw [if_pos c8] at h
    refine r_aload_n (x := (some h0)) C d_N_differsAt_10 rfl rfl ?_
    replace h := g_ob h; obtain ⟨x4, e_x4, h⟩ := h
    refine r_getR C f_N_15 d_N_differsAt_11 e_x4 ?_
    refine r_iload_n (x := p1) C d_N_differsAt_14 rfl rfl ?_
    replace h := g_ob h; obtain ⟨a5, rfl, h⟩ := h
    replace h := g_ob h; obtain ⟨x6, e_x6, h⟩ := h
    refine r_lald C ak_101 d_N_differsAt_15 e_x6 ?_
    refine r_lload_n (x := p3) C d_N_differsAt_16 rfl rfl ?_
    refine r_lcmp C d_N_differsAt_17 ?_
    refine r_if_eq C 25 d_N_differsAt_18 (by decide) (fun c7 => ?_) (fun c7 => ?_)
    · rw [if_pos c7] at h
      refine r_iconst C (0 : Int32) d_N_differsAt_25 (by decide) ?_
      cases h
      exact r_zret C hr d_N_differsAt_26 (Or.inl rfl)
    · rw [if_neg c7] at h
      refine r_lv [] rfl ?_
      exact t_N_differsAt_21 C hr   V h
theorem c_N_differsAt (l : Launch) (E : gE) (base bA : Nat) (h0 : Nat) (p1 : Int32) (p2 : Int32) (p3 : Int64) (L : gL) (V : gV) {z : Int32 × gV} (h : D_N_differsAt h0 p1 p2 p3 L V = some z) : g_Met l E base bA y_N_differsAt b_N_differsAt 5 (some .boolean) rm_N_differsAt [tR (some h0), tI p1, tI p2, tJ p3] L V (some (tI z.1)) L z.2 :=
  r_enter R_N (by decide) rfl [tR (some h0), tI p1, tI p2, tJ p3] [(0, tR (some h0)), (1, tI p1), (2, tI p2), (3, tJ p3)] rfl (Nat.le_of_ble_eq_true rfl) (fun p e s m args below meth c C hr hnm => t_N_differsAt_0 C hr h0 p1 p2 p3 V h)
def rm_N_firstDifference : Room := { frames := 1, cells := 0, slots := 0, locals := 24 }
def D_N_firstDifference_2 (L : gL) : Nat → Nat → Nat → Int32 → Int32 → gV → Option (Int32 × gV)
  | 0, _, _, _, _, _ => none
  | n + 1, v0, v1, v2, v3, V =>
  (if v2 ≤ v3 then
    some ((-1 : Int32), V)
  else
    Option.bind (g_rR L V 0 v1 0) fun x1 =>
    Option.bind x1 fun a2 =>
    Option.bind (g_aI L V 102 a2 v3) fun x3 =>
    Option.bind (g_rR L V 0 v1 1) fun x4 =>
    Option.bind x4 fun a5 =>
    Option.bind (g_aJ L V 101 a5 v3) fun x6 =>
    Option.bind ((L).2 0 v0) fun n10 =>
    g_b2 (D_N_differsAt v0 v3 x3 x6 L V) fun r7 V8 =>
    (if r7 = 0 then
    D_N_firstDifference_2 L  n v0 v1 v2 (v3 + (1 : Int32)) V8
  else
    some (v3, V8)))
def D_N_firstDifference (h0 : Nat) (p1 : Nat) (p2 : Int32) (L : gL) (V : gV) : Option (Int32 × gV) :=
  D_N_firstDifference_2 L  1000 h0 p1 p2 (0 : Int32) V
set_option maxHeartbeats 4000000 in
set_option maxRecDepth 100000 in
theorem t_N_firstDifference_2 (C : gC E bA p s m args meth c b_N_firstDifference R_N 4) (hr : meth.sig.returnType = (some .int)) {z : Int32 × gV} : ∀ (n : Nat) (v0 : Nat) (v1 : Nat) (v2 : Int32) (v3 : Int32) (V : gV), D_N_firstDifference_2 L  n v0 v1 v2 v3 V = some z → vW E base bA 4 p l e rm_N_firstDifference s m args below meth c 0 0 (g_MQ E base bA below args s 0 0 L z.2 (some (tI z.1))) L V 2 [(0, tR (some v0)), (1, tR (some v1)), (2, tI v2), (3, tI v3)] [] := by
  intro n
  induction n with
  | zero =>
    intro v0 v1 v2 v3 V h
    rw [D_N_firstDifference_2] at h
    cases h
  | succ n ih =>
    intro v0 v1 v2 v3 V h
    rw [D_N_firstDifference_2] at h
    refine r_iload_n (x := v3) C d_N_firstDifference_2 rfl rfl ?_
    refine r_iload_n (x := v2) C d_N_firstDifference_3 rfl rfl ?_
    refine r_icmp_ge C 35 d_N_firstDifference_4 (by decide) (fun c11 => ?_) (fun c11 => ?_)
    · rw [if_pos c11] at h
      refine r_iconst C (-1 : Int32) d_N_firstDifference_35 (by decide) ?_
      cases h
      exact r_iret C hr d_N_firstDifference_36
    · rw [if_neg c11] at h
      refine r_aload_n (x := (some v0)) C d_N_firstDifference_7 rfl rfl ?_
      refine r_iload_n (x := v3) C d_N_firstDifference_8 rfl rfl ?_
      refine r_aload_n (x := (some v1)) C d_N_firstDifference_9 rfl rfl ?_
      replace h := g_ob h; obtain ⟨x1, e_x1, h⟩ := h
      refine r_getR C f_N_9 d_N_firstDifference_10 e_x1 ?_
      refine r_iload_n (x := v3) C d_N_firstDifference_13 rfl rfl ?_
      replace h := g_ob h; obtain ⟨a2, rfl, h⟩ := h
      replace h := g_ob h; obtain ⟨x3, e_x3, h⟩ := h
      refine r_zald C ak_102 d_N_firstDifference_14 e_x3 ?_
      refine r_aload_n (x := (some v1)) C d_N_firstDifference_15 rfl rfl ?_
      replace h := g_ob h; obtain ⟨x4, e_x4, h⟩ := h
      refine r_getR C f_N_15 d_N_firstDifference_16 e_x4 ?_
      refine r_iload_n (x := v3) C d_N_firstDifference_19 rfl rfl ?_
      replace h := g_ob h; obtain ⟨a5, rfl, h⟩ := h
      replace h := g_ob h; obtain ⟨x6, e_x6, h⟩ := h
      refine r_lald C ak_101 d_N_firstDifference_20 e_x6 ?_
      replace h := g_ob h; obtain ⟨n10, e_n10, h⟩ := h
      replace h := g_o2 h; obtain ⟨r7, V8, e_r7, h⟩ := h
      refine r_callV (As := [tI v3, tI x3, tJ x6]) C k_N_30 w_13 w_14 w_10 ⟨_, _, rfl⟩ (c_N_differsAt l E base bA v0 v3 x3 x6 L V e_r7) d_N_firstDifference_21 e_n10 rfl ⟨Nat.le_of_ble_eq_true rfl, Nat.le_of_ble_eq_true rfl⟩ (Nat.le_of_ble_eq_true rfl) (Nat.le_of_ble_eq_true rfl) (Nat.le_of_ble_eq_true rfl) rfl ?_
      refine r_if_eq C 29 d_N_firstDifference_24 (by decide) (fun c9 => ?_) (fun c9 => ?_)
      · rw [if_pos c9] at h
        refine r_iinc (x := v3) (v := v3 + (1 : Int32)) (lv' := [(3, tI (v3 + (1 : Int32))), (0, tR (some v0)), (1, tR (some v1)), (2, tI v2)]) C d_N_firstDifference_29 rfl rfl (by decide) rfl ?_
        refine r_goto C 2 d_N_firstDifference_32 (by decide) ?_
        refine r_lv [1, 2, 3, 0] rfl ?_
        exact ih v0 v1 v2 (v3 + (1 : Int32)) V8 h
      · rw [if_neg c9] at h
        refine r_iload_n (x := v3) C d_N_firstDifference_27 rfl rfl ?_
        cases h
        exact r_iret C hr d_N_firstDifference_28
set_option maxHeartbeats 4000000 in
set_option maxRecDepth 100000 in
theorem t_N_firstDifference_0 (C : gC E bA p s m args meth c b_N_firstDifference R_N 4) (hr : meth.sig.returnType = (some .int)) {z : Int32 × gV} (h0 : Nat) (p1 : Nat) (p2 : Int32) (V : gV) (h : D_N_firstDifference h0 p1 p2 L V = some z) : vW E base bA 4 p l e rm_N_firstDifference s m args below meth c 0 0 (g_MQ E base bA below args s 0 0 L z.2 (some (tI z.1))) L V 0 [(0, tR (some h0)), (1, tR (some p1)), (2, tI p2)] [] := by
  unfold D_N_firstDifference at h
  refine r_iconst C (0 : Int32) d_N_firstDifference_0 (by decide) ?_
  refine r_istore_n (lv' := [(3, tI (0 : Int32)), (0, tR (some h0)), (1, tR (some p1)), (2, tI p2)]) C d_N_firstDifference_1 rfl (by decide) rfl ?_
  refine r_lv [1, 2, 3, 0] rfl ?_
  exact t_N_firstDifference_2 C hr  1000 h0 p1 p2 (0 : Int32) V h
theorem c_N_firstDifference (l : Launch) (E : gE) (base bA : Nat) (h0 : Nat) (p1 : Nat) (p2 : Int32) (L : gL) (V : gV) {z : Int32 × gV} (h : D_N_firstDifference h0 p1 p2 L V = some z) : g_Met l E base bA y_N_firstDifference b_N_firstDifference 4 (some .int) rm_N_firstDifference [tR (some h0), tR (some p1), tI p2] L V (some (tI z.1)) L z.2 :=
  r_enter R_N (by decide) rfl [tR (some h0), tR (some p1), tI p2] [(0, tR (some h0)), (1, tR (some p1)), (2, tI p2)] rfl (Nat.le_of_ble_eq_true rfl) (fun p e s m args below meth c C hr hnm => t_N_firstDifference_0 C hr h0 p1 p2 V h)
def rm_N_firstMissing : Room := { frames := 0, cells := 0, slots := 0, locals := 0 }
def D_N_firstMissing_2 (L : gL) : Nat → Nat → Int32 → Int32 → gV → Option (Int32 × gV)
  | 0, _, _, _, _ => none
  | n + 1, v0, v1, v2, V =>
  (if v1 ≤ v2 then
    some ((-1 : Int32), V)
  else
    Option.bind (g_rR L V 0 v0 0) fun x1 =>
    Option.bind x1 fun a2 =>
    Option.bind (g_aI L V 102 a2 v2) fun x3 =>
    (if x3 = 0 then
    some (v2, V)
  else
    D_N_firstMissing_2 L  n v0 v1 (v2 + (1 : Int32)) V))
def D_N_firstMissing (h0 : Nat) (p1 : Int32) (L : gL) (V : gV) : Option (Int32 × gV) :=
  D_N_firstMissing_2 L  1000 h0 p1 (0 : Int32) V
set_option maxHeartbeats 4000000 in
set_option maxRecDepth 100000 in
theorem t_N_firstMissing_2 (C : gC E bA p s m args meth c b_N_firstMissing R_N 3) (hr : meth.sig.returnType = (some .int)) {z : Int32 × gV} : ∀ (n : Nat) (v0 : Nat) (v1 : Int32) (v2 : Int32) (V : gV), D_N_firstMissing_2 L  n v0 v1 v2 V = some z → vW E base bA 3 p l e rm_N_firstMissing s m args below meth c 0 0 (g_MQ E base bA below args s 0 0 L z.2 (some (tI z.1))) L V 2 [(0, tR (some v0)), (1, tI v1), (2, tI v2)] [] := by
  intro n
  induction n with
  | zero =>
    intro v0 v1 v2 V h
    rw [D_N_firstMissing_2] at h
    cases h
  | succ n ih =>
    intro v0 v1 v2 V h
    rw [D_N_firstMissing_2] at h
    refine r_iload_n (x := v2) C d_N_firstMissing_2 rfl rfl ?_
    refine r_iload_n (x := v1) C d_N_firstMissing_3 rfl rfl ?_
    refine r_icmp_ge C 24 d_N_firstMissing_4 (by decide) (fun c5 => ?_) (fun c5 => ?_)
    · rw [if_pos c5] at h
      refine r_iconst C (-1 : Int32) d_N_firstMissing_24 (by decide) ?_
      cases h
      exact r_iret C hr d_N_firstMissing_25
    · rw [if_neg c5] at h
      refine r_aload_n (x := (some v0)) C d_N_firstMissing_7 rfl rfl ?_
      replace h := g_ob h; obtain ⟨x1, e_x1, h⟩ := h
      refine r_getR C f_N_9 d_N_firstMissing_8 e_x1 ?_
      refine r_iload_n (x := v2) C d_N_firstMissing_11 rfl rfl ?_
      replace h := g_ob h; obtain ⟨a2, rfl, h⟩ := h
      replace h := g_ob h; obtain ⟨x3, e_x3, h⟩ := h
      refine r_zald C ak_102 d_N_firstMissing_12 e_x3 ?_
      refine r_if_ne C 18 d_N_firstMissing_13 (by decide) (fun c4 => ?_) (fun c4 => ?_)
      · rw [if_neg c4] at h
        refine r_iinc (x := v2) (v := v2 + (1 : Int32)) (lv' := [(2, tI (v2 + (1 : Int32))), (0, tR (some v0)), (1, tI v1)]) C d_N_firstMissing_18 rfl rfl (by decide) rfl ?_
        refine r_goto C 2 d_N_firstMissing_21 (by decide) ?_
        refine r_lv [1, 2, 0] rfl ?_
        exact ih v0 v1 (v2 + (1 : Int32)) V h
      · rw [if_pos c4] at h
        refine r_iload_n (x := v2) C d_N_firstMissing_16 rfl rfl ?_
        cases h
        exact r_iret C hr d_N_firstMissing_17
set_option maxHeartbeats 4000000 in
set_option maxRecDepth 100000 in
theorem t_N_firstMissing_0 (C : gC E bA p s m args meth c b_N_firstMissing R_N 3) (hr : meth.sig.returnType = (some .int)) {z : Int32 × gV} (h0 : Nat) (p1 : Int32) (V : gV) (h : D_N_firstMissing h0 p1 L V = some z) : vW E base bA 3 p l e rm_N_firstMissing s m args below meth c 0 0 (g_MQ E base bA below args s 0 0 L z.2 (some (tI z.1))) L V 0 [(0, tR (some h0)), (1, tI p1)] [] := by
  unfold D_N_firstMissing at h
  refine r_iconst C (0 : Int32) d_N_firstMissing_0 (by decide) ?_
  refine r_istore_n (lv' := [(2, tI (0 : Int32)), (0, tR (some h0)), (1, tI p1)]) C d_N_firstMissing_1 rfl (by decide) rfl ?_
  refine r_lv [1, 2, 0] rfl ?_
  exact t_N_firstMissing_2 C hr  1000 h0 p1 (0 : Int32) V h
theorem c_N_firstMissing (l : Launch) (E : gE) (base bA : Nat) (h0 : Nat) (p1 : Int32) (L : gL) (V : gV) {z : Int32 × gV} (h : D_N_firstMissing h0 p1 L V = some z) : g_Met l E base bA y_N_firstMissing b_N_firstMissing 3 (some .int) rm_N_firstMissing [tR (some h0), tI p1] L V (some (tI z.1)) L z.2 :=
  r_enter R_N (by decide) rfl [tR (some h0), tI p1] [(0, tR (some h0)), (1, tI p1)] rfl (Nat.le_of_ble_eq_true rfl) (fun p e s m args below meth c C hr hnm => t_N_firstMissing_0 C hr h0 p1 V h)
def rm_S_init : Room := { frames := 1, cells := 0, slots := 0, locals := 20 }
def D_S_init (h0 : Nat) (p1 : Int64) (L : gL) (V : gV) : Option (Unit × gV) :=
  Option.bind (g_wr L V 1 h0 0 (tI (1 : Int32))) fun V1 =>
    Option.bind (g_wr L V1 1 h0 2 (tI (0 : Int32))) fun V2 =>
    Option.bind (g_wr L V2 1 h0 1 (tJ p1)) fun V3 =>
    some ((), V3)
set_option maxHeartbeats 4000000 in
set_option maxRecDepth 100000 in
theorem t_S_init_0 (C : gC E base p s m args meth c b_S_init R_S 3) (hr : meth.sig.returnType = none) (hn : meth.name = "<init>") {z : Unit × gV} (h0 : Nat) (p1 : Int64) (V : gV) (h : D_S_init h0 p1 L V = some z) : vW E base base 3 p l e rm_S_init s m args below meth c 0 0 (g_MQ E base base below args s 0 0 L z.2 none) L V 0 [(0, tR (some h0)), (1, tJ p1)] [] := by
  unfold D_S_init at h
  refine r_aload_n (x := (some h0)) C d_S_init_0 rfl rfl ?_
  refine r_objInit C w_15 w_1 w_2 d_S_init_1 (Nat.le_of_ble_eq_true rfl) (Nat.le_of_ble_eq_true rfl) ?_
  refine r_aload_n (x := (some h0)) C d_S_init_4 rfl rfl ?_
  refine r_iconst C (1 : Int32) d_S_init_5 (by decide) ?_
  replace h := g_ob h; obtain ⟨V1, e_V1, h⟩ := h
  refine r_put C f_S_7 d_S_init_6 e_V1 (g_nZ (x := (1 : Int32)) (Or.inr rfl)).1 (g_nZ (x := (1 : Int32)) (Or.inr rfl)).2 ?_
  refine r_aload_n (x := (some h0)) C d_S_init_9 rfl rfl ?_
  refine r_iconst C (0 : Int32) d_S_init_10 (by decide) ?_
  replace h := g_ob h; obtain ⟨V2, e_V2, h⟩ := h
  refine r_put C f_S_13 d_S_init_11 e_V2 (g_nI (0 : Int32)).1 (g_nI (0 : Int32)).2 ?_
  refine r_aload_n (x := (some h0)) C d_S_init_14 rfl rfl ?_
  refine r_lload_n (x := p1) C d_S_init_15 rfl rfl ?_
  replace h := g_ob h; obtain ⟨V3, e_V3, h⟩ := h
  refine r_put C f_S_17 d_S_init_16 e_V3 (g_nJ p1).1 (g_nJ p1).2 ?_
  cases h
  exact r_vret C hr d_S_init_19
theorem c_S_init (l : Launch) (E : gE) (base : Nat) (h0 : Nat) (p1 : Int64) (L : gL) (V : gV) {z : Unit × gV} (h : D_S_init h0 p1 L V = some z) : g_Met l E base base y_S_init b_S_init 3 none rm_S_init [tR (some h0), tJ p1] L V none L z.2 :=
  r_enter R_S (by decide) rfl [tR (some h0), tJ p1] [(0, tR (some h0)), (1, tJ p1)] rfl (Nat.le_of_ble_eq_true rfl) (fun p e s m args below meth c C hr hnm => t_S_init_0 C hr hnm h0 p1 V h)
def rm_T_init : Room := { frames := 2, cells := 14, slots := 78, locals := 40 }
def D_T_init (h0 : Nat) (p1 : Int64) (p3 : Int64) (L : gL) (V : gV) : Option (Unit × gL × gV) :=
  g_bn (g_new L V 100 6 (fun _ => tI 0)) fun L1 V2 =>
    Option.bind (g_wr L1 V2 2 h0 2 (tR (some L.1))) fun V3 =>
    Option.bind (g_wr L1 V3 2 h0 3 (tI (0 : Int32))) fun V4 =>
    g_bn (g_new L1 V4 105 4 (fun _ => tR none)) fun L5 V6 =>
    Option.bind (g_wr L5 V6 2 h0 4 (tR (some L1.1))) fun V7 =>
    Option.bind (g_wr L5 V7 2 h0 5 (tI (0 : Int32))) fun V8 =>
    Option.bind (g_wr L5 V8 2 h0 6 (tI (0 : Int32))) fun V9 =>
    Option.bind (g_wr L5 V9 2 h0 7 (tI (0 : Int32))) fun V10 =>
    Option.bind (g_wr L5 V10 2 h0 8 (tI (0 : Int32))) fun V11 =>
    Option.bind (g_wr L5 V11 2 h0 9 (tI (0 : Int32))) fun V12 =>
    Option.bind (g_wr L5 V12 2 h0 10 (tI (-1 : Int32))) fun V13 =>
    Option.bind (g_wr L5 V13 2 h0 0 (tJ p1)) fun V14 =>
    Option.bind (g_wr L5 V14 2 h0 1 (tJ p3)) fun V15 =>
    Option.bind (g_rR L5 V15 2 h0 4) fun x16 =>
    g_bn (g_new L5 V15 0 5 df_N) fun L17 V18 =>
    g_b3 (D_N_init L5.1 L17 V18) fun r19 L21 V20 =>
    Option.bind x16 fun a22 =>
    Option.bind ((L21).2 0 L5.1) fun n51 =>
    Option.bind (g_wa L21 V20 105 a22 (0 : Int32) (tR (some L5.1))) fun V23 =>
    Option.bind (g_rR L21 V23 2 h0 4) fun x24 =>
    g_bn (g_new L21 V23 0 5 df_N) fun L25 V26 =>
    g_b3 (D_N_init L21.1 L25 V26) fun r27 L29 V28 =>
    Option.bind x24 fun a30 =>
    Option.bind ((L29).2 0 L21.1) fun n50 =>
    Option.bind (g_wa L29 V28 105 a30 (1 : Int32) (tR (some L21.1))) fun V31 =>
    Option.bind (g_rR L29 V31 2 h0 4) fun x32 =>
    g_bn (g_new L29 V31 0 5 df_N) fun L33 V34 =>
    g_b3 (D_N_init L29.1 L33 V34) fun r35 L37 V36 =>
    Option.bind x32 fun a38 =>
    Option.bind ((L37).2 0 L29.1) fun n49 =>
    Option.bind (g_wa L37 V36 105 a38 (2 : Int32) (tR (some L29.1))) fun V39 =>
    Option.bind (g_rR L37 V39 2 h0 4) fun x40 =>
    g_bn (g_new L37 V39 0 5 df_N) fun L41 V42 =>
    g_b3 (D_N_init L37.1 L41 V42) fun r43 L45 V44 =>
    Option.bind x40 fun a46 =>
    Option.bind ((L45).2 0 L37.1) fun n48 =>
    Option.bind (g_wa L45 V44 105 a46 (3 : Int32) (tR (some L37.1))) fun V47 =>
    some ((), L45, V47)
set_option maxHeartbeats 4000000 in
set_option maxRecDepth 100000 in
theorem t_T_init_0 (C : gC E base p s m args meth c b_T_init R_T 6) (hr : meth.sig.returnType = none) (hn : meth.name = "<init>") {z : Unit × gL × gV} (h0 : Nat) (p1 : Int64) (p3 : Int64) (V : gV) (h : D_T_init h0 p1 p3 L V = some z) : vW E base base 6 p l e rm_T_init s m args below meth c 0 0 (g_MQ E base base below args s 14 78 z.2.1 z.2.2 none) L V 0 [(0, tR (some h0)), (1, tJ p1), (3, tJ p3)] [] := by
  unfold D_T_init at h
  refine r_aload_n (x := (some h0)) C d_T_init_0 rfl rfl ?_
  refine r_objInit C w_19 w_1 w_2 d_T_init_1 (Nat.le_of_ble_eq_true rfl) (Nat.le_of_ble_eq_true rfl) ?_
  refine r_aload_n (x := (some h0)) C d_T_init_4 rfl rfl ?_
  refine r_bipush C (6 : Int32) d_T_init_5 (by decide) ?_
  replace h := g_obn h; obtain ⟨L1, V2, e_L1, h⟩ := h
  refine r_newa (at_ := .int) (ty := .int) C rfl ak_100 (fun _ q => by cases q) w_20 d_T_init_7 (by decide) (by decide) (by decide) rfl e_L1 (Nat.le_of_ble_eq_true rfl) (Nat.le_of_ble_eq_true rfl) ?_
  replace h := g_ob h; obtain ⟨V3, e_V3, h⟩ := h
  refine r_putF C f_T_9 d_T_init_9 hn ⟨_, rfl, rfl⟩ e_V3 (g_nA (some L.1)).1 (g_nA (some L.1)).2 ?_
  refine r_aload_n (x := (some h0)) C d_T_init_12 rfl rfl ?_
  refine r_iconst C (0 : Int32) d_T_init_13 (by decide) ?_
  replace h := g_ob h; obtain ⟨V4, e_V4, h⟩ := h
  refine r_put C f_T_15 d_T_init_14 e_V4 (g_nI (0 : Int32)).1 (g_nI (0 : Int32)).2 ?_
  refine r_aload_n (x := (some h0)) C d_T_init_17 rfl rfl ?_
  refine r_iconst C (4 : Int32) d_T_init_18 (by decide) ?_
  replace h := g_obn h; obtain ⟨L5, V6, e_L5, h⟩ := h
  refine r_anew C ak_105 w_23 (by decide) d_T_init_19 (by decide) (by decide) (by decide) e_L5 (Nat.le_of_ble_eq_true rfl) (Nat.le_of_ble_eq_true rfl) ?_
  replace h := g_ob h; obtain ⟨V7, e_V7, h⟩ := h
  refine r_putF C f_T_21 d_T_init_22 hn ⟨_, rfl, rfl⟩ e_V7 (g_nA (some L1.1)).1 (g_nA (some L1.1)).2 ?_
  refine r_aload_n (x := (some h0)) C d_T_init_25 rfl rfl ?_
  refine r_iconst C (0 : Int32) d_T_init_26 (by decide) ?_
  replace h := g_ob h; obtain ⟨V8, e_V8, h⟩ := h
  refine r_put C f_T_25 d_T_init_27 e_V8 (g_nI (0 : Int32)).1 (g_nI (0 : Int32)).2 ?_
  refine r_aload_n (x := (some h0)) C d_T_init_30 rfl rfl ?_
  refine r_iconst C (0 : Int32) d_T_init_31 (by decide) ?_
  replace h := g_ob h; obtain ⟨V9, e_V9, h⟩ := h
  refine r_put C f_T_28 d_T_init_32 e_V9 (g_nZ (x := (0 : Int32)) (Or.inl rfl)).1 (g_nZ (x := (0 : Int32)) (Or.inl rfl)).2 ?_
  refine r_aload_n (x := (some h0)) C d_T_init_35 rfl rfl ?_
  refine r_iconst C (0 : Int32) d_T_init_36 (by decide) ?_
  replace h := g_ob h; obtain ⟨V10, e_V10, h⟩ := h
  refine r_put C f_T_32 d_T_init_37 e_V10 (g_nZ (x := (0 : Int32)) (Or.inl rfl)).1 (g_nZ (x := (0 : Int32)) (Or.inl rfl)).2 ?_
  refine r_aload_n (x := (some h0)) C d_T_init_40 rfl rfl ?_
  refine r_iconst C (0 : Int32) d_T_init_41 (by decide) ?_
  replace h := g_ob h; obtain ⟨V11, e_V11, h⟩ := h
  refine r_put C f_T_35 d_T_init_42 e_V11 (g_nZ (x := (0 : Int32)) (Or.inl rfl)).1 (g_nZ (x := (0 : Int32)) (Or.inl rfl)).2 ?_
  refine r_aload_n (x := (some h0)) C d_T_init_45 rfl rfl ?_
  refine r_iconst C (0 : Int32) d_T_init_46 (by decide) ?_
  replace h := g_ob h; obtain ⟨V12, e_V12, h⟩ := h
  refine r_put C f_T_38 d_T_init_47 e_V12 (g_nI (0 : Int32)).1 (g_nI (0 : Int32)).2 ?_
  refine r_aload_n (x := (some h0)) C d_T_init_50 rfl rfl ?_
  refine r_iconst C (-1 : Int32) d_T_init_51 (by decide) ?_
  replace h := g_ob h; obtain ⟨V13, e_V13, h⟩ := h
  refine r_put C f_T_41 d_T_init_52 e_V13 (g_nI (-1 : Int32)).1 (g_nI (-1 : Int32)).2 ?_
  refine r_aload_n (x := (some h0)) C d_T_init_55 rfl rfl ?_
  refine r_lload_n (x := p1) C d_T_init_56 rfl rfl ?_
  replace h := g_ob h; obtain ⟨V14, e_V14, h⟩ := h
  refine r_putF C f_T_44 d_T_init_57 hn ⟨_, rfl, rfl⟩ e_V14 (g_nJ p1).1 (g_nJ p1).2 ?_
  refine r_aload_n (x := (some h0)) C d_T_init_60 rfl rfl ?_
  refine r_lload_n (x := p3) C d_T_init_61 rfl rfl ?_
  replace h := g_ob h; obtain ⟨V15, e_V15, h⟩ := h
  refine r_putF C f_T_48 d_T_init_62 hn ⟨_, rfl, rfl⟩ e_V15 (g_nJ p3).1 (g_nJ p3).2 ?_
  refine r_iconst C (0 : Int32) d_T_init_65 (by decide) ?_
  refine r_istore (lv' := [(5, tI (0 : Int32)), (0, tR (some h0)), (1, tJ p1), (3, tJ p3)]) C d_T_init_66 (by decide) rfl ?_
  refine r_iload (x := (0 : Int32)) C d_T_init_68 rfl ?_
  refine r_iconst C (3 : Int32) d_T_init_70 (by decide) ?_
  refine r_icmp_gt C 94 d_T_init_71 (by decide) (fun q => absurd q (by decide)) (fun _ => ?_)
  refine r_aload_n (x := (some h0)) C d_T_init_74 rfl rfl ?_
  replace h := g_ob h; obtain ⟨x16, e_x16, h⟩ := h
  refine r_getR C f_T_21 d_T_init_75 e_x16 ?_
  refine r_iload (x := (0 : Int32)) C d_T_init_78 rfl ?_
  replace h := g_obn h; obtain ⟨L17, V18, e_L17, h⟩ := h
  refine r_new C n_T_19 d_T_init_80 e_L17 (Nat.le_of_ble_eq_true rfl) (Nat.le_of_ble_eq_true rfl) ?_
  refine r_dup C d_T_init_83 rfl ?_
  replace h := g_o3 h; obtain ⟨r19, L21, V20, e_r19, h⟩ := h
  refine r_callIN (As := []) C rfl w_12 (by decide +kernel) rfl w_35 w_34 (c_N_init l E base L5.1 L17 V18 e_r19) d_T_init_84 rfl ⟨Nat.le_of_ble_eq_true rfl, Nat.le_of_ble_eq_true rfl⟩ (Nat.le_of_ble_eq_true rfl) (Nat.le_of_ble_eq_true rfl) (Nat.le_of_ble_eq_true rfl) rfl ?_
  replace h := g_ob h; obtain ⟨a22, rfl, h⟩ := h
  replace h := g_ob h; obtain ⟨n51, e_n51, h⟩ := h
  replace h := g_ob h; obtain ⟨V23, e_V23, h⟩ := h
  refine r_aast C ak_105 ⟨_, _, rfl⟩ d_T_init_87 e_n51 e_V23 ?_
  refine r_iinc (x := (0 : Int32)) (v := (1 : Int32)) (lv' := [(5, tI (1 : Int32)), (0, tR (some h0)), (1, tJ p1), (3, tJ p3)]) C d_T_init_88 rfl (by decide) (by decide) rfl ?_
  refine r_goto C 68 d_T_init_91 (by decide) ?_
  refine r_iload (x := (1 : Int32)) C d_T_init_68 rfl ?_
  refine r_iconst C (3 : Int32) d_T_init_70 (by decide) ?_
  refine r_icmp_gt C 94 d_T_init_71 (by decide) (fun q => absurd q (by decide)) (fun _ => ?_)
  refine r_aload_n (x := (some h0)) C d_T_init_74 rfl rfl ?_
  replace h := g_ob h; obtain ⟨x24, e_x24, h⟩ := h
  refine r_getR C f_T_21 d_T_init_75 e_x24 ?_
  refine r_iload (x := (1 : Int32)) C d_T_init_78 rfl ?_
  replace h := g_obn h; obtain ⟨L25, V26, e_L25, h⟩ := h
  refine r_new C n_T_19 d_T_init_80 e_L25 (Nat.le_of_ble_eq_true rfl) (Nat.le_of_ble_eq_true rfl) ?_
  refine r_dup C d_T_init_83 rfl ?_
  replace h := g_o3 h; obtain ⟨r27, L29, V28, e_r27, h⟩ := h
  refine r_callIN (As := []) C rfl w_12 (by decide +kernel) rfl w_35 w_34 (c_N_init l E base L21.1 L25 V26 e_r27) d_T_init_84 rfl ⟨Nat.le_of_ble_eq_true rfl, Nat.le_of_ble_eq_true rfl⟩ (Nat.le_of_ble_eq_true rfl) (Nat.le_of_ble_eq_true rfl) (Nat.le_of_ble_eq_true rfl) rfl ?_
  replace h := g_ob h; obtain ⟨a30, rfl, h⟩ := h
  replace h := g_ob h; obtain ⟨n50, e_n50, h⟩ := h
  replace h := g_ob h; obtain ⟨V31, e_V31, h⟩ := h
  refine r_aast C ak_105 ⟨_, _, rfl⟩ d_T_init_87 e_n50 e_V31 ?_
  refine r_iinc (x := (1 : Int32)) (v := (2 : Int32)) (lv' := [(5, tI (2 : Int32)), (0, tR (some h0)), (1, tJ p1), (3, tJ p3)]) C d_T_init_88 rfl (by decide) (by decide) rfl ?_
  refine r_goto C 68 d_T_init_91 (by decide) ?_
  refine r_iload (x := (2 : Int32)) C d_T_init_68 rfl ?_
  refine r_iconst C (3 : Int32) d_T_init_70 (by decide) ?_
  refine r_icmp_gt C 94 d_T_init_71 (by decide) (fun q => absurd q (by decide)) (fun _ => ?_)
  refine r_aload_n (x := (some h0)) C d_T_init_74 rfl rfl ?_
  replace h := g_ob h; obtain ⟨x32, e_x32, h⟩ := h
  refine r_getR C f_T_21 d_T_init_75 e_x32 ?_
  refine r_iload (x := (2 : Int32)) C d_T_init_78 rfl ?_
  replace h := g_obn h; obtain ⟨L33, V34, e_L33, h⟩ := h
  refine r_new C n_T_19 d_T_init_80 e_L33 (Nat.le_of_ble_eq_true rfl) (Nat.le_of_ble_eq_true rfl) ?_
  refine r_dup C d_T_init_83 rfl ?_
  replace h := g_o3 h; obtain ⟨r35, L37, V36, e_r35, h⟩ := h
  refine r_callIN (As := []) C rfl w_12 (by decide +kernel) rfl w_35 w_34 (c_N_init l E base L29.1 L33 V34 e_r35) d_T_init_84 rfl ⟨Nat.le_of_ble_eq_true rfl, Nat.le_of_ble_eq_true rfl⟩ (Nat.le_of_ble_eq_true rfl) (Nat.le_of_ble_eq_true rfl) (Nat.le_of_ble_eq_true rfl) rfl ?_
  replace h := g_ob h; obtain ⟨a38, rfl, h⟩ := h
  replace h := g_ob h; obtain ⟨n49, e_n49, h⟩ := h
  replace h := g_ob h; obtain ⟨V39, e_V39, h⟩ := h
  refine r_aast C ak_105 ⟨_, _, rfl⟩ d_T_init_87 e_n49 e_V39 ?_
  refine r_iinc (x := (2 : Int32)) (v := (3 : Int32)) (lv' := [(5, tI (3 : Int32)), (0, tR (some h0)), (1, tJ p1), (3, tJ p3)]) C d_T_init_88 rfl (by decide) (by decide) rfl ?_
  refine r_goto C 68 d_T_init_91 (by decide) ?_
  refine r_iload (x := (3 : Int32)) C d_T_init_68 rfl ?_
  refine r_iconst C (3 : Int32) d_T_init_70 (by decide) ?_
  refine r_icmp_gt C 94 d_T_init_71 (by decide) (fun q => absurd q (by decide)) (fun _ => ?_)
  refine r_aload_n (x := (some h0)) C d_T_init_74 rfl rfl ?_
  replace h := g_ob h; obtain ⟨x40, e_x40, h⟩ := h
  refine r_getR C f_T_21 d_T_init_75 e_x40 ?_
  refine r_iload (x := (3 : Int32)) C d_T_init_78 rfl ?_
  replace h := g_obn h; obtain ⟨L41, V42, e_L41, h⟩ := h
  refine r_new C n_T_19 d_T_init_80 e_L41 (Nat.le_of_ble_eq_true rfl) (Nat.le_of_ble_eq_true rfl) ?_
  refine r_dup C d_T_init_83 rfl ?_
  replace h := g_o3 h; obtain ⟨r43, L45, V44, e_r43, h⟩ := h
  refine r_callIN (As := []) C rfl w_12 (by decide +kernel) rfl w_35 w_34 (c_N_init l E base L37.1 L41 V42 e_r43) d_T_init_84 rfl ⟨Nat.le_of_ble_eq_true rfl, Nat.le_of_ble_eq_true rfl⟩ (Nat.le_of_ble_eq_true rfl) (Nat.le_of_ble_eq_true rfl) (Nat.le_of_ble_eq_true rfl) rfl ?_
  replace h := g_ob h; obtain ⟨a46, rfl, h⟩ := h
  replace h := g_ob h; obtain ⟨n48, e_n48, h⟩ := h
  replace h := g_ob h; obtain ⟨V47, e_V47, h⟩ := h
  refine r_aast C ak_105 ⟨_, _, rfl⟩ d_T_init_87 e_n48 e_V47 ?_
  refine r_iinc (x := (3 : Int32)) (v := (4 : Int32)) (lv' := [(5, tI (4 : Int32)), (0, tR (some h0)), (1, tJ p1), (3, tJ p3)]) C d_T_init_88 rfl (by decide) (by decide) rfl ?_
  refine r_goto C 68 d_T_init_91 (by decide) ?_
  refine r_iload (x := (4 : Int32)) C d_T_init_68 rfl ?_
  refine r_iconst C (3 : Int32) d_T_init_70 (by decide) ?_
  refine r_icmp_gt C 94 d_T_init_71 (by decide) (fun _ => ?_) (fun q => absurd q (by decide))
  cases h
  refine r_wid (k := 14) (n := 78) (Nat.le_of_ble_eq_true rfl) (Nat.le_of_ble_eq_true rfl) ?_
  exact r_vret C hr d_T_init_94
theorem c_T_init (l : Launch) (E : gE) (base : Nat) (h0 : Nat) (p1 : Int64) (p3 : Int64) (L : gL) (V : gV) {z : Unit × gL × gV} (h : D_T_init h0 p1 p3 L V = some z) : g_Met l E base base y_T_init b_T_init 6 none rm_T_init [tR (some h0), tJ p1, tJ p3] L V none z.2.1 z.2.2 :=
  r_enter R_T (by decide) rfl [tR (some h0), tJ p1, tJ p3] [(0, tR (some h0)), (1, tJ p1), (3, tJ p3)] rfl (Nat.le_of_ble_eq_true rfl) (fun p e s m args below meth c C hr hnm => t_T_init_0 C hr hnm h0 p1 p3 V h)
def rm_T_entryAt : Room := { frames := 0, cells := 0, slots := 0, locals := 0 }
def D_T_entryAt (h0 : Nat) (p1 : Int32) (L : gL) (V : gV) : Option (Option Nat × gV) :=
  (if p1 < 0 then
    some (none, V)
  else
    Option.bind (g_rI L V 2 h0 5) fun x1 =>
    (if x1 ≤ p1 then
    some (none, V)
  else
    Option.bind (g_rR L V 2 h0 4) fun x2 =>
    Option.bind x2 fun a3 =>
    Option.bind (g_aR L V 105 a3 p1) fun x4 =>
    some (x4, V)))
set_option maxHeartbeats 4000000 in
set_option maxRecDepth 100000 in
theorem t_T_entryAt_0 (C : gC E bA p s m args meth c b_T_entryAt R_T 2) (hr : meth.sig.returnType = (some (.object "EarlyCut$Entry"))) {z : Option Nat × gV} (h0 : Nat) (p1 : Int32) (V : gV) (h : D_T_entryAt h0 p1 L V = some z) : vW E base bA 2 p l e rm_T_entryAt s m args below meth c 0 0 (g_MQ E base bA below args s 0 0 L z.2 (some (tR z.1))) L V 0 [(0, tR (some h0)), (1, tI p1)] [] := by
  unfold D_T_entryAt at h
  refine r_iload_n (x := p1) C d_T_entryAt_0 rfl rfl ?_
  refine r_if_lt C 21 d_T_entryAt_1 (by decide) (fun c6 => ?_) (fun c6 => ?_)
  · rw [if_pos c6] at h
    refine r_null C d_T_entryAt_21 ?_
    cases h
    exact r_aret C hr d_T_entryAt_22
  · rw [if_neg c6] at h
    refine r_iload_n (x := p1) C d_T_entryAt_4 rfl rfl ?_
    refine r_aload_n (x := (some h0)) C d_T_entryAt_5 rfl rfl ?_
    replace h := g_ob h; obtain ⟨x1, e_x1, h⟩ := h
    refine r_getI C f_T_25 d_T_entryAt_6 e_x1 ?_
    refine r_icmp_ge C 21 d_T_entryAt_9 (by decide) (fun c5 => ?_) (fun c5 => ?_)
    · rw [if_pos c5] at h
      refine r_null C d_T_entryAt_21 ?_
      cases h
      exact r_aret C hr d_T_entryAt_22
    · rw [if_neg c5] at h
      refine r_aload_n (x := (some h0)) C d_T_entryAt_12 rfl rfl ?_
      replace h := g_ob h; obtain ⟨x2, e_x2, h⟩ := h
      refine r_getR C f_T_21 d_T_entryAt_13 e_x2 ?_
      refine r_iload_n (x := p1) C d_T_entryAt_16 rfl rfl ?_
      replace h := g_ob h; obtain ⟨a3, rfl, h⟩ := h
      replace h := g_ob h; obtain ⟨x4, e_x4, h⟩ := h
      refine r_aald C ak_105 rfl d_T_entryAt_17 e_x4 ?_
      refine r_goto C 22 d_T_entryAt_18 (by decide) ?_
      cases h
      exact r_aret C hr d_T_entryAt_22
theorem c_T_entryAt (l : Launch) (E : gE) (base bA : Nat) (h0 : Nat) (p1 : Int32) (L : gL) (V : gV) {z : Option Nat × gV} (h : D_T_entryAt h0 p1 L V = some z) : g_Met l E base bA y_T_entryAt b_T_entryAt 2 (some (.object "EarlyCut$Entry")) rm_T_entryAt [tR (some h0), tI p1] L V (some (tR z.1)) L z.2 :=
  r_enter R_T (by decide) rfl [tR (some h0), tI p1] [(0, tR (some h0)), (1, tI p1)] rfl (Nat.le_of_ble_eq_true rfl) (fun p e s m args below meth c C hr hnm => t_T_entryAt_0 C hr h0 p1 V h)
def rm_T_spareEntry : Room := { frames := 0, cells := 0, slots := 0, locals := 0 }
def D_T_spareEntry (h0 : Nat) (L : gL) (V : gV) : Option (Option Nat × gV) :=
  Option.bind (g_rR L V 2 h0 4) fun x1 =>
    Option.bind x1 fun a2 =>
    Option.bind (g_aR L V 105 a2 (3 : Int32)) fun x3 =>
    some (x3, V)
set_option maxHeartbeats 4000000 in
set_option maxRecDepth 100000 in
theorem t_T_spareEntry_0 (C : gC E bA p s m args meth c b_T_spareEntry R_T 1) (hr : meth.sig.returnType = (some (.object "EarlyCut$Entry"))) {z : Option Nat × gV} (h0 : Nat) (V : gV) (h : D_T_spareEntry h0 L V = some z) : vW E base bA 1 p l e rm_T_spareEntry s m args below meth c 0 0 (g_MQ E base bA below args s 0 0 L z.2 (some (tR z.1))) L V 0 [(0, tR (some h0))] [] := by
  unfold D_T_spareEntry at h
  refine r_aload_n (x := (some h0)) C d_T_spareEntry_0 rfl rfl ?_
  replace h := g_ob h; obtain ⟨x1, e_x1, h⟩ := h
  refine r_getR C f_T_21 d_T_spareEntry_1 e_x1 ?_
  refine r_iconst C (3 : Int32) d_T_spareEntry_4 (by decide) ?_
  replace h := g_ob h; obtain ⟨a2, rfl, h⟩ := h
  replace h := g_ob h; obtain ⟨x3, e_x3, h⟩ := h
  refine r_aald C ak_105 rfl d_T_spareEntry_5 e_x3 ?_
  cases h
  exact r_aret C hr d_T_spareEntry_6
theorem c_T_spareEntry (l : Launch) (E : gE) (base bA : Nat) (h0 : Nat) (L : gL) (V : gV) {z : Option Nat × gV} (h : D_T_spareEntry h0 L V = some z) : g_Met l E base bA y_T_spareEntry b_T_spareEntry 1 (some (.object "EarlyCut$Entry")) rm_T_spareEntry [tR (some h0)] L V (some (tR z.1)) L z.2 :=
  r_enter R_T (by decide) rfl [tR (some h0)] [(0, tR (some h0))] rfl (Nat.le_of_ble_eq_true rfl) (fun p e s m args below meth c C hr hnm => t_T_spareEntry_0 C hr h0 V h)
def rm_T_hasRead : Room := { frames := 0, cells := 0, slots := 0, locals := 0 }
def D_T_hasRead_2 (L : gL) : Nat → Nat → Int32 → Int32 → gV → Option (Int32 × gV)
  | 0, _, _, _, _ => none
  | n + 1, v0, v1, v2, V =>
  Option.bind (g_rI L V 2 v0 3) fun x1 =>
    (if x1 ≤ v2 then
    some ((0 : Int32), V)
  else
    Option.bind (g_rR L V 2 v0 2) fun x2 =>
    Option.bind x2 fun a3 =>
    Option.bind (g_aI L V 100 a3 v2) fun x4 =>
    (if x4 = v1 then
    some ((1 : Int32), V)
  else
    D_T_hasRead_2 L  n v0 v1 (v2 + (1 : Int32)) V))
def D_T_hasRead (h0 : Nat) (p1 : Int32) (L : gL) (V : gV) : Option (Int32 × gV) :=
  D_T_hasRead_2 L  1000 h0 p1 (0 : Int32) V
set_option maxHeartbeats 4000000 in
set_option maxRecDepth 100000 in
theorem t_T_hasRead_2 (C : gC E bA p s m args meth c b_T_hasRead R_T 3) (hr : meth.sig.returnType = (some .boolean)) {z : Int32 × gV} : ∀ (n : Nat) (v0 : Nat) (v1 : Int32) (v2 : Int32) (V : gV), D_T_hasRead_2 L  n v0 v1 v2 V = some z → vW E base bA 3 p l e rm_T_hasRead s m args below meth c 0 0 (g_MQ E base bA below args s 0 0 L z.2 (some (tI z.1))) L V 2 [(0, tR (some v0)), (1, tI v1), (2, tI v2)] [] := by
  intro n
  induction n with
  | zero =>
    intro v0 v1 v2 V h
    rw [D_T_hasRead_2] at h
    cases h
  | succ n ih =>
    intro v0 v1 v2 V h
    rw [D_T_hasRead_2] at h
    refine r_iload_n (x := v2) C d_T_hasRead_2 rfl rfl ?_
    refine r_aload_n (x := (some v0)) C d_T_hasRead_3 rfl rfl ?_
    replace h := g_ob h; obtain ⟨x1, e_x1, h⟩ := h
    refine r_getI C f_T_15 d_T_hasRead_4 e_x1 ?_
    refine r_icmp_ge C 28 d_T_hasRead_7 (by decide) (fun c6 => ?_) (fun c6 => ?_)
    · rw [if_pos c6] at h
      refine r_iconst C (0 : Int32) d_T_hasRead_28 (by decide) ?_
      cases h
      exact r_zret C hr d_T_hasRead_29 (Or.inl rfl)
    · rw [if_neg c6] at h
      refine r_aload_n (x := (some v0)) C d_T_hasRead_10 rfl rfl ?_
      replace h := g_ob h; obtain ⟨x2, e_x2, h⟩ := h
      refine r_getR C f_T_9 d_T_hasRead_11 e_x2 ?_
      refine r_iload_n (x := v2) C d_T_hasRead_14 rfl rfl ?_
      replace h := g_ob h; obtain ⟨a3, rfl, h⟩ := h
      replace h := g_ob h; obtain ⟨x4, e_x4, h⟩ := h
      refine r_iald C ak_100 d_T_hasRead_15 e_x4 ?_
      refine r_iload_n (x := v1) C d_T_hasRead_16 rfl rfl ?_
      refine r_icmp_ne C 22 d_T_hasRead_17 (by decide) (fun c5 => ?_) (fun c5 => ?_)
      · rw [if_neg c5] at h
        refine r_iinc (x := v2) (v := v2 + (1 : Int32)) (lv' := [(2, tI (v2 + (1 : Int32))), (0, tR (some v0)), (1, tI v1)]) C d_T_hasRead_22 rfl rfl (by decide) rfl ?_
        refine r_goto C 2 d_T_hasRead_25 (by decide) ?_
        refine r_lv [1, 2, 0] rfl ?_
        exact ih v0 v1 (v2 + (1 : Int32)) V h
      · rw [if_pos c5] at h
        refine r_iconst C (1 : Int32) d_T_hasRead_20 (by decide) ?_
        cases h
        exact r_zret C hr d_T_hasRead_21 (Or.inr rfl)
set_option maxHeartbeats 4000000 in
set_option maxRecDepth 100000 in
theorem t_T_hasRead_0 (C : gC E bA p s m args meth c b_T_hasRead R_T 3) (hr : meth.sig.returnType = (some .boolean)) {z : Int32 × gV} (h0 : Nat) (p1 : Int32) (V : gV) (h : D_T_hasRead h0 p1 L V = some z) : vW E base bA 3 p l e rm_T_hasRead s m args below meth c 0 0 (g_MQ E base bA below args s 0 0 L z.2 (some (tI z.1))) L V 0 [(0, tR (some h0)), (1, tI p1)] [] := by
  unfold D_T_hasRead at h
  refine r_iconst C (0 : Int32) d_T_hasRead_0 (by decide) ?_
  refine r_istore_n (lv' := [(2, tI (0 : Int32)), (0, tR (some h0)), (1, tI p1)]) C d_T_hasRead_1 rfl (by decide) rfl ?_
  refine r_lv [1, 2, 0] rfl ?_
  exact t_T_hasRead_2 C hr  1000 h0 p1 (0 : Int32) V h
theorem c_T_hasRead (l : Launch) (E : gE) (base bA : Nat) (h0 : Nat) (p1 : Int32) (L : gL) (V : gV) {z : Int32 × gV} (h : D_T_hasRead h0 p1 L V = some z) : g_Met l E base bA y_T_hasRead b_T_hasRead 3 (some .boolean) rm_T_hasRead [tR (some h0), tI p1] L V (some (tI z.1)) L z.2 :=
  r_enter R_T (by decide) rfl [tR (some h0), tI p1] [(0, tR (some h0)), (1, tI p1)] rfl (Nat.le_of_ble_eq_true rfl) (fun p e s m args below meth c C hr hnm => t_T_hasRead_0 C hr h0 p1 V h)
def rm_T_addRead : Room := { frames := 1, cells := 0, slots := 0, locals := 22 }
def D_T_addRead (h0 : Nat) (p1 : Int32) (L : gL) (V : gV) : Option (Int32 × gV) :=
  Option.bind (g_rI L V 2 h0 3) fun x1 =>
    (if (6 : Int32) ≤ x1 then
    some ((0 : Int32), V)
  else
    Option.bind ((L).2 2 h0) fun n12 =>
    g_b2 (D_T_hasRead h0 p1 L V) fun r2 V3 =>
    (if r2 = 0 then
    Option.bind (g_rR L V3 2 h0 2) fun x4 =>
    Option.bind (g_rI L V3 2 h0 3) fun x5 =>
    Option.bind x4 fun a6 =>
    Option.bind (g_wa L V3 100 a6 x5 (tI p1)) fun V7 =>
    Option.bind (g_rI L V7 2 h0 3) fun x8 =>
    Option.bind (g_wr L V7 2 h0 3 (tI (x8 + (1 : Int32)))) fun V9 =>
    Option.bind (g_wr L V9 2 h0 5 (tI (0 : Int32))) fun V10 =>
    some ((1 : Int32), V10)
  else
    some ((0 : Int32), V3)))
set_option maxHeartbeats 4000000 in
set_option maxRecDepth 100000 in
theorem t_T_addRead_0 (C : gC E base p s m args meth c b_T_addRead R_T 2) (hr : meth.sig.returnType = (some .boolean)) {z : Int32 × gV} (h0 : Nat) (p1 : Int32) (V : gV) (h : D_T_addRead h0 p1 L V = some z) : vW E base base 2 p l e rm_T_addRead s m args below meth c 0 0 (g_MQ E base base below args s 0 0 L z.2 (some (tI z.1))) L V 0 [(0, tR (some h0)), (1, tI p1)] [] := by
  unfold D_T_addRead at h
  refine r_aload_n (x := (some h0)) C d_T_addRead_0 rfl rfl ?_
  replace h := g_ob h; obtain ⟨x1, e_x1, h⟩ := h
  refine r_getI C f_T_15 d_T_addRead_1 e_x1 ?_
  refine r_bipush C (6 : Int32) d_T_addRead_4 (by decide) ?_
  refine r_icmp_ge C 17 d_T_addRead_6 (by decide) (fun c13 => ?_) (fun c13 => ?_)
  · rw [if_pos c13] at h
    refine r_iconst C (0 : Int32) d_T_addRead_17 (by decide) ?_
    cases h
    exact r_zret C hr d_T_addRead_18 (Or.inl rfl)
  · rw [if_neg c13] at h
    refine r_aload_n (x := (some h0)) C d_T_addRead_9 rfl rfl ?_
    refine r_iload_n (x := p1) C d_T_addRead_10 rfl rfl ?_
    replace h := g_ob h; obtain ⟨n12, e_n12, h⟩ := h
    replace h := g_o2 h; obtain ⟨r2, V3, e_r2, h⟩ := h
    refine r_callV (As := [tI p1]) C k_T_52 w_39 w_40 w_36 ⟨_, _, rfl⟩ (c_T_hasRead l E base base h0 p1 L V e_r2) d_T_addRead_11 e_n12 rfl ⟨Nat.le_of_ble_eq_true rfl, Nat.le_of_ble_eq_true rfl⟩ (Nat.le_of_ble_eq_true rfl) (Nat.le_of_ble_eq_true rfl) (Nat.le_of_ble_eq_true rfl) rfl ?_
    refine r_if_eq C 19 d_T_addRead_14 (by decide) (fun c11 => ?_) (fun c11 => ?_)
    · rw [if_pos c11] at h
      refine r_aload_n (x := (some h0)) C d_T_addRead_19 rfl rfl ?_
      replace h := g_ob h; obtain ⟨x4, e_x4, h⟩ := h
      refine r_getR C f_T_9 d_T_addRead_20 e_x4 ?_
      refine r_aload_n (x := (some h0)) C d_T_addRead_23 rfl rfl ?_
      replace h := g_ob h; obtain ⟨x5, e_x5, h⟩ := h
      refine r_getI C f_T_15 d_T_addRead_24 e_x5 ?_
      refine r_iload_n (x := p1) C d_T_addRead_27 rfl rfl ?_
      replace h := g_ob h; obtain ⟨a6, rfl, h⟩ := h
      replace h := g_ob h; obtain ⟨V7, e_V7, h⟩ := h
      refine r_iast C ak_100 d_T_addRead_28 e_V7 ?_
      refine r_aload_n (x := (some h0)) C d_T_addRead_29 rfl rfl ?_
      refine r_dup C d_T_addRead_30 rfl ?_
      replace h := g_ob h; obtain ⟨x8, e_x8, h⟩ := h
      refine r_getI C f_T_15 d_T_addRead_31 e_x8 ?_
      refine r_iconst C (1 : Int32) d_T_addRead_34 (by decide) ?_
      refine r_iadd C d_T_addRead_35 ?_
      replace h := g_ob h; obtain ⟨V9, e_V9, h⟩ := h
      refine r_put C f_T_15 d_T_addRead_36 e_V9 (g_nI (x8 + (1 : Int32))).1 (g_nI (x8 + (1 : Int32))).2 ?_
      refine r_aload_n (x := (some h0)) C d_T_addRead_39 rfl rfl ?_
      refine r_iconst C (0 : Int32) d_T_addRead_40 (by decide) ?_
      replace h := g_ob h; obtain ⟨V10, e_V10, h⟩ := h
      refine r_put C f_T_25 d_T_addRead_41 e_V10 (g_nI (0 : Int32)).1 (g_nI (0 : Int32)).2 ?_
      refine r_iconst C (1 : Int32) d_T_addRead_44 (by decide) ?_
      cases h
      exact r_zret C hr d_T_addRead_45 (Or.inr rfl)
    · rw [if_neg c11] at h
      refine r_iconst C (0 : Int32) d_T_addRead_17 (by decide) ?_
      cases h
      exact r_zret C hr d_T_addRead_18 (Or.inl rfl)
theorem c_T_addRead (l : Launch) (E : gE) (base : Nat) (h0 : Nat) (p1 : Int32) (L : gL) (V : gV) {z : Int32 × gV} (h : D_T_addRead h0 p1 L V = some z) : g_Met l E base base y_T_addRead b_T_addRead 2 (some .boolean) rm_T_addRead [tR (some h0), tI p1] L V (some (tI z.1)) L z.2 :=
  r_enter R_T (by decide) rfl [tR (some h0), tI p1] [(0, tR (some h0)), (1, tI p1)] rfl (Nat.le_of_ble_eq_true rfl) (fun p e s m args below meth c C hr hnm => t_T_addRead_0 C hr h0 p1 V h)
def rm_T_forgetLatestBuild : Room := { frames := 0, cells := 0, slots := 0, locals := 0 }
def D_T_forgetLatestBuild (h0 : Nat) (L : gL) (V : gV) : Option (Unit × gV) :=
  Option.bind (g_wr L V 2 h0 7 (tI (0 : Int32))) fun V1 =>
    Option.bind (g_wr L V1 2 h0 8 (tI (0 : Int32))) fun V2 =>
    Option.bind (g_wr L V2 2 h0 9 (tI (0 : Int32))) fun V3 =>
    Option.bind (g_wr L V3 2 h0 10 (tI (-1 : Int32))) fun V4 =>
    some ((), V4)
set_option maxHeartbeats 4000000 in
set_option maxRecDepth 100000 in
theorem t_T_forgetLatestBuild_0 (C : gC E base p s m args meth c b_T_forgetLatestBuild R_T 1) (hr : meth.sig.returnType = none) {z : Unit × gV} (h0 : Nat) (V : gV) (h : D_T_forgetLatestBuild h0 L V = some z) : vW E base base 1 p l e rm_T_forgetLatestBuild s m args below meth c 0 0 (g_MQ E base base below args s 0 0 L z.2 none) L V 0 [(0, tR (some h0))] [] := by
  unfold D_T_forgetLatestBuild at h
  refine r_aload_n (x := (some h0)) C d_T_forgetLatestBuild_0 rfl rfl ?_
  refine r_iconst C (0 : Int32) d_T_forgetLatestBuild_1 (by decide) ?_
  replace h := g_ob h; obtain ⟨V1, e_V1, h⟩ := h
  refine r_put C f_T_32 d_T_forgetLatestBuild_2 e_V1 (g_nZ (x := (0 : Int32)) (Or.inl rfl)).1 (g_nZ (x := (0 : Int32)) (Or.inl rfl)).2 ?_
  refine r_aload_n (x := (some h0)) C d_T_forgetLatestBuild_5 rfl rfl ?_
  refine r_iconst C (0 : Int32) d_T_forgetLatestBuild_6 (by decide) ?_
  replace h := g_ob h; obtain ⟨V2, e_V2, h⟩ := h
  refine r_put C f_T_35 d_T_forgetLatestBuild_7 e_V2 (g_nZ (x := (0 : Int32)) (Or.inl rfl)).1 (g_nZ (x := (0 : Int32)) (Or.inl rfl)).2 ?_
  refine r_aload_n (x := (some h0)) C d_T_forgetLatestBuild_10 rfl rfl ?_
  refine r_iconst C (0 : Int32) d_T_forgetLatestBuild_11 (by decide) ?_
  replace h := g_ob h; obtain ⟨V3, e_V3, h⟩ := h
  refine r_put C f_T_38 d_T_forgetLatestBuild_12 e_V3 (g_nI (0 : Int32)).1 (g_nI (0 : Int32)).2 ?_
  refine r_aload_n (x := (some h0)) C d_T_forgetLatestBuild_15 rfl rfl ?_
  refine r_iconst C (-1 : Int32) d_T_forgetLatestBuild_16 (by decide) ?_
  replace h := g_ob h; obtain ⟨V4, e_V4, h⟩ := h
  refine r_put C f_T_41 d_T_forgetLatestBuild_17 e_V4 (g_nI (-1 : Int32)).1 (g_nI (-1 : Int32)).2 ?_
  cases h
  exact r_vret C hr d_T_forgetLatestBuild_20
theorem c_T_forgetLatestBuild (l : Launch) (E : gE) (base : Nat) (h0 : Nat) (L : gL) (V : gV) {z : Unit × gV} (h : D_T_forgetLatestBuild h0 L V = some z) : g_Met l E base base y_T_forgetLatestBuild b_T_forgetLatestBuild 1 none rm_T_forgetLatestBuild [tR (some h0)] L V none L z.2 :=
  r_enter R_T (by decide) rfl [tR (some h0)] [(0, tR (some h0))] rfl (Nat.le_of_ble_eq_true rfl) (fun p e s m args below meth c C hr hnm => t_T_forgetLatestBuild_0 C hr h0 V h)
def rm_T_isWithoutOutput : Room := { frames := 0, cells := 0, slots := 0, locals := 0 }
def D_T_isWithoutOutput_24 (L : gL)  (V : gV) : Option (Int32 × gV) :=
  some ((1 : Int32), V)
def D_T_isWithoutOutput (h0 : Nat) (L : gL) (V : gV) : Option (Int32 × gV) :=
  Option.bind (g_rI L V 2 h0 9) fun x1 =>
    (if x1 = (3 : Int32) then
    D_T_isWithoutOutput_24 L   V
  else
    Option.bind (g_rI L V 2 h0 9) fun x2 =>
    (if x2 = (4 : Int32) then
    D_T_isWithoutOutput_24 L   V
  else
    Option.bind (g_rI L V 2 h0 9) fun x3 =>
    (if x3 = (5 : Int32) then
    D_T_isWithoutOutput_24 L   V
  else
    some ((0 : Int32), V))))
set_option maxHeartbeats 4000000 in
set_option maxRecDepth 100000 in
theorem t_T_isWithoutOutput_24 (C : gC E bA p s m args meth c b_T_isWithoutOutput R_T 1) (hr : meth.sig.returnType = (some .boolean)) {z : Int32 × gV}  (V : gV) (h : D_T_isWithoutOutput_24 L   V = some z) : vW E base bA 1 p l e rm_T_isWithoutOutput s m args below meth c 0 0 (g_MQ E base bA below args s 0 0 L z.2 (some (tI z.1))) L V 24 [] [] := by
  unfold D_T_isWithoutOutput_24 at h
  refine r_iconst C (1 : Int32) d_T_isWithoutOutput_24 (by decide) ?_
  refine r_goto C 29 d_T_isWithoutOutput_25 (by decide) ?_
  cases h
  exact r_zret C hr d_T_isWithoutOutput_29 (Or.inr rfl)
set_option maxHeartbeats 4000000 in
set_option maxRecDepth 100000 in
theorem t_T_isWithoutOutput_0 (C : gC E bA p s m args meth c b_T_isWithoutOutput R_T 1) (hr : meth.sig.returnType = (some .boolean)) {z : Int32 × gV} (h0 : Nat) (V : gV) (h : D_T_isWithoutOutput h0 L V = some z) : vW E base bA 1 p l e rm_T_isWithoutOutput s m args below meth c 0 0 (g_MQ E base bA below args s 0 0 L z.2 (some (tI z.1))) L V 0 [(0, tR (some h0))] [] := by
  unfold D_T_isWithoutOutput at h
  refine r_aload_n (x := (some h0)) C d_T_isWithoutOutput_0 rfl rfl ?_
  replace h := g_ob h; obtain ⟨x1, e_x1, h⟩ := h
  refine r_getI C f_T_38 d_T_isWithoutOutput_1 e_x1 ?_
  refine r_iconst C (3 : Int32) d_T_isWithoutOutput_4 (by decide) ?_
  refine r_icmp_eq C 24 d_T_isWithoutOutput_5 (by decide) (fun c6 => ?_) (fun c6 => ?_)
  · rw [if_pos c6] at h
    refine r_lv [] rfl ?_
    exact t_T_isWithoutOutput_24 C hr   V h
  · rw [if_neg c6] at h
    refine r_aload_n (x := (some h0)) C d_T_isWithoutOutput_8 rfl rfl ?_
    replace h := g_ob h; obtain ⟨x2, e_x2, h⟩ := h
    refine r_getI C f_T_38 d_T_isWithoutOutput_9 e_x2 ?_
    refine r_iconst C (4 : Int32) d_T_isWithoutOutput_12 (by decide) ?_
    refine r_icmp_eq C 24 d_T_isWithoutOutput_13 (by decide) (fun c5 => ?_) (fun c5 => ?_)
    · rw [if_pos c5] at h
      refine r_lv [] rfl ?_
      exact t_T_isWithoutOutput_24 C hr   V h
    · rw [if_neg c5] at h
      refine r_aload_n (x := (some h0)) C d_T_isWithoutOutput_16 rfl rfl ?_
      replace h := g_ob h; obtain ⟨x3, e_x3, h⟩ := h
      refine r_getI C f_T_38 d_T_isWithoutOutput_17 e_x3 ?_
      refine r_iconst C (5 : Int32) d_T_isWithoutOutput_20 (by decide) ?_
      refine r_icmp_ne C 28 d_T_isWithoutOutput_21 (by decide) (fun c4 => ?_) (fun c4 => ?_)
      · rw [if_neg c4] at h
        refine r_iconst C (0 : Int32) d_T_isWithoutOutput_28 (by decide) ?_
        cases h
        exact r_zret C hr d_T_isWithoutOutput_29 (Or.inl rfl)
      · rw [if_pos c4] at h
        refine r_lv [] rfl ?_
        exact t_T_isWithoutOutput_24 C hr   V h
theorem c_T_isWithoutOutput (l : Launch) (E : gE) (base bA : Nat) (h0 : Nat) (L : gL) (V : gV) {z : Int32 × gV} (h : D_T_isWithoutOutput h0 L V = some z) : g_Met l E base bA y_T_isWithoutOutput b_T_isWithoutOutput 1 (some .boolean) rm_T_isWithoutOutput [tR (some h0)] L V (some (tI z.1)) L z.2 :=
  r_enter R_T (by decide) rfl [tR (some h0)] [(0, tR (some h0))] rfl (Nat.le_of_ble_eq_true rfl) (fun p e s m args below meth c C hr hnm => t_T_isWithoutOutput_0 C hr h0 V h)
def rm_T_placeOfSameReads : Room := { frames := 2, cells := 0, slots := 0, locals := 47 }
def D_T_placeOfSameReads_2 (L : gL) : Nat → Nat → Nat → Int32 → gV → Option (Int32 × gV)
  | 0, _, _, _, _ => none
  | n + 1, v0, v1, v2, V =>
  Option.bind (g_rI L V 2 v0 5) fun x1 =>
    (if x1 ≤ v2 then
    some ((-1 : Int32), V)
  else
    Option.bind (g_rR L V 2 v0 4) fun x2 =>
    Option.bind x2 fun a3 =>
    Option.bind (g_aR L V 105 a3 v2) fun x4 =>
    Option.bind (g_rI L V 2 v0 3) fun x5 =>
    Option.bind x4 fun a6 =>
    Option.bind ((L).2 0 a6) fun n10 =>
    g_b2 (D_N_firstDifference a6 v1 x5 L V) fun r7 V8 =>
    (if r7 = (-1 : Int32) then
    some (v2, V8)
  else
    D_T_placeOfSameReads_2 L  n v0 v1 (v2 + (1 : Int32)) V8))
def D_T_placeOfSameReads (h0 : Nat) (p1 : Nat) (L : gL) (V : gV) : Option (Int32 × gV) :=
  D_T_placeOfSameReads_2 L  1000 h0 p1 (0 : Int32) V
set_option maxHeartbeats 4000000 in
set_option maxRecDepth 100000 in
theorem t_T_placeOfSameReads_2 (C : gC E bA p s m args meth c b_T_placeOfSameReads R_T 3) (hr : meth.sig.returnType = (some .int)) {z : Int32 × gV} : ∀ (n : Nat) (v0 : Nat) (v1 : Nat) (v2 : Int32) (V : gV), D_T_placeOfSameReads_2 L  n v0 v1 v2 V = some z → vW E base bA 3 p l e rm_T_placeOfSameReads s m args below meth c 0 0 (g_MQ E base bA below args s 0 0 L z.2 (some (tI z.1))) L V 2 [(0, tR (some v0)), (1, tR (some v1)), (2, tI v2)] [] := by
  intro n
  induction n with
  | zero =>
    intro v0 v1 v2 V h
    rw [D_T_placeOfSameReads_2] at h
    cases h
  | succ n ih =>
    intro v0 v1 v2 V h
    rw [D_T_placeOfSameReads_2] at h
    refine r_iload_n (x := v2) C d_T_placeOfSameReads_2 rfl rfl ?_
    refine r_aload_n (x := (some v0)) C d_T_placeOfSameReads_3 rfl rfl ?_
    replace h := g_ob h; obtain ⟨x1, e_x1, h⟩ := h
    refine r_getI C f_T_25 d_T_placeOfSameReads_4 e_x1 ?_
    refine r_icmp_ge C 36 d_T_placeOfSameReads_7 (by decide) (fun c11 => ?_) (fun c11 => ?_)
    · rw [if_pos c11] at h
      refine r_iconst C (-1 : Int32) d_T_placeOfSameReads_36 (by decide) ?_
      cases h
      exact r_iret C hr d_T_placeOfSameReads_37
    · rw [if_neg c11] at h
      refine r_aload_n (x := (some v0)) C d_T_placeOfSameReads_10 rfl rfl ?_
      replace h := g_ob h; obtain ⟨x2, e_x2, h⟩ := h
      refine r_getR C f_T_21 d_T_placeOfSameReads_11 e_x2 ?_
      refine r_iload_n (x := v2) C d_T_placeOfSameReads_14 rfl rfl ?_
      replace h := g_ob h; obtain ⟨a3, rfl, h⟩ := h
      replace h := g_ob h; obtain ⟨x4, e_x4, h⟩ := h
      refine r_aald C ak_105 rfl d_T_placeOfSameReads_15 e_x4 ?_
      refine r_aload_n (x := (some v1)) C d_T_placeOfSameReads_16 rfl rfl ?_
      refine r_aload_n (x := (some v0)) C d_T_placeOfSameReads_17 rfl rfl ?_
      replace h := g_ob h; obtain ⟨x5, e_x5, h⟩ := h
      refine r_getI C f_T_15 d_T_placeOfSameReads_18 e_x5 ?_
      replace h := g_ob h; obtain ⟨a6, rfl, h⟩ := h
      replace h := g_ob h; obtain ⟨n10, e_n10, h⟩ := h
      replace h := g_o2 h; obtain ⟨r7, V8, e_r7, h⟩ := h
      refine r_callV (As := [tR (some v1), tI x5]) C k_T_56 w_43 w_44 w_41 ⟨_, _, rfl⟩ (c_N_firstDifference l E base bA a6 v1 x5 L V e_r7) d_T_placeOfSameReads_21 e_n10 rfl ⟨Nat.le_of_ble_eq_true rfl, Nat.le_of_ble_eq_true rfl⟩ (Nat.le_of_ble_eq_true rfl) (Nat.le_of_ble_eq_true rfl) (Nat.le_of_ble_eq_true rfl) rfl ?_
      refine r_iconst C (-1 : Int32) d_T_placeOfSameReads_24 (by decide) ?_
      refine r_icmp_ne C 30 d_T_placeOfSameReads_25 (by decide) (fun c9 => ?_) (fun c9 => ?_)
      · rw [if_neg c9] at h
        refine r_iinc (x := v2) (v := v2 + (1 : Int32)) (lv' := [(2, tI (v2 + (1 : Int32))), (0, tR (some v0)), (1, tR (some v1))]) C d_T_placeOfSameReads_30 rfl rfl (by decide) rfl ?_
        refine r_goto C 2 d_T_placeOfSameReads_33 (by decide) ?_
        refine r_lv [1, 2, 0] rfl ?_
        exact ih v0 v1 (v2 + (1 : Int32)) V8 h
      · rw [if_pos c9] at h
        refine r_iload_n (x := v2) C d_T_placeOfSameReads_28 rfl rfl ?_
        cases h
        exact r_iret C hr d_T_placeOfSameReads_29
set_option maxHeartbeats 4000000 in
set_option maxRecDepth 100000 in
theorem t_T_placeOfSameReads_0 (C : gC E bA p s m args meth c b_T_placeOfSameReads R_T 3) (hr : meth.sig.returnType = (some .int)) {z : Int32 × gV} (h0 : Nat) (p1 : Nat) (V : gV) (h : D_T_placeOfSameReads h0 p1 L V = some z) : vW E base bA 3 p l e rm_T_placeOfSameReads s m args below meth c 0 0 (g_MQ E base bA below args s 0 0 L z.2 (some (tI z.1))) L V 0 [(0, tR (some h0)), (1, tR (some p1))] [] := by
  unfold D_T_placeOfSameReads at h
  refine r_iconst C (0 : Int32) d_T_placeOfSameReads_0 (by decide) ?_
  refine r_istore_n (lv' := [(2, tI (0 : Int32)), (0, tR (some h0)), (1, tR (some p1))]) C d_T_placeOfSameReads_1 rfl (by decide) rfl ?_
  refine r_lv [1, 2, 0] rfl ?_
  exact t_T_placeOfSameReads_2 C hr  1000 h0 p1 (0 : Int32) V h
theorem c_T_placeOfSameReads (l : Launch) (E : gE) (base bA : Nat) (h0 : Nat) (p1 : Nat) (L : gL) (V : gV) {z : Int32 × gV} (h : D_T_placeOfSameReads h0 p1 L V = some z) : g_Met l E base bA y_T_placeOfSameReads b_T_placeOfSameReads 3 (some .int) rm_T_placeOfSameReads [tR (some h0), tR (some p1)] L V (some (tI z.1)) L z.2 :=
  r_enter R_T (by decide) rfl [tR (some h0), tR (some p1)] [(0, tR (some h0)), (1, tR (some p1))] rfl (Nat.le_of_ble_eq_true rfl) (fun p e s m args below meth c C hr hnm => t_T_placeOfSameReads_0 C hr h0 p1 V h)
def rm_T_bringFirst : Room := { frames := 0, cells := 0, slots := 0, locals := 0 }
def D_T_bringFirst_9 (L : gL) : Nat → Nat → Option Nat → Int32 → gV → Option (Unit × gV)
  | 0, _, _, _, _ => none
  | n + 1, v0, v2, v3, V =>
  (if v3 ≤ 0 then
    Option.bind (g_rR L V 2 v0 4) fun x1 =>
    Option.bind x1 fun a2 =>
    Option.bind v2 fun a3 =>
    Option.bind ((L).2 0 a3) fun n5 =>
    Option.bind (g_wa L V 105 a2 (0 : Int32) (tR (some a3))) fun V4 =>
    some ((), V4)
  else
    Option.bind (g_rR L V 2 v0 4) fun x6 =>
    Option.bind (g_rR L V 2 v0 4) fun x7 =>
    Option.bind x7 fun a8 =>
    Option.bind (g_aR L V 105 a8 (v3 - (1 : Int32))) fun x9 =>
    Option.bind x6 fun a10 =>
    Option.bind x9 fun a11 =>
    Option.bind ((L).2 0 a11) fun n13 =>
    Option.bind (g_wa L V 105 a10 v3 (tR (some a11))) fun V12 =>
    D_T_bringFirst_9 L  n v0 v2 (v3 + (-1 : Int32)) V12)
def D_T_bringFirst (h0 : Nat) (p1 : Int32) (L : gL) (V : gV) : Option (Unit × gV) :=
  Option.bind (g_rR L V 2 h0 4) fun x1 =>
    Option.bind x1 fun a2 =>
    Option.bind (g_aR L V 105 a2 p1) fun x3 =>
    D_T_bringFirst_9 L  1000 h0 x3 p1 V
set_option maxHeartbeats 4000000 in
set_option maxRecDepth 100000 in
theorem t_T_bringFirst_9 (C : gC E base p s m args meth c b_T_bringFirst R_T 4) (hr : meth.sig.returnType = none) {z : Unit × gV} : ∀ (n : Nat) (v0 : Nat) (v2 : Option Nat) (v3 : Int32) (V : gV), D_T_bringFirst_9 L  n v0 v2 v3 V = some z → vW E base base 4 p l e rm_T_bringFirst s m args below meth c 0 0 (g_MQ E base base below args s 0 0 L z.2 none) L V 9 [(0, tR (some v0)), (2, tR v2), (3, tI v3)] [] := by
  intro n
  induction n with
  | zero =>
    intro v0 v2 v3 V h
    rw [D_T_bringFirst_9] at h
    cases h
  | succ n ih =>
    intro v0 v2 v3 V h
    rw [D_T_bringFirst_9] at h
    refine r_iload_n (x := v3) C d_T_bringFirst_9 rfl rfl ?_
    refine r_if_le C 33 d_T_bringFirst_10 (by decide) (fun c14 => ?_) (fun c14 => ?_)
    · rw [if_pos c14] at h
      refine r_aload_n (x := (some v0)) C d_T_bringFirst_33 rfl rfl ?_
      replace h := g_ob h; obtain ⟨x1, e_x1, h⟩ := h
      refine r_getR C f_T_21 d_T_bringFirst_34 e_x1 ?_
      refine r_iconst C (0 : Int32) d_T_bringFirst_37 (by decide) ?_
      refine r_aload_n (x := v2) C d_T_bringFirst_38 rfl rfl ?_
      replace h := g_ob h; obtain ⟨a2, rfl, h⟩ := h
      replace h := g_ob h; obtain ⟨a3, rfl, h⟩ := h
      replace h := g_ob h; obtain ⟨n5, e_n5, h⟩ := h
      replace h := g_ob h; obtain ⟨V4, e_V4, h⟩ := h
      refine r_aast C ak_105 ⟨_, _, rfl⟩ d_T_bringFirst_39 e_n5 e_V4 ?_
      cases h
      exact r_vret C hr d_T_bringFirst_40
    · rw [if_neg c14] at h
      refine r_aload_n (x := (some v0)) C d_T_bringFirst_13 rfl rfl ?_
      replace h := g_ob h; obtain ⟨x6, e_x6, h⟩ := h
      refine r_getR C f_T_21 d_T_bringFirst_14 e_x6 ?_
      refine r_iload_n (x := v3) C d_T_bringFirst_17 rfl rfl ?_
      refine r_aload_n (x := (some v0)) C d_T_bringFirst_18 rfl rfl ?_
      replace h := g_ob h; obtain ⟨x7, e_x7, h⟩ := h
      refine r_getR C f_T_21 d_T_bringFirst_19 e_x7 ?_
      refine r_iload_n (x := v3) C d_T_bringFirst_22 rfl rfl ?_
      refine r_iconst C (1 : Int32) d_T_bringFirst_23 (by decide) ?_
      refine r_isub C d_T_bringFirst_24 ?_
      replace h := g_ob h; obtain ⟨a8, rfl, h⟩ := h
      replace h := g_ob h; obtain ⟨x9, e_x9, h⟩ := h
      refine r_aald C ak_105 rfl d_T_bringFirst_25 e_x9 ?_
      replace h := g_ob h; obtain ⟨a10, rfl, h⟩ := h
      replace h := g_ob h; obtain ⟨a11, rfl, h⟩ := h
      replace h := g_ob h; obtain ⟨n13, e_n13, h⟩ := h
      replace h := g_ob h; obtain ⟨V12, e_V12, h⟩ := h
      refine r_aast C ak_105 ⟨_, _, rfl⟩ d_T_bringFirst_26 e_n13 e_V12 ?_
      refine r_iinc (x := v3) (v := v3 + (-1 : Int32)) (lv' := [(3, tI (v3 + (-1 : Int32))), (0, tR (some v0)), (2, tR v2)]) C d_T_bringFirst_27 rfl rfl (by decide) rfl ?_
      refine r_goto C 9 d_T_bringFirst_30 (by decide) ?_
      refine r_lv [1, 2, 0] rfl ?_
      exact ih v0 v2 (v3 + (-1 : Int32)) V12 h
set_option maxHeartbeats 4000000 in
set_option maxRecDepth 100000 in
theorem t_T_bringFirst_0 (C : gC E base p s m args meth c b_T_bringFirst R_T 4) (hr : meth.sig.returnType = none) {z : Unit × gV} (h0 : Nat) (p1 : Int32) (V : gV) (h : D_T_bringFirst h0 p1 L V = some z) : vW E base base 4 p l e rm_T_bringFirst s m args below meth c 0 0 (g_MQ E base base below args s 0 0 L z.2 none) L V 0 [(0, tR (some h0)), (1, tI p1)] [] := by
  unfold D_T_bringFirst at h
  refine r_aload_n (x := (some h0)) C d_T_bringFirst_0 rfl rfl ?_
  replace h := g_ob h; obtain ⟨x1, e_x1, h⟩ := h
  refine r_getR C f_T_21 d_T_bringFirst_1 e_x1 ?_
  refine r_iload_n (x := p1) C d_T_bringFirst_4 rfl rfl ?_
  replace h := g_ob h; obtain ⟨a2, rfl, h⟩ := h
  replace h := g_ob h; obtain ⟨x3, e_x3, h⟩ := h
  refine r_aald C ak_105 rfl d_T_bringFirst_5 e_x3 ?_
  refine r_astore_n (lv' := [(2, tR x3), (0, tR (some h0)), (1, tI p1)]) C d_T_bringFirst_6 rfl (by decide) rfl ?_
  refine r_iload_n (x := p1) C d_T_bringFirst_7 rfl rfl ?_
  refine r_istore_n (lv' := [(3, tI p1), (2, tR x3), (0, tR (some h0)), (1, tI p1)]) C d_T_bringFirst_8 rfl (by decide) rfl ?_
  refine r_lv [2, 1, 0] rfl ?_
  exact t_T_bringFirst_9 C hr  1000 h0 x3 p1 V h
theorem c_T_bringFirst (l : Launch) (E : gE) (base : Nat) (h0 : Nat) (p1 : Int32) (L : gL) (V : gV) {z : Unit × gV} (h : D_T_bringFirst h0 p1 L V = some z) : g_Met l E base base y_T_bringFirst b_T_bringFirst 4 none rm_T_bringFirst [tR (some h0), tI p1] L V none L z.2 :=
  r_enter R_T (by decide) rfl [tR (some h0), tI p1] [(0, tR (some h0)), (1, tI p1)] rfl (Nat.le_of_ble_eq_true rfl) (fun p e s m args below meth c C hr hnm => t_T_bringFirst_0 C hr h0 p1 V h)
def rm_T_reuse : Room := { frames := 1, cells := 0, slots := 0, locals := 23 }
def D_T_reuse (h0 : Nat) (p1 : Int32) (L : gL) (V : gV) : Option (Unit × gV) :=
  Option.bind ((L).2 2 h0) fun n15 =>
    g_b2 (D_T_bringFirst h0 p1 L V) fun r1 V2 =>
    Option.bind (g_rR L V2 2 h0 4) fun x3 =>
    Option.bind x3 fun a4 =>
    Option.bind (g_aR L V2 105 a4 (0 : Int32)) fun x5 =>
    Option.bind x5 fun a6 =>
    Option.bind ((L).2 0 a6) fun n14 =>
    g_b2 (D_N_hasFailed a6 L V2) fun r7 V8 =>
    (if r7 = 0 then
    (if p1 = 0 then
    Option.bind (g_wr L V8 2 h0 9 (tI (1 : Int32))) fun V10 =>
    some ((), V10)
  else
    Option.bind (g_wr L V8 2 h0 9 (tI (6 : Int32))) fun V9 =>
    some ((), V9))
  else
    Option.bind (g_wr L V8 2 h0 9 (tI (4 : Int32))) fun V12 =>
    some ((), V12))
set_option maxHeartbeats 4000000 in
set_option maxRecDepth 100000 in
theorem t_T_reuse_0 (C : gC E base p s m args meth c b_T_reuse R_T 2) (hr : meth.sig.returnType = none) {z : Unit × gV} (h0 : Nat) (p1 : Int32) (V : gV) (h : D_T_reuse h0 p1 L V = some z) : vW E base base 2 p l e rm_T_reuse s m args below meth c 0 0 (g_MQ E base base below args s 0 0 L z.2 none) L V 0 [(0, tR (some h0)), (1, tI p1)] [] := by
  unfold D_T_reuse at h
  refine r_aload_n (x := (some h0)) C d_T_reuse_0 rfl rfl ?_
  refine r_iload_n (x := p1) C d_T_reuse_1 rfl rfl ?_
  replace h := g_ob h; obtain ⟨n15, e_n15, h⟩ := h
  replace h := g_o2 h; obtain ⟨r1, V2, e_r1, h⟩ := h
  refine r_callV (As := [tI p1]) C k_T_60 w_51 w_52 w_45 ⟨_, _, rfl⟩ (c_T_bringFirst l E base h0 p1 L V e_r1) d_T_reuse_2 e_n15 rfl ⟨Nat.le_of_ble_eq_true rfl, Nat.le_of_ble_eq_true rfl⟩ (Nat.le_of_ble_eq_true rfl) (Nat.le_of_ble_eq_true rfl) (Nat.le_of_ble_eq_true rfl) rfl ?_
  refine r_aload_n (x := (some h0)) C d_T_reuse_5 rfl rfl ?_
  replace h := g_ob h; obtain ⟨x3, e_x3, h⟩ := h
  refine r_getR C f_T_21 d_T_reuse_6 e_x3 ?_
  refine r_iconst C (0 : Int32) d_T_reuse_9 (by decide) ?_
  replace h := g_ob h; obtain ⟨a4, rfl, h⟩ := h
  replace h := g_ob h; obtain ⟨x5, e_x5, h⟩ := h
  refine r_aald C ak_105 rfl d_T_reuse_10 e_x5 ?_
  replace h := g_ob h; obtain ⟨a6, rfl, h⟩ := h
  replace h := g_ob h; obtain ⟨n14, e_n14, h⟩ := h
  replace h := g_o2 h; obtain ⟨r7, V8, e_r7, h⟩ := h
  refine r_callV (As := []) C k_T_64 w_49 w_50 w_47 ⟨_, _, rfl⟩ (c_N_hasFailed l E base base a6 L V2 e_r7) d_T_reuse_11 e_n14 rfl ⟨Nat.le_of_ble_eq_true rfl, Nat.le_of_ble_eq_true rfl⟩ (Nat.le_of_ble_eq_true rfl) (Nat.le_of_ble_eq_true rfl) (Nat.le_of_ble_eq_true rfl) rfl ?_
  refine r_if_eq C 25 d_T_reuse_14 (by decide) (fun c13 => ?_) (fun c13 => ?_)
  · rw [if_pos c13] at h
    refine r_aload_n (x := (some h0)) C d_T_reuse_25 rfl rfl ?_
    refine r_iload_n (x := p1) C d_T_reuse_26 rfl rfl ?_
    refine r_if_ne C 34 d_T_reuse_27 (by decide) (fun c11 => ?_) (fun c11 => ?_)
    · rw [if_neg c11] at h
      refine r_bipush C (6 : Int32) d_T_reuse_34 (by decide) ?_
      replace h := g_ob h; obtain ⟨V9, e_V9, h⟩ := h
      refine r_put C f_T_38 d_T_reuse_36 e_V9 (g_nI (6 : Int32)).1 (g_nI (6 : Int32)).2 ?_
      cases h
      exact r_vret C hr d_T_reuse_39
    · rw [if_pos c11] at h
      refine r_iconst C (1 : Int32) d_T_reuse_30 (by decide) ?_
      refine r_goto C 36 d_T_reuse_31 (by decide) ?_
      replace h := g_ob h; obtain ⟨V10, e_V10, h⟩ := h
      refine r_put C f_T_38 d_T_reuse_36 e_V10 (g_nI (1 : Int32)).1 (g_nI (1 : Int32)).2 ?_
      cases h
      exact r_vret C hr d_T_reuse_39
  · rw [if_neg c13] at h
    refine r_aload_n (x := (some h0)) C d_T_reuse_17 rfl rfl ?_
    refine r_iconst C (4 : Int32) d_T_reuse_18 (by decide) ?_
    replace h := g_ob h; obtain ⟨V12, e_V12, h⟩ := h
    refine r_put C f_T_38 d_T_reuse_19 e_V12 (g_nI (4 : Int32)).1 (g_nI (4 : Int32)).2 ?_
    refine r_goto C 39 d_T_reuse_22 (by decide) ?_
    cases h
    exact r_vret C hr d_T_reuse_39
theorem c_T_reuse (l : Launch) (E : gE) (base : Nat) (h0 : Nat) (p1 : Int32) (L : gL) (V : gV) {z : Unit × gV} (h : D_T_reuse h0 p1 L V = some z) : g_Met l E base base y_T_reuse b_T_reuse 2 none rm_T_reuse [tR (some h0), tI p1] L V none L z.2 :=
  r_enter R_T (by decide) rfl [tR (some h0), tI p1] [(0, tR (some h0)), (1, tI p1)] rfl (Nat.le_of_ble_eq_true rfl) (fun p e s m args below meth c C hr hnm => t_T_reuse_0 C hr h0 p1 V h)
def rm_T_fillOutcome : Room := { frames := 1, cells := 0, slots := 0, locals := 22 }
def D_T_fillOutcome_7 (L : gL) : Nat → Nat → Nat → Int64 → Int32 → gV → Option (Unit × gV)
  | 0, _, _, _, _, _ => none
  | n + 1, v0, v1, v2, v4, V =>
  Option.bind (g_rI L V 2 v0 3) fun x1 =>
    (if x1 ≤ v4 then
    Option.bind (g_wr L V 0 v1 4 (tJ v2)) fun V2 =>
    Option.bind (g_rJ L V2 2 v0 0) fun x3 =>
    Option.bind (g_wr L V2 0 v1 3 (tJ (v2 &&& x3))) fun V4 =>
    Option.bind (g_rI L V4 2 v0 3) fun x5 =>
    Option.bind ((L).2 0 v1) fun n17 =>
    g_b2 (D_N_firstMissing v1 x5 L V4) fun r6 V7 =>
    Option.bind (g_wr L V7 0 v1 2 (tI r6)) fun V8 =>
    Option.bind (g_rI L V8 0 v1 2) fun x9 =>
    (if x9 = (-1 : Int32) then
    Option.bind (g_rJ L V8 2 v0 1) fun x10 =>
    (if (lg_cmp x10 (0 : Int64)) = 0 then
    some ((), V8)
  else
    Option.bind (g_rJ L V8 2 v0 1) fun x11 =>
    (if x11 = 0 then none else
    (if (lg_cmp (v2 - v2 / x11 * x11) (0 : Int64)) = 0 then
    Option.bind (g_wr L V8 0 v1 2 (tI (6 : Int32))) fun V12 =>
    some ((), V12)
  else
    some ((), V8))))
  else
    some ((), V8))
  else
    Option.bind (g_rR L V 0 v1 1) fun x18 =>
    Option.bind x18 fun a19 =>
    Option.bind (g_aJ L V 101 a19 v4) fun x20 =>
    D_T_fillOutcome_7 L  n v0 v1 (((31 : Int64) * v2) + x20) (v4 + (1 : Int32)) V)
def D_T_fillOutcome (h0 : Nat) (p1 : Nat) (L : gL) (V : gV) : Option (Unit × gV) :=
  D_T_fillOutcome_7 L  1000 h0 p1 (17 : Int64) (0 : Int32) V
set_option maxHeartbeats 4000000 in
set_option maxRecDepth 100000 in
theorem t_T_fillOutcome_7 (C : gC E base p s m args meth c b_T_fillOutcome R_T 5) (hr : meth.sig.returnType = none) {z : Unit × gV} : ∀ (n : Nat) (v0 : Nat) (v1 : Nat) (v2 : Int64) (v4 : Int32) (V : gV), D_T_fillOutcome_7 L  n v0 v1 v2 v4 V = some z → vW E base base 5 p l e rm_T_fillOutcome s m args below meth c 0 0 (g_MQ E base base below args s 0 0 L z.2 none) L V 7 [(0, tR (some v0)), (1, tR (some v1)), (2, tJ v2), (4, tI v4)] [] := by
  intro n
  induction n with
  | zero =>
    intro v0 v1 v2 v4 V h
    rw [D_T_fillOutcome_7] at h
    cases h
  | succ n ih =>
    intro v0 v1 v2 v4 V h
    rw [D_T_fillOutcome_7] at h
    refine r_iload (x := v4) C d_T_fillOutcome_7 rfl ?_
    refine r_aload_n (x := (some v0)) C d_T_fillOutcome_9 rfl rfl ?_
    replace h := g_ob h; obtain ⟨x1, e_x1, h⟩ := h
    refine r_getI C f_T_15 d_T_fillOutcome_10 e_x1 ?_
    refine r_icmp_ge C 36 d_T_fillOutcome_13 (by decide) (fun c21 => ?_) (fun c21 => ?_)
    · rw [if_pos c21] at h
      refine r_aload_n (x := (some v1)) C d_T_fillOutcome_36 rfl rfl ?_
      refine r_lload_n (x := v2) C d_T_fillOutcome_37 rfl rfl ?_
      replace h := g_ob h; obtain ⟨V2, e_V2, h⟩ := h
      refine r_put C f_T_90 d_T_fillOutcome_38 e_V2 (g_nJ v2).1 (g_nJ v2).2 ?_
      refine r_aload_n (x := (some v1)) C d_T_fillOutcome_41 rfl rfl ?_
      refine r_lload_n (x := v2) C d_T_fillOutcome_42 rfl rfl ?_
      refine r_aload_n (x := (some v0)) C d_T_fillOutcome_43 rfl rfl ?_
      replace h := g_ob h; obtain ⟨x3, e_x3, h⟩ := h
      refine r_getJ C f_T_44 d_T_fillOutcome_44 e_x3 ?_
      refine r_land C d_T_fillOutcome_47 ?_
      replace h := g_ob h; obtain ⟨V4, e_V4, h⟩ := h
      refine r_put C f_T_93 d_T_fillOutcome_48 e_V4 (g_nJ (v2 &&& x3)).1 (g_nJ (v2 &&& x3)).2 ?_
      refine r_aload_n (x := (some v1)) C d_T_fillOutcome_51 rfl rfl ?_
      refine r_aload_n (x := (some v1)) C d_T_fillOutcome_52 rfl rfl ?_
      refine r_aload_n (x := (some v0)) C d_T_fillOutcome_53 rfl rfl ?_
      replace h := g_ob h; obtain ⟨x5, e_x5, h⟩ := h
      refine r_getI C f_T_15 d_T_fillOutcome_54 e_x5 ?_
      replace h := g_ob h; obtain ⟨n17, e_n17, h⟩ := h
      replace h := g_o2 h; obtain ⟨r6, V7, e_r6, h⟩ := h
      refine r_callV (As := [tI x5]) C k_T_96 w_61 w_62 w_58 ⟨_, _, rfl⟩ (c_N_firstMissing l E base base v1 x5 L V4 e_r6) d_T_fillOutcome_57 e_n17 rfl ⟨Nat.le_of_ble_eq_true rfl, Nat.le_of_ble_eq_true rfl⟩ (Nat.le_of_ble_eq_true rfl) (Nat.le_of_ble_eq_true rfl) (Nat.le_of_ble_eq_true rfl) rfl ?_
      replace h := g_ob h; obtain ⟨V8, e_V8, h⟩ := h
      refine r_put C f_T_100 d_T_fillOutcome_60 e_V8 (g_nI r6).1 (g_nI r6).2 ?_
      refine r_aload_n (x := (some v1)) C d_T_fillOutcome_63 rfl rfl ?_
      replace h := g_ob h; obtain ⟨x9, e_x9, h⟩ := h
      refine r_getI C f_T_100 d_T_fillOutcome_64 e_x9 ?_
      refine r_iconst C (-1 : Int32) d_T_fillOutcome_67 (by decide) ?_
      refine r_icmp_ne C 97 d_T_fillOutcome_68 (by decide) (fun c16 => ?_) (fun c16 => ?_)
      · rw [if_neg c16] at h
        cases h
        exact r_vret C hr d_T_fillOutcome_97
      · rw [if_pos c16] at h
        refine r_aload_n (x := (some v0)) C d_T_fillOutcome_71 rfl rfl ?_
        replace h := g_ob h; obtain ⟨x10, e_x10, h⟩ := h
        refine r_getJ C f_T_48 d_T_fillOutcome_72 e_x10 ?_
        refine r_lconst C (0 : Int64) d_T_fillOutcome_75 (by decide) ?_
        refine r_lcmp C d_T_fillOutcome_76 ?_
        refine r_if_eq C 97 d_T_fillOutcome_77 (by decide) (fun c15 => ?_) (fun c15 => ?_)
        · rw [if_pos c15] at h
          cases h
          exact r_vret C hr d_T_fillOutcome_97
        · rw [if_neg c15] at h
          refine r_lload_n (x := v2) C d_T_fillOutcome_80 rfl rfl ?_
          refine r_aload_n (x := (some v0)) C d_T_fillOutcome_81 rfl rfl ?_
          replace h := g_ob h; obtain ⟨x11, e_x11, h⟩ := h
          refine r_getJ C f_T_48 d_T_fillOutcome_82 e_x11 ?_
          by_cases c14 : x11 = 0
          · rw [if_pos c14] at h; cases h
          rw [if_neg c14] at h
          refine r_lrem C d_T_fillOutcome_85 c14 ?_
          refine r_lconst C (0 : Int64) d_T_fillOutcome_86 (by decide) ?_
          refine r_lcmp C d_T_fillOutcome_87 ?_
          refine r_if_ne C 97 d_T_fillOutcome_88 (by decide) (fun c13 => ?_) (fun c13 => ?_)
          · rw [if_neg c13] at h
            cases h
            exact r_vret C hr d_T_fillOutcome_97
          · rw [if_pos c13] at h
            refine r_aload_n (x := (some v1)) C d_T_fillOutcome_91 rfl rfl ?_
            refine r_bipush C (6 : Int32) d_T_fillOutcome_92 (by decide) ?_
            replace h := g_ob h; obtain ⟨V12, e_V12, h⟩ := h
            refine r_put C f_T_100 d_T_fillOutcome_94 e_V12 (g_nI (6 : Int32)).1 (g_nI (6 : Int32)).2 ?_
            cases h
            exact r_vret C hr d_T_fillOutcome_97
    · rw [if_neg c21] at h
      refine r_ldc2 C (31 : Int64) d_T_fillOutcome_16 w_63 ?_
      refine r_lload_n (x := v2) C d_T_fillOutcome_19 rfl rfl ?_
      refine r_lmul C d_T_fillOutcome_20 ?_
      refine r_aload_n (x := (some v1)) C d_T_fillOutcome_21 rfl rfl ?_
      replace h := g_ob h; obtain ⟨x18, e_x18, h⟩ := h
      refine r_getR C f_T_86 d_T_fillOutcome_22 e_x18 ?_
      refine r_iload (x := v4) C d_T_fillOutcome_25 rfl ?_
      replace h := g_ob h; obtain ⟨a19, rfl, h⟩ := h
      replace h := g_ob h; obtain ⟨x20, e_x20, h⟩ := h
      refine r_lald C ak_101 d_T_fillOutcome_27 e_x20 ?_
      refine r_ladd C d_T_fillOutcome_28 ?_
      refine r_lstore_n (lv' := [(2, tJ (((31 : Int64) * v2) + x20)), (0, tR (some v0)), (1, tR (some v1)), (4, tI v4)]) C d_T_fillOutcome_29 rfl (by decide) rfl ?_
      refine r_iinc (x := v4) (v := v4 + (1 : Int32)) (lv' := [(4, tI (v4 + (1 : Int32))), (2, tJ (((31 : Int64) * v2) + x20)), (0, tR (some v0)), (1, tR (some v1))]) C d_T_fillOutcome_30 rfl rfl (by decide) rfl ?_
      refine r_goto C 7 d_T_fillOutcome_33 (by decide) ?_
      refine r_lv [2, 3, 1, 0] rfl ?_
      exact ih v0 v1 (((31 : Int64) * v2) + x20) (v4 + (1 : Int32)) V h
set_option maxHeartbeats 4000000 in
set_option maxRecDepth 100000 in
theorem t_T_fillOutcome_0 (C : gC E base p s m args meth c b_T_fillOutcome R_T 5) (hr : meth.sig.returnType = none) {z : Unit × gV} (h0 : Nat) (p1 : Nat) (V : gV) (h : D_T_fillOutcome h0 p1 L V = some z) : vW E base base 5 p l e rm_T_fillOutcome s m args below meth c 0 0 (g_MQ E base base below args s 0 0 L z.2 none) L V 0 [(0, tR (some h0)), (1, tR (some p1))] [] := by
  unfold D_T_fillOutcome at h
  refine r_ldc2 C (17 : Int64) d_T_fillOutcome_0 w_55 ?_
  refine r_lstore_n (lv' := [(2, tJ (17 : Int64)), (0, tR (some h0)), (1, tR (some p1))]) C d_T_fillOutcome_3 rfl (by decide) rfl ?_
  refine r_iconst C (0 : Int32) d_T_fillOutcome_4 (by decide) ?_
  refine r_istore (lv' := [(4, tI (0 : Int32)), (2, tJ (17 : Int64)), (0, tR (some h0)), (1, tR (some p1))]) C d_T_fillOutcome_5 (by decide) rfl ?_
  refine r_lv [2, 3, 1, 0] rfl ?_
  exact t_T_fillOutcome_7 C hr  1000 h0 p1 (17 : Int64) (0 : Int32) V h
theorem c_T_fillOutcome (l : Launch) (E : gE) (base : Nat) (h0 : Nat) (p1 : Nat) (L : gL) (V : gV) {z : Unit × gV} (h : D_T_fillOutcome h0 p1 L V = some z) : g_Met l E base base y_T_fillOutcome b_T_fillOutcome 5 none rm_T_fillOutcome [tR (some h0), tR (some p1)] L V none L z.2 :=
  r_enter R_T (by decide) rfl [tR (some h0), tR (some p1)] [(0, tR (some h0)), (1, tR (some p1))] rfl (Nat.le_of_ble_eq_true rfl) (fun p e s m args below meth c C hr hnm => t_T_fillOutcome_0 C hr h0 p1 V h)
def rm_T_redo : Room := { frames := 2, cells := 0, slots := 0, locals := 46 }
def D_T_redo_61 (L : gL) (v0 : Nat) (v2 : Nat) (V : gV) : Option (Unit × gV) :=
  Option.bind (g_wr L V 2 v0 6 (tI (0 : Int32))) fun V1 =>
    Option.bind ((L).2 0 v2) fun n7 =>
    g_b2 (D_N_hasFailed v2 L V1) fun r2 V3 =>
    (if r2 = 0 then
    Option.bind (g_wr L V3 2 v0 9 (tI (2 : Int32))) fun V4 =>
    some ((), V4)
  else
    Option.bind (g_wr L V3 2 v0 9 (tI (3 : Int32))) fun V5 =>
    some ((), V5))
def D_T_redo (h0 : Nat) (p1 : Int32) (L : gL) (V : gV) : Option (Unit × gV) :=
  Option.bind ((L).2 2 h0) fun n28 =>
    g_b2 (D_T_spareEntry h0 L V) fun r1 V2 =>
    Option.bind r1 fun a3 =>
    Option.bind ((L).2 2 h0) fun n27 =>
    g_b2 (D_T_fillOutcome h0 a3 L V2) fun r4 V5 =>
    (if p1 = (-1 : Int32) then
    Option.bind ((L).2 2 h0) fun n25 =>
    g_b2 (D_T_bringFirst h0 (3 : Int32) L V5) fun r21 V22 =>
    Option.bind (g_rI L V22 2 h0 5) fun x23 =>
    Option.bind (g_wr L V22 2 h0 5 (tI (if (3 : Int32) < (x23 + (1 : Int32)) then (3 : Int32) else x23 + (1 : Int32)))) fun V24 =>
    D_T_redo_61 L  h0 a3 V24
  else
    Option.bind (g_rR L V5 2 h0 4) fun x6 =>
    Option.bind (g_rR L V5 2 h0 4) fun x7 =>
    Option.bind x7 fun a8 =>
    Option.bind (g_aR L V5 105 a8 p1) fun x9 =>
    Option.bind x6 fun a10 =>
    Option.bind x9 fun a11 =>
    Option.bind ((L).2 0 a11) fun n20 =>
    Option.bind (g_wa L V5 105 a10 (3 : Int32) (tR (some a11))) fun V12 =>
    Option.bind (g_rR L V12 2 h0 4) fun x13 =>
    Option.bind x13 fun a14 =>
    Option.bind ((L).2 0 a3) fun n19 =>
    Option.bind (g_wa L V12 105 a14 p1 (tR (some a3))) fun V15 =>
    Option.bind ((L).2 2 h0) fun n18 =>
    g_b2 (D_T_bringFirst h0 p1 L V15) fun r16 V17 =>
    D_T_redo_61 L  h0 a3 V17)
set_option maxHeartbeats 4000000 in
set_option maxRecDepth 100000 in
theorem t_T_redo_61 (C : gC E base p s m args meth c b_T_redo R_T 3) (hr : meth.sig.returnType = none) {z : Unit × gV} (v0 : Nat) (v2 : Nat) (V : gV) (h : D_T_redo_61 L  v0 v2 V = some z) : vW E base base 3 p l e rm_T_redo s m args below meth c 0 0 (g_MQ E base base below args s 0 0 L z.2 none) L V 61 [(0, tR (some v0)), (2, tR (some v2))] [] := by
  unfold D_T_redo_61 at h
  refine r_aload_n (x := (some v0)) C d_T_redo_61 rfl rfl ?_
  refine r_iconst C (0 : Int32) d_T_redo_62 (by decide) ?_
  replace h := g_ob h; obtain ⟨V1, e_V1, h⟩ := h
  refine r_put C f_T_28 d_T_redo_63 e_V1 (g_nZ (x := (0 : Int32)) (Or.inl rfl)).1 (g_nZ (x := (0 : Int32)) (Or.inl rfl)).2 ?_
  refine r_aload_n (x := (some v0)) C d_T_redo_66 rfl rfl ?_
  refine r_aload_n (x := (some v2)) C d_T_redo_67 rfl rfl ?_
  replace h := g_ob h; obtain ⟨n7, e_n7, h⟩ := h
  replace h := g_o2 h; obtain ⟨r2, V3, e_r2, h⟩ := h
  refine r_callV (As := []) C k_T_64 w_49 w_50 w_47 ⟨_, _, rfl⟩ (c_N_hasFailed l E base base v2 L V1 e_r2) d_T_redo_68 e_n7 rfl ⟨Nat.le_of_ble_eq_true rfl, Nat.le_of_ble_eq_true rfl⟩ (Nat.le_of_ble_eq_true rfl) (Nat.le_of_ble_eq_true rfl) (Nat.le_of_ble_eq_true rfl) rfl ?_
  refine r_if_eq C 78 d_T_redo_71 (by decide) (fun c6 => ?_) (fun c6 => ?_)
  · rw [if_pos c6] at h
    refine r_iconst C (2 : Int32) d_T_redo_78 (by decide) ?_
    replace h := g_ob h; obtain ⟨V4, e_V4, h⟩ := h
    refine r_put C f_T_38 d_T_redo_79 e_V4 (g_nI (2 : Int32)).1 (g_nI (2 : Int32)).2 ?_
    cases h
    exact r_vret C hr d_T_redo_82
  · rw [if_neg c6] at h
    refine r_iconst C (3 : Int32) d_T_redo_74 (by decide) ?_
    refine r_goto C 79 d_T_redo_75 (by decide) ?_
    replace h := g_ob h; obtain ⟨V5, e_V5, h⟩ := h
    refine r_put C f_T_38 d_T_redo_79 e_V5 (g_nI (3 : Int32)).1 (g_nI (3 : Int32)).2 ?_
    cases h
    exact r_vret C hr d_T_redo_82
set_option maxHeartbeats 4000000 in
set_option maxRecDepth 100000 in
theorem t_T_redo_0 (C : gC E base p s m args meth c b_T_redo R_T 3) (hr : meth.sig.returnType = none) {z : Unit × gV} (h0 : Nat) (p1 : Int32) (V : gV) (h : D_T_redo h0 p1 L V = some z) : vW E base base 3 p l e rm_T_redo s m args below meth c 0 0 (g_MQ E base base below args s 0 0 L z.2 none) L V 0 [(0, tR (some h0)), (1, tI p1)] [] := by
  unfold D_T_redo at h
  refine r_aload_n (x := (some h0)) C d_T_redo_0 rfl rfl ?_
  replace h := g_ob h; obtain ⟨n28, e_n28, h⟩ := h
  replace h := g_o2 h; obtain ⟨r1, V2, e_r1, h⟩ := h
  refine r_callV (As := []) C k_T_68 w_73 w_74 w_53 ⟨_, _, rfl⟩ (c_T_spareEntry l E base base h0 L V e_r1) d_T_redo_1 e_n28 rfl ⟨Nat.le_of_ble_eq_true rfl, Nat.le_of_ble_eq_true rfl⟩ (Nat.le_of_ble_eq_true rfl) (Nat.le_of_ble_eq_true rfl) (Nat.le_of_ble_eq_true rfl) rfl ?_
  refine r_astore_n (lv' := [(2, tR r1), (0, tR (some h0)), (1, tI p1)]) C d_T_redo_4 rfl (by decide) rfl ?_
  refine r_aload_n (x := (some h0)) C d_T_redo_5 rfl rfl ?_
  refine r_aload_n (x := r1) C d_T_redo_6 rfl rfl ?_
  replace h := g_ob h; obtain ⟨a3, rfl, h⟩ := h
  replace h := g_ob h; obtain ⟨n27, e_n27, h⟩ := h
  replace h := g_o2 h; obtain ⟨r4, V5, e_r4, h⟩ := h
  refine r_callV (As := [tR (some a3)]) C k_T_72 w_71 w_72 w_65 ⟨_, _, rfl⟩ (c_T_fillOutcome l E base h0 a3 L V2 e_r4) d_T_redo_7 e_n27 rfl ⟨Nat.le_of_ble_eq_true rfl, Nat.le_of_ble_eq_true rfl⟩ (Nat.le_of_ble_eq_true rfl) (Nat.le_of_ble_eq_true rfl) (Nat.le_of_ble_eq_true rfl) rfl ?_
  refine r_iload_n (x := p1) C d_T_redo_10 rfl rfl ?_
  refine r_iconst C (-1 : Int32) d_T_redo_11 (by decide) ?_
  refine r_icmp_ne C 37 d_T_redo_12 (by decide) (fun c26 => ?_) (fun c26 => ?_)
  · rw [if_neg c26] at h
    refine r_aload_n (x := (some h0)) C d_T_redo_37 rfl rfl ?_
    replace h := g_ob h; obtain ⟨x6, e_x6, h⟩ := h
    refine r_getR C f_T_21 d_T_redo_38 e_x6 ?_
    refine r_iconst C (3 : Int32) d_T_redo_41 (by decide) ?_
    refine r_aload_n (x := (some h0)) C d_T_redo_42 rfl rfl ?_
    replace h := g_ob h; obtain ⟨x7, e_x7, h⟩ := h
    refine r_getR C f_T_21 d_T_redo_43 e_x7 ?_
    refine r_iload_n (x := p1) C d_T_redo_46 rfl rfl ?_
    replace h := g_ob h; obtain ⟨a8, rfl, h⟩ := h
    replace h := g_ob h; obtain ⟨x9, e_x9, h⟩ := h
    refine r_aald C ak_105 rfl d_T_redo_47 e_x9 ?_
    replace h := g_ob h; obtain ⟨a10, rfl, h⟩ := h
    replace h := g_ob h; obtain ⟨a11, rfl, h⟩ := h
    replace h := g_ob h; obtain ⟨n20, e_n20, h⟩ := h
    replace h := g_ob h; obtain ⟨V12, e_V12, h⟩ := h
    refine r_aast C ak_105 ⟨_, _, rfl⟩ d_T_redo_48 e_n20 e_V12 ?_
    refine r_aload_n (x := (some h0)) C d_T_redo_49 rfl rfl ?_
    replace h := g_ob h; obtain ⟨x13, e_x13, h⟩ := h
    refine r_getR C f_T_21 d_T_redo_50 e_x13 ?_
    refine r_iload_n (x := p1) C d_T_redo_53 rfl rfl ?_
    refine r_aload_n (x := (some a3)) C d_T_redo_54 rfl rfl ?_
    replace h := g_ob h; obtain ⟨a14, rfl, h⟩ := h
    replace h := g_ob h; obtain ⟨n19, e_n19, h⟩ := h
    replace h := g_ob h; obtain ⟨V15, e_V15, h⟩ := h
    refine r_aast C ak_105 ⟨_, _, rfl⟩ d_T_redo_55 e_n19 e_V15 ?_
    refine r_aload_n (x := (some h0)) C d_T_redo_56 rfl rfl ?_
    refine r_iload_n (x := p1) C d_T_redo_57 rfl rfl ?_
    replace h := g_ob h; obtain ⟨n18, e_n18, h⟩ := h
    replace h := g_o2 h; obtain ⟨r16, V17, e_r16, h⟩ := h
    refine r_callV (As := [tI p1]) C k_T_60 w_51 w_52 w_45 ⟨_, _, rfl⟩ (c_T_bringFirst l E base h0 p1 L V15 e_r16) d_T_redo_58 e_n18 rfl ⟨Nat.le_of_ble_eq_true rfl, Nat.le_of_ble_eq_true rfl⟩ (Nat.le_of_ble_eq_true rfl) (Nat.le_of_ble_eq_true rfl) (Nat.le_of_ble_eq_true rfl) rfl ?_
    refine r_lv [1, 0] rfl ?_
    exact t_T_redo_61 C hr  h0 a3 V17 h
  · rw [if_pos c26] at h
    refine r_aload_n (x := (some h0)) C d_T_redo_15 rfl rfl ?_
    refine r_iconst C (3 : Int32) d_T_redo_16 (by decide) ?_
    replace h := g_ob h; obtain ⟨n25, e_n25, h⟩ := h
    replace h := g_o2 h; obtain ⟨r21, V22, e_r21, h⟩ := h
    refine r_callV (As := [tI (3 : Int32)]) C k_T_60 w_51 w_52 w_45 ⟨_, _, rfl⟩ (c_T_bringFirst l E base h0 (3 : Int32) L V5 e_r21) d_T_redo_17 e_n25 rfl ⟨Nat.le_of_ble_eq_true rfl, Nat.le_of_ble_eq_true rfl⟩ (Nat.le_of_ble_eq_true rfl) (Nat.le_of_ble_eq_true rfl) (Nat.le_of_ble_eq_true rfl) rfl ?_
    refine r_aload_n (x := (some h0)) C d_T_redo_20 rfl rfl ?_
    refine r_aload_n (x := (some h0)) C d_T_redo_21 rfl rfl ?_
    replace h := g_ob h; obtain ⟨x23, e_x23, h⟩ := h
    refine r_getI C f_T_25 d_T_redo_22 e_x23 ?_
    refine r_iconst C (1 : Int32) d_T_redo_25 (by decide) ?_
    refine r_iadd C d_T_redo_26 ?_
    refine r_iconst C (3 : Int32) d_T_redo_27 (by decide) ?_
    refine r_mmin C w_67 w_68 w_69 w_70 d_T_redo_28 (Nat.le_of_ble_eq_true rfl) (Nat.le_of_ble_eq_true rfl) (Nat.le_of_ble_eq_true rfl) (Nat.le_of_ble_eq_true rfl) ?_
    replace h := g_ob h; obtain ⟨V24, e_V24, h⟩ := h
    refine r_put C f_T_25 d_T_redo_31 e_V24 (g_nI (if (3 : Int32) < (x23 + (1 : Int32)) then (3 : Int32) else x23 + (1 : Int32))).1 (g_nI (if (3 : Int32) < (x23 + (1 : Int32)) then (3 : Int32) else x23 + (1 : Int32))).2 ?_
    refine r_goto C 61 d_T_redo_34 (by decide) ?_
    refine r_lv [1, 0] rfl ?_
    exact t_T_redo_61 C hr  h0 a3 V24 h
theorem c_T_redo (l : Launch) (E : gE) (base : Nat) (h0 : Nat) (p1 : Int32) (L : gL) (V : gV) {z : Unit × gV} (h : D_T_redo h0 p1 L V = some z) : g_Met l E base base y_T_redo b_T_redo 3 none rm_T_redo [tR (some h0), tI p1] L V none L z.2 :=
  r_enter R_T (by decide) rfl [tR (some h0), tI p1] [(0, tR (some h0)), (1, tI p1)] rfl (Nat.le_of_ble_eq_true rfl) (fun p e s m args below meth c C hr hnm => t_T_redo_0 C hr h0 p1 V h)
end GC1
end
section
/-! METHODS (by program): GC2 -/
section GC2
variable {E : gE} {base bA : Nat} {p : Program} {l : Launch} {e : Env} {s : State} {m : MethodId} {args : Array Value} {below : List Frame} {meth : Method} {c : Code} {L : gL}
def rm_A_init : Room := { frames := 1, cells := 4, slots := 41, locals := 20 }
def D_A_init (h0 : Nat) (L : gL) (V : gV) : Option (Unit × gL × gV) :=
  g_bn (g_new L V 103 16 (fun _ => tR none)) fun L1 V2 =>
    Option.bind (g_wr L1 V2 3 h0 0 (tR (some L.1))) fun V3 =>
    Option.bind (g_wr L1 V3 3 h0 1 (tI (0 : Int32))) fun V4 =>
    g_bn (g_new L1 V4 104 16 (fun _ => tR none)) fun L5 V6 =>
    Option.bind (g_wr L5 V6 3 h0 2 (tR (some L1.1))) fun V7 =>
    Option.bind (g_wr L5 V7 3 h0 3 (tI (0 : Int32))) fun V8 =>
    g_bn (g_new L5 V8 100 5 (fun _ => tI 0)) fun L9 V10 =>
    Option.bind (g_wr L9 V10 3 h0 4 (tR (some L5.1))) fun V11 =>
    g_bn (g_new L9 V11 100 4 (fun _ => tI 0)) fun L12 V13 =>
    Option.bind (g_wr L12 V13 3 h0 5 (tR (some L9.1))) fun V14 =>
    Option.bind (g_wr L12 V14 3 h0 6 (tI (0 : Int32))) fun V15 =>
    some ((), L12, V15)
set_option maxHeartbeats 4000000 in
set_option maxRecDepth 100000 in
theorem t_A_init_0 (C : gC E base p s m args meth c b_A_init R_A 1) (hr : meth.sig.returnType = none) (hn : meth.name = "<init>") {z : Unit × gL × gV} (h0 : Nat) (V : gV) (h : D_A_init h0 L V = some z) : vW E base base 1 p l e rm_A_init s m args below meth c 0 0 (g_MQ E base base below args s 4 41 z.2.1 z.2.2 none) L V 0 [(0, tR (some h0))] [] := by
  unfold D_A_init at h
  refine r_aload_n (x := (some h0)) C d_A_init_0 rfl rfl ?_
  refine r_objInit C w_75 w_1 w_2 d_A_init_1 (Nat.le_of_ble_eq_true rfl) (Nat.le_of_ble_eq_true rfl) ?_
  refine r_aload_n (x := (some h0)) C d_A_init_4 rfl rfl ?_
  refine r_bipush C (16 : Int32) d_A_init_5 (by decide) ?_
  replace h := g_obn h; obtain ⟨L1, V2, e_L1, h⟩ := h
  refine r_anew C ak_103 w_76 (by decide) d_A_init_7 (by decide) (by decide) (by decide) e_L1 (Nat.le_of_ble_eq_true rfl) (Nat.le_of_ble_eq_true rfl) ?_
  replace h := g_ob h; obtain ⟨V3, e_V3, h⟩ := h
  refine r_putF C f_A_11 d_A_init_10 hn ⟨_, rfl, rfl⟩ e_V3 (g_nA (some L.1)).1 (g_nA (some L.1)).2 ?_
  refine r_aload_n (x := (some h0)) C d_A_init_13 rfl rfl ?_
  refine r_iconst C (0 : Int32) d_A_init_14 (by decide) ?_
  replace h := g_ob h; obtain ⟨V4, e_V4, h⟩ := h
  refine r_put C f_A_15 d_A_init_15 e_V4 (g_nI (0 : Int32)).1 (g_nI (0 : Int32)).2 ?_
  refine r_aload_n (x := (some h0)) C d_A_init_18 rfl rfl ?_
  refine r_bipush C (16 : Int32) d_A_init_19 (by decide) ?_
  replace h := g_obn h; obtain ⟨L5, V6, e_L5, h⟩ := h
  refine r_anew C ak_104 w_79 (by decide) d_A_init_21 (by decide) (by decide) (by decide) e_L5 (Nat.le_of_ble_eq_true rfl) (Nat.le_of_ble_eq_true rfl) ?_
  replace h := g_ob h; obtain ⟨V7, e_V7, h⟩ := h
  refine r_putF C f_A_21 d_A_init_24 hn ⟨_, rfl, rfl⟩ e_V7 (g_nA (some L1.1)).1 (g_nA (some L1.1)).2 ?_
  refine r_aload_n (x := (some h0)) C d_A_init_27 rfl rfl ?_
  refine r_iconst C (0 : Int32) d_A_init_28 (by decide) ?_
  replace h := g_ob h; obtain ⟨V8, e_V8, h⟩ := h
  refine r_put C f_A_25 d_A_init_29 e_V8 (g_nI (0 : Int32)).1 (g_nI (0 : Int32)).2 ?_
  refine r_aload_n (x := (some h0)) C d_A_init_32 rfl rfl ?_
  refine r_iconst C (5 : Int32) d_A_init_33 (by decide) ?_
  replace h := g_obn h; obtain ⟨L9, V10, e_L9, h⟩ := h
  refine r_newa (at_ := .int) (ty := .int) C rfl ak_100 (fun _ q => by cases q) w_20 d_A_init_34 (by decide) (by decide) (by decide) rfl e_L9 (Nat.le_of_ble_eq_true rfl) (Nat.le_of_ble_eq_true rfl) ?_
  replace h := g_ob h; obtain ⟨V11, e_V11, h⟩ := h
  refine r_putF C f_A_28 d_A_init_36 hn ⟨_, rfl, rfl⟩ e_V11 (g_nA (some L5.1)).1 (g_nA (some L5.1)).2 ?_
  refine r_aload_n (x := (some h0)) C d_A_init_39 rfl rfl ?_
  refine r_iconst C (4 : Int32) d_A_init_40 (by decide) ?_
  replace h := g_obn h; obtain ⟨L12, V13, e_L12, h⟩ := h
  refine r_newa (at_ := .int) (ty := .int) C rfl ak_100 (fun _ q => by cases q) w_20 d_A_init_41 (by decide) (by decide) (by decide) rfl e_L12 (Nat.le_of_ble_eq_true rfl) (Nat.le_of_ble_eq_true rfl) ?_
  replace h := g_ob h; obtain ⟨V14, e_V14, h⟩ := h
  refine r_putF C f_A_32 d_A_init_43 hn ⟨_, rfl, rfl⟩ e_V14 (g_nA (some L9.1)).1 (g_nA (some L9.1)).2 ?_
  refine r_aload_n (x := (some h0)) C d_A_init_46 rfl rfl ?_
  refine r_iconst C (0 : Int32) d_A_init_47 (by decide) ?_
  replace h := g_ob h; obtain ⟨V15, e_V15, h⟩ := h
  refine r_put C f_A_35 d_A_init_48 e_V15 (g_nI (0 : Int32)).1 (g_nI (0 : Int32)).2 ?_
  cases h
  refine r_wid (k := 4) (n := 41) (Nat.le_of_ble_eq_true rfl) (Nat.le_of_ble_eq_true rfl) ?_
  exact r_vret C hr d_A_init_51
theorem c_A_init (l : Launch) (E : gE) (base : Nat) (h0 : Nat) (L : gL) (V : gV) {z : Unit × gL × gV} (h : D_A_init h0 L V = some z) : g_Met l E base base y_A_init b_A_init 1 none rm_A_init [tR (some h0)] L V none z.2.1 z.2.2 :=
  r_enter R_A (by decide) rfl [tR (some h0)] [(0, tR (some h0))] rfl (Nat.le_of_ble_eq_true rfl) (fun p e s m args below meth c C hr hnm => t_A_init_0 C hr hnm h0 V h)
def rm_A_file : Room := { frames := 2, cells := 1, slots := 3, locals := 42 }
def D_A_file (h0 : Nat) (p1 : Int64) (L : gL) (V : gV) : Option (Int32 × gL × gV) :=
  Option.bind (g_rI L V 3 h0 1) fun x1 =>
    (if x1 < (16 : Int32) then
    Option.bind (g_rR L V 3 h0 0) fun x2 =>
    Option.bind (g_rI L V 3 h0 1) fun x3 =>
    g_bn (g_new L V 1 3 df_S) fun L4 V5 =>
    g_b2 (D_S_init L.1 p1 L4 V5) fun r6 V7 =>
    Option.bind x2 fun a8 =>
    Option.bind ((L4).2 1 L.1) fun n13 =>
    Option.bind (g_wa L4 V7 103 a8 x3 (tR (some L.1))) fun V9 =>
    Option.bind (g_rI L4 V9 3 h0 1) fun x10 =>
    Option.bind (g_wr L4 V9 3 h0 1 (tI (x10 + (1 : Int32)))) fun V11 =>
    Option.bind (g_rI L4 V11 3 h0 1) fun x12 =>
    some (x12 - (1 : Int32), L4, V11)
  else
    some ((-1 : Int32), L, V))
set_option maxHeartbeats 4000000 in
set_option maxRecDepth 100000 in
theorem t_A_file_0 (C : gC E base p s m args meth c b_A_file R_A 3) (hr : meth.sig.returnType = (some .int)) {z : Int32 × gL × gV} (h0 : Nat) (p1 : Int64) (V : gV) (h : D_A_file h0 p1 L V = some z) : vW E base base 3 p l e rm_A_file s m args below meth c 0 0 (g_MQ E base base below args s 1 3 z.2.1 z.2.2 (some (tI z.1))) L V 0 [(0, tR (some h0)), (1, tJ p1)] [] := by
  unfold D_A_file at h
  refine r_aload_n (x := (some h0)) C d_A_file_0 rfl rfl ?_
  replace h := g_ob h; obtain ⟨x1, e_x1, h⟩ := h
  refine r_getI C f_A_15 d_A_file_1 e_x1 ?_
  refine r_bipush C (16 : Int32) d_A_file_4 (by decide) ?_
  refine r_icmp_lt C 11 d_A_file_6 (by decide) (fun c14 => ?_) (fun c14 => ?_)
  · rw [if_pos c14] at h
    refine r_aload_n (x := (some h0)) C d_A_file_11 rfl rfl ?_
    replace h := g_ob h; obtain ⟨x2, e_x2, h⟩ := h
    refine r_getR C f_A_11 d_A_file_12 e_x2 ?_
    refine r_aload_n (x := (some h0)) C d_A_file_15 rfl rfl ?_
    replace h := g_ob h; obtain ⟨x3, e_x3, h⟩ := h
    refine r_getI C f_A_15 d_A_file_16 e_x3 ?_
    replace h := g_obn h; obtain ⟨L4, V5, e_L4, h⟩ := h
    refine r_new C n_A_9 d_A_file_19 e_L4 (Nat.le_of_ble_eq_true rfl) (Nat.le_of_ble_eq_true rfl) ?_
    refine r_dup C d_A_file_22 rfl ?_
    refine r_lload_n (x := p1) C d_A_file_23 rfl rfl ?_
    replace h := g_o2 h; obtain ⟨r6, V7, e_r6, h⟩ := h
    refine r_callI (As := [tJ p1]) C k_A_38 rfl w_89 w_87 (c_S_init l E base L.1 p1 L4 V5 e_r6) d_A_file_24 rfl ⟨Nat.le_of_ble_eq_true rfl, Nat.le_of_ble_eq_true rfl⟩ (Nat.le_of_ble_eq_true rfl) (Nat.le_of_ble_eq_true rfl) (Nat.le_of_ble_eq_true rfl) rfl ?_
    replace h := g_ob h; obtain ⟨a8, rfl, h⟩ := h
    replace h := g_ob h; obtain ⟨n13, e_n13, h⟩ := h
    replace h := g_ob h; obtain ⟨V9, e_V9, h⟩ := h
    refine r_aast C ak_103 ⟨_, _, rfl⟩ d_A_file_27 e_n13 e_V9 ?_
    refine r_aload_n (x := (some h0)) C d_A_file_28 rfl rfl ?_
    refine r_dup C d_A_file_29 rfl ?_
    replace h := g_ob h; obtain ⟨x10, e_x10, h⟩ := h
    refine r_getI C f_A_15 d_A_file_30 e_x10 ?_
    refine r_iconst C (1 : Int32) d_A_file_33 (by decide) ?_
    refine r_iadd C d_A_file_34 ?_
    replace h := g_ob h; obtain ⟨V11, e_V11, h⟩ := h
    refine r_put C f_A_15 d_A_file_35 e_V11 (g_nI (x10 + (1 : Int32))).1 (g_nI (x10 + (1 : Int32))).2 ?_
    refine r_aload_n (x := (some h0)) C d_A_file_38 rfl rfl ?_
    replace h := g_ob h; obtain ⟨x12, e_x12, h⟩ := h
    refine r_getI C f_A_15 d_A_file_39 e_x12 ?_
    refine r_iconst C (1 : Int32) d_A_file_42 (by decide) ?_
    refine r_isub C d_A_file_43 ?_
    cases h
    refine r_wid (k := 1) (n := 3) (Nat.le_of_ble_eq_true rfl) (Nat.le_of_ble_eq_true rfl) ?_
    exact r_iret C hr d_A_file_44
  · rw [if_neg c14] at h
    refine r_iconst C (-1 : Int32) d_A_file_9 (by decide) ?_
    cases h
    refine r_wid (k := 1) (n := 3) (Nat.le_of_ble_eq_true rfl) (Nat.le_of_ble_eq_true rfl) ?_
    exact r_iret C hr d_A_file_10
theorem c_A_file (l : Launch) (E : gE) (base : Nat) (h0 : Nat) (p1 : Int64) (L : gL) (V : gV) {z : Int32 × gL × gV} (h : D_A_file h0 p1 L V = some z) : g_Met l E base base y_A_file b_A_file 3 (some .int) rm_A_file [tR (some h0), tJ p1] L V (some (tI z.1)) z.2.1 z.2.2 :=
  r_enter R_A (by decide) rfl [tR (some h0), tJ p1] [(0, tR (some h0)), (1, tJ p1)] rfl (Nat.le_of_ble_eq_true rfl) (fun p e s m args below meth c C hr hnm => t_A_file_0 C hr h0 p1 V h)
def rm_A_sourceAt : Room := { frames := 0, cells := 0, slots := 0, locals := 0 }
def D_A_sourceAt (h0 : Nat) (p1 : Int32) (L : gL) (V : gV) : Option (Option Nat × gV) :=
  (if p1 < 0 then
    some (none, V)
  else
    Option.bind (g_rI L V 3 h0 1) fun x1 =>
    (if x1 ≤ p1 then
    some (none, V)
  else
    Option.bind (g_rR L V 3 h0 0) fun x2 =>
    Option.bind x2 fun a3 =>
    Option.bind (g_aR L V 103 a3 p1) fun x4 =>
    some (x4, V)))
set_option maxHeartbeats 4000000 in
set_option maxRecDepth 100000 in
theorem t_A_sourceAt_0 (C : gC E bA p s m args meth c b_A_sourceAt R_A 2) (hr : meth.sig.returnType = (some (.object "EarlyCut$Source"))) {z : Option Nat × gV} (h0 : Nat) (p1 : Int32) (V : gV) (h : D_A_sourceAt h0 p1 L V = some z) : vW E base bA 2 p l e rm_A_sourceAt s m args below meth c 0 0 (g_MQ E base bA below args s 0 0 L z.2 (some (tR z.1))) L V 0 [(0, tR (some h0)), (1, tI p1)] [] := by
  unfold D_A_sourceAt at h
  refine r_iload_n (x := p1) C d_A_sourceAt_0 rfl rfl ?_
  refine r_if_lt C 21 d_A_sourceAt_1 (by decide) (fun c6 => ?_) (fun c6 => ?_)
  · rw [if_pos c6] at h
    refine r_null C d_A_sourceAt_21 ?_
    cases h
    exact r_aret C hr d_A_sourceAt_22
  · rw [if_neg c6] at h
    refine r_iload_n (x := p1) C d_A_sourceAt_4 rfl rfl ?_
    refine r_aload_n (x := (some h0)) C d_A_sourceAt_5 rfl rfl ?_
    replace h := g_ob h; obtain ⟨x1, e_x1, h⟩ := h
    refine r_getI C f_A_15 d_A_sourceAt_6 e_x1 ?_
    refine r_icmp_ge C 21 d_A_sourceAt_9 (by decide) (fun c5 => ?_) (fun c5 => ?_)
    · rw [if_pos c5] at h
      refine r_null C d_A_sourceAt_21 ?_
      cases h
      exact r_aret C hr d_A_sourceAt_22
    · rw [if_neg c5] at h
      refine r_aload_n (x := (some h0)) C d_A_sourceAt_12 rfl rfl ?_
      replace h := g_ob h; obtain ⟨x2, e_x2, h⟩ := h
      refine r_getR C f_A_11 d_A_sourceAt_13 e_x2 ?_
      refine r_iload_n (x := p1) C d_A_sourceAt_16 rfl rfl ?_
      replace h := g_ob h; obtain ⟨a3, rfl, h⟩ := h
      replace h := g_ob h; obtain ⟨x4, e_x4, h⟩ := h
      refine r_aald C ak_103 rfl d_A_sourceAt_17 e_x4 ?_
      refine r_goto C 22 d_A_sourceAt_18 (by decide) ?_
      cases h
      exact r_aret C hr d_A_sourceAt_22
theorem c_A_sourceAt (l : Launch) (E : gE) (base bA : Nat) (h0 : Nat) (p1 : Int32) (L : gL) (V : gV) {z : Option Nat × gV} (h : D_A_sourceAt h0 p1 L V = some z) : g_Met l E base bA y_A_sourceAt b_A_sourceAt 2 (some (.object "EarlyCut$Source")) rm_A_sourceAt [tR (some h0), tI p1] L V (some (tR z.1)) L z.2 :=
  r_enter R_A (by decide) rfl [tR (some h0), tI p1] [(0, tR (some h0)), (1, tI p1)] rfl (Nat.le_of_ble_eq_true rfl) (fun p e s m args below meth c C hr hnm => t_A_sourceAt_0 C hr h0 p1 V h)
def rm_A_set : Room := { frames := 1, cells := 0, slots := 0, locals := 21 }
def D_A_set (h0 : Nat) (p1 : Int32) (p2 : Int32) (p3 : Int64) (L : gL) (V : gV) : Option (Int32 × gV) :=
  Option.bind ((L).2 3 h0) fun n9 =>
    g_b2 (D_A_sourceAt h0 p1 L V) fun r1 V2 =>
    (g_on r1
    (some ((0 : Int32), V2))
    (fun a3 =>
    Option.bind (g_bz p2) fun _ =>
    Option.bind (g_wr L V2 1 a3 0 (tI p2)) fun V4 =>
    (if p2 = 0 then
    Option.bind (g_wr L V4 1 a3 1 (tJ (0 : Int64))) fun V5 =>
    some ((1 : Int32), V5)
  else
    Option.bind (g_wr L V4 1 a3 1 (tJ p3)) fun V6 =>
    some ((1 : Int32), V6))))
set_option maxHeartbeats 4000000 in
set_option maxRecDepth 100000 in
theorem t_A_set_0 (C : gC E base p s m args meth c b_A_set R_A 6) (hr : meth.sig.returnType = (some .boolean)) {z : Int32 × gV} (h0 : Nat) (p1 : Int32) (p2 : Int32) (p3 : Int64) (V : gV) (h : D_A_set h0 p1 p2 p3 L V = some z) : vW E base base 6 p l e rm_A_set s m args below meth c 0 0 (g_MQ E base base below args s 0 0 L z.2 (some (tI z.1))) L V 0 [(0, tR (some h0)), (1, tI p1), (2, tI p2), (3, tJ p3)] [] := by
  unfold D_A_set at h
  refine r_aload_n (x := (some h0)) C d_A_set_0 rfl rfl ?_
  refine r_iload_n (x := p1) C d_A_set_1 rfl rfl ?_
  replace h := g_ob h; obtain ⟨n9, e_n9, h⟩ := h
  replace h := g_o2 h; obtain ⟨r1, V2, e_r1, h⟩ := h
  refine r_callV (As := [tI p1]) C k_A_41 w_95 w_96 w_90 ⟨_, _, rfl⟩ (c_A_sourceAt l E base base h0 p1 L V e_r1) d_A_set_2 e_n9 rfl ⟨Nat.le_of_ble_eq_true rfl, Nat.le_of_ble_eq_true rfl⟩ (Nat.le_of_ble_eq_true rfl) (Nat.le_of_ble_eq_true rfl) (Nat.le_of_ble_eq_true rfl) rfl ?_
  refine r_astore (lv' := [(5, tR r1), (0, tR (some h0)), (1, tI p1), (2, tI p2), (3, tJ p3)]) C d_A_set_5 (by decide) rfl ?_
  refine r_aload (x := r1) C d_A_set_7 rfl ?_
  replace h := g_oon h; rcases h with ⟨rfl, h⟩ | ⟨a3, rfl, h⟩
  · refine r_ifnonnull_f C d_A_set_9 ?_
    refine r_iconst C (0 : Int32) d_A_set_12 (by decide) ?_
    cases h
    exact r_zret C hr d_A_set_13 (Or.inl rfl)
  · refine r_ifnonnull_t C 14 d_A_set_9 (by decide) ?_
    refine r_aload (x := (some a3)) C d_A_set_14 rfl ?_
    refine r_iload_n (x := p2) C d_A_set_16 rfl rfl ?_
    replace h := g_ob h; obtain ⟨u8, e_u8, h⟩ := h
    replace h := g_ob h; obtain ⟨V4, e_V4, h⟩ := h
    refine r_put C f_A_45 d_A_set_17 e_V4 (g_nZ (x := p2) (g_bz_spec e_u8)).1 (g_nZ (x := p2) (g_bz_spec e_u8)).2 ?_
    refine r_aload (x := (some a3)) C d_A_set_20 rfl ?_
    refine r_iload_n (x := p2) C d_A_set_22 rfl rfl ?_
    refine r_if_eq C 30 d_A_set_23 (by decide) (fun c7 => ?_) (fun c7 => ?_)
    · rw [if_pos c7] at h
      refine r_lconst C (0 : Int64) d_A_set_30 (by decide) ?_
      replace h := g_ob h; obtain ⟨V5, e_V5, h⟩ := h
      refine r_put C f_A_49 d_A_set_31 e_V5 (g_nJ (0 : Int64)).1 (g_nJ (0 : Int64)).2 ?_
      refine r_iconst C (1 : Int32) d_A_set_34 (by decide) ?_
      cases h
      exact r_zret C hr d_A_set_35 (Or.inr rfl)
    · rw [if_neg c7] at h
      refine r_lload_n (x := p3) C d_A_set_26 rfl rfl ?_
      refine r_goto C 31 d_A_set_27 (by decide) ?_
      replace h := g_ob h; obtain ⟨V6, e_V6, h⟩ := h
      refine r_put C f_A_49 d_A_set_31 e_V6 (g_nJ p3).1 (g_nJ p3).2 ?_
      refine r_iconst C (1 : Int32) d_A_set_34 (by decide) ?_
      cases h
      exact r_zret C hr d_A_set_35 (Or.inr rfl)
theorem c_A_set (l : Launch) (E : gE) (base : Nat) (h0 : Nat) (p1 : Int32) (p2 : Int32) (p3 : Int64) (L : gL) (V : gV) {z : Int32 × gV} (h : D_A_set h0 p1 p2 p3 L V = some z) : g_Met l E base base y_A_set b_A_set 6 (some .boolean) rm_A_set [tR (some h0), tI p1, tI p2, tJ p3] L V (some (tI z.1)) L z.2 :=
  r_enter R_A (by decide) rfl [tR (some h0), tI p1, tI p2, tJ p3] [(0, tR (some h0)), (1, tI p1), (2, tI p2), (3, tJ p3)] rfl (Nat.le_of_ble_eq_true rfl) (fun p e s m args below meth c C hr hnm => t_A_set_0 C hr h0 p1 p2 p3 V h)
def rm_A_touch : Room := { frames := 1, cells := 0, slots := 0, locals := 21 }
def D_A_touch (h0 : Nat) (p1 : Int32) (L : gL) (V : gV) : Option (Int32 × gV) :=
  Option.bind ((L).2 3 h0) fun n7 =>
    g_b2 (D_A_sourceAt h0 p1 L V) fun r1 V2 =>
    (g_on r1
    (some ((-1 : Int32), V2))
    (fun a3 =>
    Option.bind (g_rI L V2 1 a3 2) fun x4 =>
    Option.bind (g_wr L V2 1 a3 2 (tI (x4 + (1 : Int32)))) fun V5 =>
    Option.bind (g_rI L V5 1 a3 2) fun x6 =>
    some (x6, V5)))
set_option maxHeartbeats 4000000 in
set_option maxRecDepth 100000 in
theorem t_A_touch_0 (C : gC E base p s m args meth c b_A_touch R_A 3) (hr : meth.sig.returnType = (some .int)) {z : Int32 × gV} (h0 : Nat) (p1 : Int32) (V : gV) (h : D_A_touch h0 p1 L V = some z) : vW E base base 3 p l e rm_A_touch s m args below meth c 0 0 (g_MQ E base base below args s 0 0 L z.2 (some (tI z.1))) L V 0 [(0, tR (some h0)), (1, tI p1)] [] := by
  unfold D_A_touch at h
  refine r_aload_n (x := (some h0)) C d_A_touch_0 rfl rfl ?_
  refine r_iload_n (x := p1) C d_A_touch_1 rfl rfl ?_
  replace h := g_ob h; obtain ⟨n7, e_n7, h⟩ := h
  replace h := g_o2 h; obtain ⟨r1, V2, e_r1, h⟩ := h
  refine r_callV (As := [tI p1]) C k_A_41 w_95 w_96 w_90 ⟨_, _, rfl⟩ (c_A_sourceAt l E base base h0 p1 L V e_r1) d_A_touch_2 e_n7 rfl ⟨Nat.le_of_ble_eq_true rfl, Nat.le_of_ble_eq_true rfl⟩ (Nat.le_of_ble_eq_true rfl) (Nat.le_of_ble_eq_true rfl) (Nat.le_of_ble_eq_true rfl) rfl ?_
  refine r_astore_n (lv' := [(2, tR r1), (0, tR (some h0)), (1, tI p1)]) C d_A_touch_5 rfl (by decide) rfl ?_
  refine r_aload_n (x := r1) C d_A_touch_6 rfl rfl ?_
  replace h := g_oon h; rcases h with ⟨rfl, h⟩ | ⟨a3, rfl, h⟩
  · refine r_ifnonnull_f C d_A_touch_7 ?_
    refine r_iconst C (-1 : Int32) d_A_touch_10 (by decide) ?_
    cases h
    exact r_iret C hr d_A_touch_11
  · refine r_ifnonnull_t C 12 d_A_touch_7 (by decide) ?_
    refine r_aload_n (x := (some a3)) C d_A_touch_12 rfl rfl ?_
    refine r_dup C d_A_touch_13 rfl ?_
    replace h := g_ob h; obtain ⟨x4, e_x4, h⟩ := h
    refine r_getI C f_A_53 d_A_touch_14 e_x4 ?_
    refine r_iconst C (1 : Int32) d_A_touch_17 (by decide) ?_
    refine r_iadd C d_A_touch_18 ?_
    replace h := g_ob h; obtain ⟨V5, e_V5, h⟩ := h
    refine r_put C f_A_53 d_A_touch_19 e_V5 (g_nI (x4 + (1 : Int32))).1 (g_nI (x4 + (1 : Int32))).2 ?_
    refine r_aload_n (x := (some a3)) C d_A_touch_22 rfl rfl ?_
    replace h := g_ob h; obtain ⟨x6, e_x6, h⟩ := h
    refine r_getI C f_A_53 d_A_touch_23 e_x6 ?_
    cases h
    exact r_iret C hr d_A_touch_26
theorem c_A_touch (l : Launch) (E : gE) (base : Nat) (h0 : Nat) (p1 : Int32) (L : gL) (V : gV) {z : Int32 × gV} (h : D_A_touch h0 p1 L V = some z) : g_Met l E base base y_A_touch b_A_touch 3 (some .int) rm_A_touch [tR (some h0), tI p1] L V (some (tI z.1)) L z.2 :=
  r_enter R_A (by decide) rfl [tR (some h0), tI p1] [(0, tR (some h0)), (1, tI p1)] rfl (Nat.le_of_ble_eq_true rfl) (fun p e s m args below meth c C hr hnm => t_A_touch_0 C hr h0 p1 V h)
def rm_A_step : Room := { frames := 3, cells := 15, slots := 89, locals := 65 }
def D_A_step (h0 : Nat) (p1 : Int64) (p3 : Int64) (L : gL) (V : gV) : Option (Int32 × gL × gV) :=
  Option.bind (g_rI L V 3 h0 3) fun x1 =>
    (if (16 : Int32) ≤ x1 then
    some ((-1 : Int32), L, V)
  else
    (if 0 ≤ (lg_cmp p3 (0 : Int64)) then
    Option.bind (g_rR L V 3 h0 2) fun x2 =>
    Option.bind (g_rI L V 3 h0 3) fun x3 =>
    g_bn (g_new L V 2 11 df_T) fun L4 V5 =>
    g_b3 (D_T_init L.1 p1 p3 L4 V5) fun r6 L8 V7 =>
    Option.bind x2 fun a9 =>
    Option.bind ((L8).2 2 L.1) fun n14 =>
    Option.bind (g_wa L8 V7 104 a9 x3 (tR (some L.1))) fun V10 =>
    Option.bind (g_rI L8 V10 3 h0 3) fun x11 =>
    Option.bind (g_wr L8 V10 3 h0 3 (tI (x11 + (1 : Int32)))) fun V12 =>
    Option.bind (g_rI L8 V12 3 h0 3) fun x13 =>
    some (x13 - (1 : Int32), L8, V12)
  else
    some ((-1 : Int32), L, V)))
set_option maxHeartbeats 4000000 in
set_option maxRecDepth 100000 in
theorem t_A_step_0 (C : gC E base p s m args meth c b_A_step R_A 5) (hr : meth.sig.returnType = (some .int)) {z : Int32 × gL × gV} (h0 : Nat) (p1 : Int64) (p3 : Int64) (V : gV) (h : D_A_step h0 p1 p3 L V = some z) : vW E base base 5 p l e rm_A_step s m args below meth c 0 0 (g_MQ E base base below args s 15 89 z.2.1 z.2.2 (some (tI z.1))) L V 0 [(0, tR (some h0)), (1, tJ p1), (3, tJ p3)] [] := by
  unfold D_A_step at h
  refine r_aload_n (x := (some h0)) C d_A_step_0 rfl rfl ?_
  replace h := g_ob h; obtain ⟨x1, e_x1, h⟩ := h
  refine r_getI C f_A_25 d_A_step_1 e_x1 ?_
  refine r_bipush C (16 : Int32) d_A_step_4 (by decide) ?_
  refine r_icmp_ge C 15 d_A_step_6 (by decide) (fun c16 => ?_) (fun c16 => ?_)
  · rw [if_pos c16] at h
    refine r_iconst C (-1 : Int32) d_A_step_15 (by decide) ?_
    cases h
    refine r_wid (k := 15) (n := 89) (Nat.le_of_ble_eq_true rfl) (Nat.le_of_ble_eq_true rfl) ?_
    exact r_iret C hr d_A_step_16
  · rw [if_neg c16] at h
    refine r_lload_n (x := p3) C d_A_step_9 rfl rfl ?_
    refine r_lconst C (0 : Int64) d_A_step_10 (by decide) ?_
    refine r_lcmp C d_A_step_11 ?_
    refine r_if_ge C 17 d_A_step_12 (by decide) (fun c15 => ?_) (fun c15 => ?_)
    · rw [if_pos c15] at h
      refine r_aload_n (x := (some h0)) C d_A_step_17 rfl rfl ?_
      replace h := g_ob h; obtain ⟨x2, e_x2, h⟩ := h
      refine r_getR C f_A_21 d_A_step_18 e_x2 ?_
      refine r_aload_n (x := (some h0)) C d_A_step_21 rfl rfl ?_
      replace h := g_ob h; obtain ⟨x3, e_x3, h⟩ := h
      refine r_getI C f_A_25 d_A_step_22 e_x3 ?_
      replace h := g_obn h; obtain ⟨L4, V5, e_L4, h⟩ := h
      refine r_new C n_A_19 d_A_step_25 e_L4 (Nat.le_of_ble_eq_true rfl) (Nat.le_of_ble_eq_true rfl) ?_
      refine r_dup C d_A_step_28 rfl ?_
      refine r_lload_n (x := p1) C d_A_step_29 rfl rfl ?_
      refine r_lload_n (x := p3) C d_A_step_30 rfl rfl ?_
      replace h := g_o3 h; obtain ⟨r6, L8, V7, e_r6, h⟩ := h
      refine r_callI (As := [tJ p1, tJ p3]) C k_A_56 rfl w_101 w_99 (c_T_init l E base L.1 p1 p3 L4 V5 e_r6) d_A_step_31 rfl ⟨Nat.le_of_ble_eq_true rfl, Nat.le_of_ble_eq_true rfl⟩ (Nat.le_of_ble_eq_true rfl) (Nat.le_of_ble_eq_true rfl) (Nat.le_of_ble_eq_true rfl) rfl ?_
      replace h := g_ob h; obtain ⟨a9, rfl, h⟩ := h
      replace h := g_ob h; obtain ⟨n14, e_n14, h⟩ := h
      replace h := g_ob h; obtain ⟨V10, e_V10, h⟩ := h
      refine r_aast C ak_104 ⟨_, _, rfl⟩ d_A_step_34 e_n14 e_V10 ?_
      refine r_aload_n (x := (some h0)) C d_A_step_35 rfl rfl ?_
      refine r_dup C d_A_step_36 rfl ?_
      replace h := g_ob h; obtain ⟨x11, e_x11, h⟩ := h
      refine r_getI C f_A_25 d_A_step_37 e_x11 ?_
      refine r_iconst C (1 : Int32) d_A_step_40 (by decide) ?_
      refine r_iadd C d_A_step_41 ?_
      replace h := g_ob h; obtain ⟨V12, e_V12, h⟩ := h
      refine r_put C f_A_25 d_A_step_42 e_V12 (g_nI (x11 + (1 : Int32))).1 (g_nI (x11 + (1 : Int32))).2 ?_
      refine r_aload_n (x := (some h0)) C d_A_step_45 rfl rfl ?_
      replace h := g_ob h; obtain ⟨x13, e_x13, h⟩ := h
      refine r_getI C f_A_25 d_A_step_46 e_x13 ?_
      refine r_iconst C (1 : Int32) d_A_step_49 (by decide) ?_
      refine r_isub C d_A_step_50 ?_
      cases h
      refine r_wid (k := 15) (n := 89) (Nat.le_of_ble_eq_true rfl) (Nat.le_of_ble_eq_true rfl) ?_
      exact r_iret C hr d_A_step_51
    · rw [if_neg c15] at h
      refine r_iconst C (-1 : Int32) d_A_step_15 (by decide) ?_
      cases h
      refine r_wid (k := 15) (n := 89) (Nat.le_of_ble_eq_true rfl) (Nat.le_of_ble_eq_true rfl) ?_
      exact r_iret C hr d_A_step_16
theorem c_A_step (l : Launch) (E : gE) (base : Nat) (h0 : Nat) (p1 : Int64) (p3 : Int64) (L : gL) (V : gV) {z : Int32 × gL × gV} (h : D_A_step h0 p1 p3 L V = some z) : g_Met l E base base y_A_step b_A_step 5 (some .int) rm_A_step [tR (some h0), tJ p1, tJ p3] L V (some (tI z.1)) z.2.1 z.2.2 :=
  r_enter R_A (by decide) rfl [tR (some h0), tJ p1, tJ p3] [(0, tR (some h0)), (1, tJ p1), (3, tJ p3)] rfl (Nat.le_of_ble_eq_true rfl) (fun p e s m args below meth c C hr hnm => t_A_step_0 C hr h0 p1 p3 V h)
def rm_A_stepAt : Room := { frames := 0, cells := 0, slots := 0, locals := 0 }
def D_A_stepAt (h0 : Nat) (p1 : Int32) (L : gL) (V : gV) : Option (Option Nat × gV) :=
  (if p1 < 0 then
    some (none, V)
  else
    Option.bind (g_rI L V 3 h0 3) fun x1 =>
    (if x1 ≤ p1 then
    some (none, V)
  else
    Option.bind (g_rR L V 3 h0 2) fun x2 =>
    Option.bind x2 fun a3 =>
    Option.bind (g_aR L V 104 a3 p1) fun x4 =>
    some (x4, V)))
set_option maxHeartbeats 4000000 in
set_option maxRecDepth 100000 in
theorem t_A_stepAt_0 (C : gC E bA p s m args meth c b_A_stepAt R_A 2) (hr : meth.sig.returnType = (some (.object "EarlyCut$Step"))) {z : Option Nat × gV} (h0 : Nat) (p1 : Int32) (V : gV) (h : D_A_stepAt h0 p1 L V = some z) : vW E base bA 2 p l e rm_A_stepAt s m args below meth c 0 0 (g_MQ E base bA below args s 0 0 L z.2 (some (tR z.1))) L V 0 [(0, tR (some h0)), (1, tI p1)] [] := by
  unfold D_A_stepAt at h
  refine r_iload_n (x := p1) C d_A_stepAt_0 rfl rfl ?_
  refine r_if_lt C 21 d_A_stepAt_1 (by decide) (fun c6 => ?_) (fun c6 => ?_)
  · rw [if_pos c6] at h
    refine r_null C d_A_stepAt_21 ?_
    cases h
    exact r_aret C hr d_A_stepAt_22
  · rw [if_neg c6] at h
    refine r_iload_n (x := p1) C d_A_stepAt_4 rfl rfl ?_
    refine r_aload_n (x := (some h0)) C d_A_stepAt_5 rfl rfl ?_
    replace h := g_ob h; obtain ⟨x1, e_x1, h⟩ := h
    refine r_getI C f_A_25 d_A_stepAt_6 e_x1 ?_
    refine r_icmp_ge C 21 d_A_stepAt_9 (by decide) (fun c5 => ?_) (fun c5 => ?_)
    · rw [if_pos c5] at h
      refine r_null C d_A_stepAt_21 ?_
      cases h
      exact r_aret C hr d_A_stepAt_22
    · rw [if_neg c5] at h
      refine r_aload_n (x := (some h0)) C d_A_stepAt_12 rfl rfl ?_
      replace h := g_ob h; obtain ⟨x2, e_x2, h⟩ := h
      refine r_getR C f_A_21 d_A_stepAt_13 e_x2 ?_
      refine r_iload_n (x := p1) C d_A_stepAt_16 rfl rfl ?_
      replace h := g_ob h; obtain ⟨a3, rfl, h⟩ := h
      replace h := g_ob h; obtain ⟨x4, e_x4, h⟩ := h
      refine r_aald C ak_104 rfl d_A_stepAt_17 e_x4 ?_
      refine r_goto C 22 d_A_stepAt_18 (by decide) ?_
      cases h
      exact r_aret C hr d_A_stepAt_22
theorem c_A_stepAt (l : Launch) (E : gE) (base bA : Nat) (h0 : Nat) (p1 : Int32) (L : gL) (V : gV) {z : Option Nat × gV} (h : D_A_stepAt h0 p1 L V = some z) : g_Met l E base bA y_A_stepAt b_A_stepAt 2 (some (.object "EarlyCut$Step")) rm_A_stepAt [tR (some h0), tI p1] L V (some (tR z.1)) L z.2 :=
  r_enter R_A (by decide) rfl [tR (some h0), tI p1] [(0, tR (some h0)), (1, tI p1)] rfl (Nat.le_of_ble_eq_true rfl) (fun p e s m args below meth c C hr hnm => t_A_stepAt_0 C hr h0 p1 V h)
def rm_A_codeOfFile : Room := { frames := 0, cells := 0, slots := 0, locals := 0 }
def D_A_codeOfFile (p0 : Int32) (L : gL) (V : gV) : Option (Int32 × gV) :=
  some (p0, V)
set_option maxHeartbeats 4000000 in
set_option maxRecDepth 100000 in
theorem t_A_codeOfFile_0 (C : gC E bA p s m args meth c b_A_codeOfFile R_A 1) (hr : meth.sig.returnType = (some .int)) {z : Int32 × gV} (p0 : Int32) (V : gV) (h : D_A_codeOfFile p0 L V = some z) : vW E base bA 1 p l e rm_A_codeOfFile s m args below meth c 0 0 (g_MQ E base bA below args s 0 0 L z.2 (some (tI z.1))) L V 0 [(0, tI p0)] [] := by
  unfold D_A_codeOfFile at h
  refine r_iload_n (x := p0) C d_A_codeOfFile_0 rfl rfl ?_
  cases h
  exact r_iret C hr d_A_codeOfFile_1
theorem c_A_codeOfFile (l : Launch) (E : gE) (base bA : Nat) (p0 : Int32) (L : gL) (V : gV) {z : Int32 × gV} (h : D_A_codeOfFile p0 L V = some z) : g_Met l E base bA y_A_codeOfFile b_A_codeOfFile 1 (some .int) rm_A_codeOfFile [tI p0] L V (some (tI z.1)) L z.2 :=
  r_enter R_A (by decide) rfl [tI p0] [(0, tI p0)] rfl (Nat.le_of_ble_eq_true rfl) (fun p e s m args below meth c C hr hnm => t_A_codeOfFile_0 C hr p0 V h)
def rm_A_readsFile : Room := { frames := 2, cells := 0, slots := 0, locals := 43 }
def D_A_readsFile (h0 : Nat) (p1 : Int32) (p2 : Int32) (L : gL) (V : gV) : Option (Int32 × gV) :=
  Option.bind ((L).2 3 h0) fun n14 =>
    g_b2 (D_A_stepAt h0 p1 L V) fun r1 V2 =>
    (g_on r1
    (some ((0 : Int32), V2))
    (fun a3 =>
    Option.bind ((L).2 3 h0) fun n13 =>
    g_b2 (D_A_sourceAt h0 p2 L V2) fun r4 V5 =>
    (g_on r4
    (some ((0 : Int32), V5))
    (fun a6 =>
    g_b2 (D_A_codeOfFile p2 L V5) fun r7 V8 =>
    Option.bind ((L).2 2 a3) fun n12 =>
    g_b2 (D_T_addRead a3 r7 L V8) fun r9 V10 =>
    Option.bind (g_bz r9) fun _ =>
    some (r9, V10)))))
set_option maxHeartbeats 4000000 in
set_option maxRecDepth 100000 in
theorem t_A_readsFile_0 (C : gC E base p s m args meth c b_A_readsFile R_A 4) (hr : meth.sig.returnType = (some .boolean)) {z : Int32 × gV} (h0 : Nat) (p1 : Int32) (p2 : Int32) (V : gV) (h : D_A_readsFile h0 p1 p2 L V = some z) : vW E base base 4 p l e rm_A_readsFile s m args below meth c 0 0 (g_MQ E base base below args s 0 0 L z.2 (some (tI z.1))) L V 0 [(0, tR (some h0)), (1, tI p1), (2, tI p2)] [] := by
  unfold D_A_readsFile at h
  refine r_aload_n (x := (some h0)) C d_A_readsFile_0 rfl rfl ?_
  refine r_iload_n (x := p1) C d_A_readsFile_1 rfl rfl ?_
  replace h := g_ob h; obtain ⟨n14, e_n14, h⟩ := h
  replace h := g_o2 h; obtain ⟨r1, V2, e_r1, h⟩ := h
  refine r_callV (As := [tI p1]) C k_A_59 w_111 w_112 w_102 ⟨_, _, rfl⟩ (c_A_stepAt l E base base h0 p1 L V e_r1) d_A_readsFile_2 e_n14 rfl ⟨Nat.le_of_ble_eq_true rfl, Nat.le_of_ble_eq_true rfl⟩ (Nat.le_of_ble_eq_true rfl) (Nat.le_of_ble_eq_true rfl) (Nat.le_of_ble_eq_true rfl) rfl ?_
  refine r_astore_n (lv' := [(3, tR r1), (0, tR (some h0)), (1, tI p1), (2, tI p2)]) C d_A_readsFile_5 rfl (by decide) rfl ?_
  refine r_aload_n (x := r1) C d_A_readsFile_6 rfl rfl ?_
  replace h := g_oon h; rcases h with ⟨rfl, h⟩ | ⟨a3, rfl, h⟩
  · refine r_ifnull_t C 18 d_A_readsFile_7 (by decide) ?_
    refine r_iconst C (0 : Int32) d_A_readsFile_18 (by decide) ?_
    cases h
    exact r_zret C hr d_A_readsFile_19 (Or.inl rfl)
  · refine r_ifnull_f C d_A_readsFile_7 ?_
    refine r_aload_n (x := (some h0)) C d_A_readsFile_10 rfl rfl ?_
    refine r_iload_n (x := p2) C d_A_readsFile_11 rfl rfl ?_
    replace h := g_ob h; obtain ⟨n13, e_n13, h⟩ := h
    replace h := g_o2 h; obtain ⟨r4, V5, e_r4, h⟩ := h
    refine r_callV (As := [tI p2]) C k_A_41 w_95 w_96 w_90 ⟨_, _, rfl⟩ (c_A_sourceAt l E base base h0 p2 L V2 e_r4) d_A_readsFile_12 e_n13 rfl ⟨Nat.le_of_ble_eq_true rfl, Nat.le_of_ble_eq_true rfl⟩ (Nat.le_of_ble_eq_true rfl) (Nat.le_of_ble_eq_true rfl) (Nat.le_of_ble_eq_true rfl) rfl ?_
    replace h := g_oon h; rcases h with ⟨rfl, h⟩ | ⟨a6, rfl, h⟩
    · refine r_ifnonnull_f C d_A_readsFile_15 ?_
      refine r_iconst C (0 : Int32) d_A_readsFile_18 (by decide) ?_
      cases h
      exact r_zret C hr d_A_readsFile_19 (Or.inl rfl)
    · refine r_ifnonnull_t C 20 d_A_readsFile_15 (by decide) ?_
      refine r_aload_n (x := (some a3)) C d_A_readsFile_20 rfl rfl ?_
      refine r_iload_n (x := p2) C d_A_readsFile_21 rfl rfl ?_
      replace h := g_o2 h; obtain ⟨r7, V8, e_r7, h⟩ := h
      refine r_callS (As := [tI p2]) C k_A_63 w_110 w_104 (c_A_codeOfFile l E base base p2 L V5 e_r7) d_A_readsFile_22 rfl ⟨Nat.le_of_ble_eq_true rfl, Nat.le_of_ble_eq_true rfl⟩ (Nat.le_of_ble_eq_true rfl) (Nat.le_of_ble_eq_true rfl) (Nat.le_of_ble_eq_true rfl) rfl ?_
      replace h := g_ob h; obtain ⟨n12, e_n12, h⟩ := h
      replace h := g_o2 h; obtain ⟨r9, V10, e_r9, h⟩ := h
      refine r_callV (As := [tI r7]) C k_A_67 w_108 w_109 w_106 ⟨_, _, rfl⟩ (c_T_addRead l E base a3 r7 L V8 e_r9) d_A_readsFile_25 e_n12 rfl ⟨Nat.le_of_ble_eq_true rfl, Nat.le_of_ble_eq_true rfl⟩ (Nat.le_of_ble_eq_true rfl) (Nat.le_of_ble_eq_true rfl) (Nat.le_of_ble_eq_true rfl) rfl ?_
      replace h := g_ob h; obtain ⟨u11, e_u11, h⟩ := h
      cases h
      exact r_zret C hr d_A_readsFile_28 (g_bz_spec e_u11)
theorem c_A_readsFile (l : Launch) (E : gE) (base : Nat) (h0 : Nat) (p1 : Int32) (p2 : Int32) (L : gL) (V : gV) {z : Int32 × gV} (h : D_A_readsFile h0 p1 p2 L V = some z) : g_Met l E base base y_A_readsFile b_A_readsFile 4 (some .boolean) rm_A_readsFile [tR (some h0), tI p1, tI p2] L V (some (tI z.1)) L z.2 :=
  r_enter R_A (by decide) rfl [tR (some h0), tI p1, tI p2] [(0, tR (some h0)), (1, tI p1), (2, tI p2)] rfl (Nat.le_of_ble_eq_true rfl) (fun p e s m args below meth c C hr hnm => t_A_readsFile_0 C hr h0 p1 p2 V h)
def rm_A_isPart : Room := { frames := 0, cells := 0, slots := 0, locals := 0 }
def D_A_isPart_9 (L : gL)  (V : gV) : Option (Int32 × gV) :=
  some ((1 : Int32), V)
def D_A_isPart (p0 : Int32) (L : gL) (V : gV) : Option (Int32 × gV) :=
  (if p0 = 0 then
    D_A_isPart_9 L   V
  else
    (if p0 = (1 : Int32) then
    D_A_isPart_9 L   V
  else
    some ((0 : Int32), V)))
set_option maxHeartbeats 4000000 in
set_option maxRecDepth 100000 in
theorem t_A_isPart_9 (C : gC E bA p s m args meth c b_A_isPart R_A 1) (hr : meth.sig.returnType = (some .boolean)) {z : Int32 × gV}  (V : gV) (h : D_A_isPart_9 L   V = some z) : vW E base bA 1 p l e rm_A_isPart s m args below meth c 0 0 (g_MQ E base bA below args s 0 0 L z.2 (some (tI z.1))) L V 9 [] [] := by
  unfold D_A_isPart_9 at h
  refine r_iconst C (1 : Int32) d_A_isPart_9 (by decide) ?_
  refine r_goto C 14 d_A_isPart_10 (by decide) ?_
  cases h
  exact r_zret C hr d_A_isPart_14 (Or.inr rfl)
set_option maxHeartbeats 4000000 in
set_option maxRecDepth 100000 in
theorem t_A_isPart_0 (C : gC E bA p s m args meth c b_A_isPart R_A 1) (hr : meth.sig.returnType = (some .boolean)) {z : Int32 × gV} (p0 : Int32) (V : gV) (h : D_A_isPart p0 L V = some z) : vW E base bA 1 p l e rm_A_isPart s m args below meth c 0 0 (g_MQ E base bA below args s 0 0 L z.2 (some (tI z.1))) L V 0 [(0, tI p0)] [] := by
  unfold D_A_isPart at h
  refine r_iload_n (x := p0) C d_A_isPart_0 rfl rfl ?_
  refine r_if_eq C 9 d_A_isPart_1 (by decide) (fun c2 => ?_) (fun c2 => ?_)
  · rw [if_pos c2] at h
    refine r_lv [] rfl ?_
    exact t_A_isPart_9 C hr   V h
  · rw [if_neg c2] at h
    refine r_iload_n (x := p0) C d_A_isPart_4 rfl rfl ?_
    refine r_iconst C (1 : Int32) d_A_isPart_5 (by decide) ?_
    refine r_icmp_ne C 13 d_A_isPart_6 (by decide) (fun c1 => ?_) (fun c1 => ?_)
    · rw [if_neg c1] at h
      refine r_iconst C (0 : Int32) d_A_isPart_13 (by decide) ?_
      cases h
      exact r_zret C hr d_A_isPart_14 (Or.inl rfl)
    · rw [if_pos c1] at h
      refine r_lv [] rfl ?_
      exact t_A_isPart_9 C hr   V h
theorem c_A_isPart (l : Launch) (E : gE) (base bA : Nat) (p0 : Int32) (L : gL) (V : gV) {z : Int32 × gV} (h : D_A_isPart p0 L V = some z) : g_Met l E base bA y_A_isPart b_A_isPart 1 (some .boolean) rm_A_isPart [tI p0] L V (some (tI z.1)) L z.2 :=
  r_enter R_A (by decide) rfl [tI p0] [(0, tI p0)] rfl (Nat.le_of_ble_eq_true rfl) (fun p e s m args below meth c C hr hnm => t_A_isPart_0 C hr p0 V h)
def rm_A_codeOfPart : Room := { frames := 0, cells := 0, slots := 0, locals := 0 }
def D_A_codeOfPart (p0 : Int32) (p1 : Int32) (L : gL) (V : gV) : Option (Int32 × gV) :=
  some (((16 : Int32) + ((2 : Int32) * p0)) + p1, V)
set_option maxHeartbeats 4000000 in
set_option maxRecDepth 100000 in
theorem t_A_codeOfPart_0 (C : gC E bA p s m args meth c b_A_codeOfPart R_A 2) (hr : meth.sig.returnType = (some .int)) {z : Int32 × gV} (p0 : Int32) (p1 : Int32) (V : gV) (h : D_A_codeOfPart p0 p1 L V = some z) : vW E base bA 2 p l e rm_A_codeOfPart s m args below meth c 0 0 (g_MQ E base bA below args s 0 0 L z.2 (some (tI z.1))) L V 0 [(0, tI p0), (1, tI p1)] [] := by
  unfold D_A_codeOfPart at h
  refine r_bipush C (16 : Int32) d_A_codeOfPart_0 (by decide) ?_
  refine r_iconst C (2 : Int32) d_A_codeOfPart_2 (by decide) ?_
  refine r_iload_n (x := p0) C d_A_codeOfPart_3 rfl rfl ?_
  refine r_imul C d_A_codeOfPart_4 ?_
  refine r_iadd C d_A_codeOfPart_5 ?_
  refine r_iload_n (x := p1) C d_A_codeOfPart_6 rfl rfl ?_
  refine r_iadd C d_A_codeOfPart_7 ?_
  cases h
  exact r_iret C hr d_A_codeOfPart_8
theorem c_A_codeOfPart (l : Launch) (E : gE) (base bA : Nat) (p0 : Int32) (p1 : Int32) (L : gL) (V : gV) {z : Int32 × gV} (h : D_A_codeOfPart p0 p1 L V = some z) : g_Met l E base bA y_A_codeOfPart b_A_codeOfPart 2 (some .int) rm_A_codeOfPart [tI p0, tI p1] L V (some (tI z.1)) L z.2 :=
  r_enter R_A (by decide) rfl [tI p0, tI p1] [(0, tI p0), (1, tI p1)] rfl (Nat.le_of_ble_eq_true rfl) (fun p e s m args below meth c C hr hnm => t_A_codeOfPart_0 C hr p0 p1 V h)
def rm_A_readsPart : Room := { frames := 2, cells := 0, slots := 0, locals := 43 }
def D_A_readsPart (h0 : Nat) (p1 : Int32) (p2 : Int32) (p3 : Int32) (L : gL) (V : gV) : Option (Int32 × gV) :=
  Option.bind ((L).2 3 h0) fun n18 =>
    g_b2 (D_A_stepAt h0 p1 L V) fun r1 V2 =>
    (g_on r1
    (some ((0 : Int32), V2))
    (fun a3 =>
    Option.bind ((L).2 3 h0) fun n17 =>
    g_b2 (D_A_stepAt h0 p2 L V2) fun r4 V5 =>
    (g_on r4
    (some ((0 : Int32), V5))
    (fun a6 =>
    g_b2 (D_A_isPart p3 L V5) fun r7 V8 =>
    (if r7 = 0 then
    some ((0 : Int32), V8)
  else
    (if p2 < p1 then
    g_b2 (D_A_codeOfPart p2 p3 L V8) fun r9 V10 =>
    Option.bind ((L).2 2 a3) fun n14 =>
    g_b2 (D_T_addRead a3 r9 L V10) fun r11 V12 =>
    Option.bind (g_bz r11) fun _ =>
    some (r11, V12)
  else
    some ((0 : Int32), V8)))))))
set_option maxHeartbeats 4000000 in
set_option maxRecDepth 100000 in
theorem t_A_readsPart_0 (C : gC E base p s m args meth c b_A_readsPart R_A 5) (hr : meth.sig.returnType = (some .boolean)) {z : Int32 × gV} (h0 : Nat) (p1 : Int32) (p2 : Int32) (p3 : Int32) (V : gV) (h : D_A_readsPart h0 p1 p2 p3 L V = some z) : vW E base base 5 p l e rm_A_readsPart s m args below meth c 0 0 (g_MQ E base base below args s 0 0 L z.2 (some (tI z.1))) L V 0 [(0, tR (some h0)), (1, tI p1), (2, tI p2), (3, tI p3)] [] := by
  unfold D_A_readsPart at h
  refine r_aload_n (x := (some h0)) C d_A_readsPart_0 rfl rfl ?_
  refine r_iload_n (x := p1) C d_A_readsPart_1 rfl rfl ?_
  replace h := g_ob h; obtain ⟨n18, e_n18, h⟩ := h
  replace h := g_o2 h; obtain ⟨r1, V2, e_r1, h⟩ := h
  refine r_callV (As := [tI p1]) C k_A_59 w_111 w_112 w_102 ⟨_, _, rfl⟩ (c_A_stepAt l E base base h0 p1 L V e_r1) d_A_readsPart_2 e_n18 rfl ⟨Nat.le_of_ble_eq_true rfl, Nat.le_of_ble_eq_true rfl⟩ (Nat.le_of_ble_eq_true rfl) (Nat.le_of_ble_eq_true rfl) (Nat.le_of_ble_eq_true rfl) rfl ?_
  refine r_astore (lv' := [(4, tR r1), (0, tR (some h0)), (1, tI p1), (2, tI p2), (3, tI p3)]) C d_A_readsPart_5 (by decide) rfl ?_
  refine r_aload (x := r1) C d_A_readsPart_7 rfl ?_
  replace h := g_oon h; rcases h with ⟨rfl, h⟩ | ⟨a3, rfl, h⟩
  · refine r_ifnull_t C 32 d_A_readsPart_9 (by decide) ?_
    refine r_iconst C (0 : Int32) d_A_readsPart_32 (by decide) ?_
    cases h
    exact r_zret C hr d_A_readsPart_33 (Or.inl rfl)
  · refine r_ifnull_f C d_A_readsPart_9 ?_
    refine r_aload_n (x := (some h0)) C d_A_readsPart_12 rfl rfl ?_
    refine r_iload_n (x := p2) C d_A_readsPart_13 rfl rfl ?_
    replace h := g_ob h; obtain ⟨n17, e_n17, h⟩ := h
    replace h := g_o2 h; obtain ⟨r4, V5, e_r4, h⟩ := h
    refine r_callV (As := [tI p2]) C k_A_59 w_111 w_112 w_102 ⟨_, _, rfl⟩ (c_A_stepAt l E base base h0 p2 L V2 e_r4) d_A_readsPart_14 e_n17 rfl ⟨Nat.le_of_ble_eq_true rfl, Nat.le_of_ble_eq_true rfl⟩ (Nat.le_of_ble_eq_true rfl) (Nat.le_of_ble_eq_true rfl) (Nat.le_of_ble_eq_true rfl) rfl ?_
    replace h := g_oon h; rcases h with ⟨rfl, h⟩ | ⟨a6, rfl, h⟩
    · refine r_ifnull_t C 32 d_A_readsPart_17 (by decide) ?_
      refine r_iconst C (0 : Int32) d_A_readsPart_32 (by decide) ?_
      cases h
      exact r_zret C hr d_A_readsPart_33 (Or.inl rfl)
    · refine r_ifnull_f C d_A_readsPart_17 ?_
      refine r_iload_n (x := p3) C d_A_readsPart_20 rfl rfl ?_
      replace h := g_o2 h; obtain ⟨r7, V8, e_r7, h⟩ := h
      refine r_callS (As := [tI p3]) C k_A_71 w_118 w_113 (c_A_isPart l E base base p3 L V5 e_r7) d_A_readsPart_21 rfl ⟨Nat.le_of_ble_eq_true rfl, Nat.le_of_ble_eq_true rfl⟩ (Nat.le_of_ble_eq_true rfl) (Nat.le_of_ble_eq_true rfl) (Nat.le_of_ble_eq_true rfl) rfl ?_
      refine r_if_eq C 32 d_A_readsPart_24 (by decide) (fun c16 => ?_) (fun c16 => ?_)
      · rw [if_pos c16] at h
        refine r_iconst C (0 : Int32) d_A_readsPart_32 (by decide) ?_
        cases h
        exact r_zret C hr d_A_readsPart_33 (Or.inl rfl)
      · rw [if_neg c16] at h
        refine r_iload_n (x := p2) C d_A_readsPart_27 rfl rfl ?_
        refine r_iload_n (x := p1) C d_A_readsPart_28 rfl rfl ?_
        refine r_icmp_lt C 34 d_A_readsPart_29 (by decide) (fun c15 => ?_) (fun c15 => ?_)
        · rw [if_pos c15] at h
          refine r_aload (x := (some a3)) C d_A_readsPart_34 rfl ?_
          refine r_iload_n (x := p2) C d_A_readsPart_36 rfl rfl ?_
          refine r_iload_n (x := p3) C d_A_readsPart_37 rfl rfl ?_
          replace h := g_o2 h; obtain ⟨r9, V10, e_r9, h⟩ := h
          refine r_callS (As := [tI p2, tI p3]) C k_A_74 w_117 w_115 (c_A_codeOfPart l E base base p2 p3 L V8 e_r9) d_A_readsPart_38 rfl ⟨Nat.le_of_ble_eq_true rfl, Nat.le_of_ble_eq_true rfl⟩ (Nat.le_of_ble_eq_true rfl) (Nat.le_of_ble_eq_true rfl) (Nat.le_of_ble_eq_true rfl) rfl ?_
          replace h := g_ob h; obtain ⟨n14, e_n14, h⟩ := h
          replace h := g_o2 h; obtain ⟨r11, V12, e_r11, h⟩ := h
          refine r_callV (As := [tI r9]) C k_A_67 w_108 w_109 w_106 ⟨_, _, rfl⟩ (c_T_addRead l E base a3 r9 L V10 e_r11) d_A_readsPart_41 e_n14 rfl ⟨Nat.le_of_ble_eq_true rfl, Nat.le_of_ble_eq_true rfl⟩ (Nat.le_of_ble_eq_true rfl) (Nat.le_of_ble_eq_true rfl) (Nat.le_of_ble_eq_true rfl) rfl ?_
          replace h := g_ob h; obtain ⟨u13, e_u13, h⟩ := h
          cases h
          exact r_zret C hr d_A_readsPart_44 (g_bz_spec e_u13)
        · rw [if_neg c15] at h
          refine r_iconst C (0 : Int32) d_A_readsPart_32 (by decide) ?_
          cases h
          exact r_zret C hr d_A_readsPart_33 (Or.inl rfl)
theorem c_A_readsPart (l : Launch) (E : gE) (base : Nat) (h0 : Nat) (p1 : Int32) (p2 : Int32) (p3 : Int32) (L : gL) (V : gV) {z : Int32 × gV} (h : D_A_readsPart h0 p1 p2 p3 L V = some z) : g_Met l E base base y_A_readsPart b_A_readsPart 5 (some .boolean) rm_A_readsPart [tR (some h0), tI p1, tI p2, tI p3] L V (some (tI z.1)) L z.2 :=
  r_enter R_A (by decide) rfl [tR (some h0), tI p1, tI p2, tI p3] [(0, tR (some h0)), (1, tI p1), (2, tI p2), (3, tI p3)] rfl (Nat.le_of_ble_eq_true rfl) (fun p e s m args below meth c C hr hnm => t_A_readsPart_0 C hr h0 p1 p2 p3 V h)
def rm_A_force : Room := { frames := 1, cells := 0, slots := 0, locals := 21 }
def D_A_force (h0 : Nat) (p1 : Int32) (L : gL) (V : gV) : Option (Int32 × gV) :=
  Option.bind ((L).2 3 h0) fun n7 =>
    g_b2 (D_A_stepAt h0 p1 L V) fun r1 V2 =>
    (g_on r1
    (some ((0 : Int32), V2))
    (fun a3 =>
    Option.bind (g_rI L V2 2 a3 6) fun x4 =>
    (if x4 = 0 then
    Option.bind (g_wr L V2 2 a3 6 (tI (1 : Int32))) fun V5 =>
    some ((1 : Int32), V5)
  else
    some ((0 : Int32), V2))))
set_option maxHeartbeats 4000000 in
set_option maxRecDepth 100000 in
theorem t_A_force_0 (C : gC E base p s m args meth c b_A_force R_A 3) (hr : meth.sig.returnType = (some .boolean)) {z : Int32 × gV} (h0 : Nat) (p1 : Int32) (V : gV) (h : D_A_force h0 p1 L V = some z) : vW E base base 3 p l e rm_A_force s m args below meth c 0 0 (g_MQ E base base below args s 0 0 L z.2 (some (tI z.1))) L V 0 [(0, tR (some h0)), (1, tI p1)] [] := by
  unfold D_A_force at h
  refine r_aload_n (x := (some h0)) C d_A_force_0 rfl rfl ?_
  refine r_iload_n (x := p1) C d_A_force_1 rfl rfl ?_
  replace h := g_ob h; obtain ⟨n7, e_n7, h⟩ := h
  replace h := g_o2 h; obtain ⟨r1, V2, e_r1, h⟩ := h
  refine r_callV (As := [tI p1]) C k_A_59 w_111 w_112 w_102 ⟨_, _, rfl⟩ (c_A_stepAt l E base base h0 p1 L V e_r1) d_A_force_2 e_n7 rfl ⟨Nat.le_of_ble_eq_true rfl, Nat.le_of_ble_eq_true rfl⟩ (Nat.le_of_ble_eq_true rfl) (Nat.le_of_ble_eq_true rfl) (Nat.le_of_ble_eq_true rfl) rfl ?_
  refine r_astore_n (lv' := [(2, tR r1), (0, tR (some h0)), (1, tI p1)]) C d_A_force_5 rfl (by decide) rfl ?_
  refine r_aload_n (x := r1) C d_A_force_6 rfl rfl ?_
  replace h := g_oon h; rcases h with ⟨rfl, h⟩ | ⟨a3, rfl, h⟩
  · refine r_ifnull_t C 17 d_A_force_7 (by decide) ?_
    refine r_iconst C (0 : Int32) d_A_force_17 (by decide) ?_
    cases h
    exact r_zret C hr d_A_force_18 (Or.inl rfl)
  · refine r_ifnull_f C d_A_force_7 ?_
    refine r_aload_n (x := (some a3)) C d_A_force_10 rfl rfl ?_
    replace h := g_ob h; obtain ⟨x4, e_x4, h⟩ := h
    refine r_getI C f_A_78 d_A_force_11 e_x4 ?_
    refine r_if_eq C 19 d_A_force_14 (by decide) (fun c6 => ?_) (fun c6 => ?_)
    · rw [if_pos c6] at h
      refine r_aload_n (x := (some a3)) C d_A_force_19 rfl rfl ?_
      refine r_iconst C (1 : Int32) d_A_force_20 (by decide) ?_
      replace h := g_ob h; obtain ⟨V5, e_V5, h⟩ := h
      refine r_put C f_A_78 d_A_force_21 e_V5 (g_nZ (x := (1 : Int32)) (Or.inr rfl)).1 (g_nZ (x := (1 : Int32)) (Or.inr rfl)).2 ?_
      refine r_iconst C (1 : Int32) d_A_force_24 (by decide) ?_
      cases h
      exact r_zret C hr d_A_force_25 (Or.inr rfl)
    · rw [if_neg c6] at h
      refine r_iconst C (0 : Int32) d_A_force_17 (by decide) ?_
      cases h
      exact r_zret C hr d_A_force_18 (Or.inl rfl)
theorem c_A_force (l : Launch) (E : gE) (base : Nat) (h0 : Nat) (p1 : Int32) (L : gL) (V : gV) {z : Int32 × gV} (h : D_A_force h0 p1 L V = some z) : g_Met l E base base y_A_force b_A_force 3 (some .boolean) rm_A_force [tR (some h0), tI p1] L V (some (tI z.1)) L z.2 :=
  r_enter R_A (by decide) rfl [tR (some h0), tI p1] [(0, tR (some h0)), (1, tI p1)] rfl (Nat.le_of_ble_eq_true rfl) (fun p e s m args below meth c C hr hnm => t_A_force_0 C hr h0 p1 V h)
def rm_A_forgetLatestBuild : Room := { frames := 1, cells := 0, slots := 0, locals := 20 }
def D_A_forgetLatestBuild_27 (L : gL) : Nat → Nat → Int32 → gV → Option (Unit × gV)
  | 0, _, _, _ => none
  | n + 1, v0, v1, V =>
  (if (5 : Int32) ≤ v1 then
    some ((), V)
  else
    Option.bind (g_rR L V 3 v0 4) fun x1 =>
    Option.bind x1 fun a2 =>
    Option.bind (g_wa L V 100 a2 v1 (tI (0 : Int32))) fun V3 =>
    D_A_forgetLatestBuild_27 L  n v0 (v1 + (1 : Int32)) V3)
def D_A_forgetLatestBuild_2 (L : gL) : Nat → Nat → Int32 → gV → Option (Unit × gV)
  | 0, _, _, _ => none
  | n + 1, v0, v1, V =>
  Option.bind (g_rI L V 3 v0 3) fun x1 =>
    (if x1 ≤ v1 then
    D_A_forgetLatestBuild_27 L  1000 v0 (0 : Int32) V
  else
    Option.bind (g_rR L V 3 v0 2) fun x2 =>
    Option.bind x2 fun a3 =>
    Option.bind (g_aR L V 104 a3 v1) fun x4 =>
    Option.bind x4 fun a5 =>
    Option.bind ((L).2 2 a5) fun n8 =>
    g_b2 (D_T_forgetLatestBuild a5 L V) fun r6 V7 =>
    D_A_forgetLatestBuild_2 L  n v0 (v1 + (1 : Int32)) V7)
def D_A_forgetLatestBuild (h0 : Nat) (L : gL) (V : gV) : Option (Unit × gV) :=
  D_A_forgetLatestBuild_2 L  1000 h0 (0 : Int32) V
set_option maxHeartbeats 4000000 in
set_option maxRecDepth 100000 in
theorem t_A_forgetLatestBuild_27 (C : gC E base p s m args meth c b_A_forgetLatestBuild R_A 2) (hr : meth.sig.returnType = none) {z : Unit × gV} : ∀ (n : Nat) (v0 : Nat) (v1 : Int32) (V : gV), D_A_forgetLatestBuild_27 L  n v0 v1 V = some z → vW E base base 2 p l e rm_A_forgetLatestBuild s m args below meth c 0 0 (g_MQ E base base below args s 0 0 L z.2 none) L V 27 [(0, tR (some v0)), (1, tI v1)] [] := by
  intro n
  induction n with
  | zero =>
    intro v0 v1 V h
    rw [D_A_forgetLatestBuild_27] at h
    cases h
  | succ n ih =>
    intro v0 v1 V h
    rw [D_A_forgetLatestBuild_27] at h
    refine r_iload_n (x := v1) C d_A_forgetLatestBuild_27 rfl rfl ?_
    refine r_iconst C (5 : Int32) d_A_forgetLatestBuild_28 (by decide) ?_
    refine r_icmp_ge C 45 d_A_forgetLatestBuild_29 (by decide) (fun c4 => ?_) (fun c4 => ?_)
    · rw [if_pos c4] at h
      cases h
      exact r_vret C hr d_A_forgetLatestBuild_45
    · rw [if_neg c4] at h
      refine r_aload_n (x := (some v0)) C d_A_forgetLatestBuild_32 rfl rfl ?_
      replace h := g_ob h; obtain ⟨x1, e_x1, h⟩ := h
      refine r_getR C f_A_28 d_A_forgetLatestBuild_33 e_x1 ?_
      refine r_iload_n (x := v1) C d_A_forgetLatestBuild_36 rfl rfl ?_
      refine r_iconst C (0 : Int32) d_A_forgetLatestBuild_37 (by decide) ?_
      replace h := g_ob h; obtain ⟨a2, rfl, h⟩ := h
      replace h := g_ob h; obtain ⟨V3, e_V3, h⟩ := h
      refine r_iast C ak_100 d_A_forgetLatestBuild_38 e_V3 ?_
      refine r_iinc (x := v1) (v := v1 + (1 : Int32)) (lv' := [(1, tI (v1 + (1 : Int32))), (0, tR (some v0))]) C d_A_forgetLatestBuild_39 rfl rfl (by decide) rfl ?_
      refine r_goto C 27 d_A_forgetLatestBuild_42 (by decide) ?_
      refine r_lv [1, 0] rfl ?_
      exact ih v0 (v1 + (1 : Int32)) V3 h
set_option maxHeartbeats 4000000 in
set_option maxRecDepth 100000 in
theorem t_A_forgetLatestBuild_2 (C : gC E base p s m args meth c b_A_forgetLatestBuild R_A 2) (hr : meth.sig.returnType = none) {z : Unit × gV} : ∀ (n : Nat) (v0 : Nat) (v1 : Int32) (V : gV), D_A_forgetLatestBuild_2 L  n v0 v1 V = some z → vW E base base 2 p l e rm_A_forgetLatestBuild s m args below meth c 0 0 (g_MQ E base base below args s 0 0 L z.2 none) L V 2 [(0, tR (some v0)), (1, tI v1)] [] := by
  intro n
  induction n with
  | zero =>
    intro v0 v1 V h
    rw [D_A_forgetLatestBuild_2] at h
    cases h
  | succ n ih =>
    intro v0 v1 V h
    rw [D_A_forgetLatestBuild_2] at h
    refine r_iload_n (x := v1) C d_A_forgetLatestBuild_2 rfl rfl ?_
    refine r_aload_n (x := (some v0)) C d_A_forgetLatestBuild_3 rfl rfl ?_
    replace h := g_ob h; obtain ⟨x1, e_x1, h⟩ := h
    refine r_getI C f_A_25 d_A_forgetLatestBuild_4 e_x1 ?_
    refine r_icmp_ge C 25 d_A_forgetLatestBuild_7 (by decide) (fun c9 => ?_) (fun c9 => ?_)
    · rw [if_pos c9] at h
      refine r_iconst C (0 : Int32) d_A_forgetLatestBuild_25 (by decide) ?_
      refine r_istore_n (lv' := [(1, tI (0 : Int32)), (0, tR (some v0))]) C d_A_forgetLatestBuild_26 rfl (by decide) rfl ?_
      refine r_lv [1, 0] rfl ?_
      exact t_A_forgetLatestBuild_27 C hr  1000 v0 (0 : Int32) V h
    · rw [if_neg c9] at h
      refine r_aload_n (x := (some v0)) C d_A_forgetLatestBuild_10 rfl rfl ?_
      replace h := g_ob h; obtain ⟨x2, e_x2, h⟩ := h
      refine r_getR C f_A_21 d_A_forgetLatestBuild_11 e_x2 ?_
      refine r_iload_n (x := v1) C d_A_forgetLatestBuild_14 rfl rfl ?_
      replace h := g_ob h; obtain ⟨a3, rfl, h⟩ := h
      replace h := g_ob h; obtain ⟨x4, e_x4, h⟩ := h
      refine r_aald C ak_104 rfl d_A_forgetLatestBuild_15 e_x4 ?_
      replace h := g_ob h; obtain ⟨a5, rfl, h⟩ := h
      replace h := g_ob h; obtain ⟨n8, e_n8, h⟩ := h
      replace h := g_o2 h; obtain ⟨r6, V7, e_r6, h⟩ := h
      refine r_callV (As := []) C k_A_145 w_122 w_123 w_120 ⟨_, _, rfl⟩ (c_T_forgetLatestBuild l E base a5 L V e_r6) d_A_forgetLatestBuild_16 e_n8 rfl ⟨Nat.le_of_ble_eq_true rfl, Nat.le_of_ble_eq_true rfl⟩ (Nat.le_of_ble_eq_true rfl) (Nat.le_of_ble_eq_true rfl) (Nat.le_of_ble_eq_true rfl) rfl ?_
      refine r_iinc (x := v1) (v := v1 + (1 : Int32)) (lv' := [(1, tI (v1 + (1 : Int32))), (0, tR (some v0))]) C d_A_forgetLatestBuild_19 rfl rfl (by decide) rfl ?_
      refine r_goto C 2 d_A_forgetLatestBuild_22 (by decide) ?_
      refine r_lv [1, 0] rfl ?_
      exact ih v0 (v1 + (1 : Int32)) V7 h
set_option maxHeartbeats 4000000 in
set_option maxRecDepth 100000 in
theorem t_A_forgetLatestBuild_0 (C : gC E base p s m args meth c b_A_forgetLatestBuild R_A 2) (hr : meth.sig.returnType = none) {z : Unit × gV} (h0 : Nat) (V : gV) (h : D_A_forgetLatestBuild h0 L V = some z) : vW E base base 2 p l e rm_A_forgetLatestBuild s m args below meth c 0 0 (g_MQ E base base below args s 0 0 L z.2 none) L V 0 [(0, tR (some h0))] [] := by
  unfold D_A_forgetLatestBuild at h
  refine r_iconst C (0 : Int32) d_A_forgetLatestBuild_0 (by decide) ?_
  refine r_istore_n (lv' := [(1, tI (0 : Int32)), (0, tR (some h0))]) C d_A_forgetLatestBuild_1 rfl (by decide) rfl ?_
  refine r_lv [1, 0] rfl ?_
  exact t_A_forgetLatestBuild_2 C hr  1000 h0 (0 : Int32) V h
theorem c_A_forgetLatestBuild (l : Launch) (E : gE) (base : Nat) (h0 : Nat) (L : gL) (V : gV) {z : Unit × gV} (h : D_A_forgetLatestBuild h0 L V = some z) : g_Met l E base base y_A_forgetLatestBuild b_A_forgetLatestBuild 2 none rm_A_forgetLatestBuild [tR (some h0)] L V none L z.2 :=
  r_enter R_A (by decide) rfl [tR (some h0)] [(0, tR (some h0))] rfl (Nat.le_of_ble_eq_true rfl) (fun p e s m args below meth c C hr hnm => t_A_forgetLatestBuild_0 C hr h0 V h)
def rm_A_isFileCode : Room := { frames := 0, cells := 0, slots := 0, locals := 0 }
def D_A_isFileCode (p0 : Int32) (L : gL) (V : gV) : Option (Int32 × gV) :=
  (if (16 : Int32) ≤ p0 then
    some ((0 : Int32), V)
  else
    some ((1 : Int32), V))
set_option maxHeartbeats 4000000 in
set_option maxRecDepth 100000 in
theorem t_A_isFileCode_0 (C : gC E bA p s m args meth c b_A_isFileCode R_A 1) (hr : meth.sig.returnType = (some .boolean)) {z : Int32 × gV} (p0 : Int32) (V : gV) (h : D_A_isFileCode p0 L V = some z) : vW E base bA 1 p l e rm_A_isFileCode s m args below meth c 0 0 (g_MQ E base bA below args s 0 0 L z.2 (some (tI z.1))) L V 0 [(0, tI p0)] [] := by
  unfold D_A_isFileCode at h
  refine r_iload_n (x := p0) C d_A_isFileCode_0 rfl rfl ?_
  refine r_bipush C (16 : Int32) d_A_isFileCode_1 (by decide) ?_
  refine r_icmp_ge C 10 d_A_isFileCode_3 (by decide) (fun c1 => ?_) (fun c1 => ?_)
  · rw [if_pos c1] at h
    refine r_iconst C (0 : Int32) d_A_isFileCode_10 (by decide) ?_
    cases h
    exact r_zret C hr d_A_isFileCode_11 (Or.inl rfl)
  · rw [if_neg c1] at h
    refine r_iconst C (1 : Int32) d_A_isFileCode_6 (by decide) ?_
    refine r_goto C 11 d_A_isFileCode_7 (by decide) ?_
    cases h
    exact r_zret C hr d_A_isFileCode_11 (Or.inr rfl)
theorem c_A_isFileCode (l : Launch) (E : gE) (base bA : Nat) (p0 : Int32) (L : gL) (V : gV) {z : Int32 × gV} (h : D_A_isFileCode p0 L V = some z) : g_Met l E base bA y_A_isFileCode b_A_isFileCode 1 (some .boolean) rm_A_isFileCode [tI p0] L V (some (tI z.1)) L z.2 :=
  r_enter R_A (by decide) rfl [tI p0] [(0, tI p0)] rfl (Nat.le_of_ble_eq_true rfl) (fun p e s m args below meth c C hr hnm => t_A_isFileCode_0 C hr p0 V h)
def rm_A_stepOfCode : Room := { frames := 1, cells := 0, slots := 0, locals := 21 }
def D_A_stepOfCode (h0 : Nat) (p1 : Int32) (L : gL) (V : gV) : Option (Option Nat × gV) :=
  Option.bind ((L).2 3 h0) fun n3 =>
    g_b2 (D_A_stepAt h0 ((p1 - (16 : Int32)) / (2 : Int32)) L V) fun r1 V2 =>
    some (r1, V2)
set_option maxHeartbeats 4000000 in
set_option maxRecDepth 100000 in
theorem t_A_stepOfCode_0 (C : gC E bA p s m args meth c b_A_stepOfCode R_A 2) (hr : meth.sig.returnType = (some (.object "EarlyCut$Step"))) {z : Option Nat × gV} (h0 : Nat) (p1 : Int32) (V : gV) (h : D_A_stepOfCode h0 p1 L V = some z) : vW E base bA 2 p l e rm_A_stepOfCode s m args below meth c 0 0 (g_MQ E base bA below args s 0 0 L z.2 (some (tR z.1))) L V 0 [(0, tR (some h0)), (1, tI p1)] [] := by
  unfold D_A_stepOfCode at h
  refine r_aload_n (x := (some h0)) C d_A_stepOfCode_0 rfl rfl ?_
  refine r_iload_n (x := p1) C d_A_stepOfCode_1 rfl rfl ?_
  refine r_bipush C (16 : Int32) d_A_stepOfCode_2 (by decide) ?_
  refine r_isub C d_A_stepOfCode_4 ?_
  refine r_iconst C (2 : Int32) d_A_stepOfCode_5 (by decide) ?_
  refine r_idiv C d_A_stepOfCode_6 (by decide) ?_
  replace h := g_ob h; obtain ⟨n3, e_n3, h⟩ := h
  replace h := g_o2 h; obtain ⟨r1, V2, e_r1, h⟩ := h
  refine r_callV (As := [tI ((p1 - (16 : Int32)) / (2 : Int32))]) C k_A_59 w_111 w_112 w_102 ⟨_, _, rfl⟩ (c_A_stepAt l E base bA h0 ((p1 - (16 : Int32)) / (2 : Int32)) L V e_r1) d_A_stepOfCode_7 e_n3 rfl ⟨Nat.le_of_ble_eq_true rfl, Nat.le_of_ble_eq_true rfl⟩ (Nat.le_of_ble_eq_true rfl) (Nat.le_of_ble_eq_true rfl) (Nat.le_of_ble_eq_true rfl) rfl ?_
  cases h
  exact r_aret C hr d_A_stepOfCode_10
theorem c_A_stepOfCode (l : Launch) (E : gE) (base bA : Nat) (h0 : Nat) (p1 : Int32) (L : gL) (V : gV) {z : Option Nat × gV} (h : D_A_stepOfCode h0 p1 L V = some z) : g_Met l E base bA y_A_stepOfCode b_A_stepOfCode 2 (some (.object "EarlyCut$Step")) rm_A_stepOfCode [tR (some h0), tI p1] L V (some (tR z.1)) L z.2 :=
  r_enter R_A (by decide) rfl [tR (some h0), tI p1] [(0, tR (some h0)), (1, tI p1)] rfl (Nat.le_of_ble_eq_true rfl) (fun p e s m args below meth c C hr hnm => t_A_stepOfCode_0 C hr h0 p1 V h)
def rm_A_takeStepsReadBy : Room := { frames := 2, cells := 0, slots := 0, locals := 42 }
def D_A_takeStepsReadBy_2 (L : gL) : Nat → Nat → Nat → Int32 → gV → Option (Unit × gV)
  | 0, _, _, _, _ => none
  | n + 1, v0, v1, v2, V =>
  Option.bind (g_rI L V 2 v1 3) fun x1 =>
    (if x1 ≤ v2 then
    some ((), V)
  else
    Option.bind (g_rR L V 2 v1 2) fun x2 =>
    Option.bind x2 fun a3 =>
    Option.bind (g_aI L V 100 a3 v2) fun x4 =>
    g_b2 (D_A_isFileCode x4 L V) fun r5 V6 =>
    (if r5 = 0 then
    Option.bind (g_rR L V6 2 v1 2) fun x7 =>
    Option.bind x7 fun a8 =>
    Option.bind (g_aI L V6 100 a8 v2) fun x9 =>
    Option.bind ((L).2 3 v0) fun n14 =>
    g_b2 (D_A_stepOfCode v0 x9 L V6) fun r10 V11 =>
    (g_on r10
    (D_A_takeStepsReadBy_2 L  n v0 v1 (v2 + (1 : Int32)) V11)
    (fun a12 =>
    Option.bind (g_wr L V11 2 a12 7 (tI (1 : Int32))) fun V13 =>
    D_A_takeStepsReadBy_2 L  n v0 v1 (v2 + (1 : Int32)) V13))
  else
    D_A_takeStepsReadBy_2 L  n v0 v1 (v2 + (1 : Int32)) V6))
def D_A_takeStepsReadBy (h0 : Nat) (p1 : Nat) (L : gL) (V : gV) : Option (Unit × gV) :=
  D_A_takeStepsReadBy_2 L  1000 h0 p1 (0 : Int32) V
set_option maxHeartbeats 4000000 in
set_option maxRecDepth 100000 in
theorem t_A_takeStepsReadBy_2 (C : gC E base p s m args meth c b_A_takeStepsReadBy R_A 4) (hr : meth.sig.returnType = none) {z : Unit × gV} : ∀ (n : Nat) (v0 : Nat) (v1 : Nat) (v2 : Int32) (V : gV), D_A_takeStepsReadBy_2 L  n v0 v1 v2 V = some z → vW E base base 4 p l e rm_A_takeStepsReadBy s m args below meth c 0 0 (g_MQ E base base below args s 0 0 L z.2 none) L V 2 [(0, tR (some v0)), (1, tR (some v1)), (2, tI v2)] [] := by
  intro n
  induction n with
  | zero =>
    intro v0 v1 v2 V h
    rw [D_A_takeStepsReadBy_2] at h
    cases h
  | succ n ih =>
    intro v0 v1 v2 V h
    rw [D_A_takeStepsReadBy_2] at h
    refine r_iload_n (x := v2) C d_A_takeStepsReadBy_2 rfl rfl ?_
    refine r_aload_n (x := (some v1)) C d_A_takeStepsReadBy_3 rfl rfl ?_
    replace h := g_ob h; obtain ⟨x1, e_x1, h⟩ := h
    refine r_getI C f_A_130 d_A_takeStepsReadBy_4 e_x1 ?_
    refine r_icmp_ge C 48 d_A_takeStepsReadBy_7 (by decide) (fun c16 => ?_) (fun c16 => ?_)
    · rw [if_pos c16] at h
      cases h
      exact r_vret C hr d_A_takeStepsReadBy_48
    · rw [if_neg c16] at h
      refine r_aload_n (x := (some v1)) C d_A_takeStepsReadBy_10 rfl rfl ?_
      replace h := g_ob h; obtain ⟨x2, e_x2, h⟩ := h
      refine r_getR C f_A_149 d_A_takeStepsReadBy_11 e_x2 ?_
      refine r_iload_n (x := v2) C d_A_takeStepsReadBy_14 rfl rfl ?_
      replace h := g_ob h; obtain ⟨a3, rfl, h⟩ := h
      replace h := g_ob h; obtain ⟨x4, e_x4, h⟩ := h
      refine r_iald C ak_100 d_A_takeStepsReadBy_15 e_x4 ?_
      replace h := g_o2 h; obtain ⟨r5, V6, e_r5, h⟩ := h
      refine r_callS (As := [tI x4]) C k_A_152 w_135 w_129 (c_A_isFileCode l E base base x4 L V e_r5) d_A_takeStepsReadBy_16 rfl ⟨Nat.le_of_ble_eq_true rfl, Nat.le_of_ble_eq_true rfl⟩ (Nat.le_of_ble_eq_true rfl) (Nat.le_of_ble_eq_true rfl) (Nat.le_of_ble_eq_true rfl) rfl ?_
      refine r_if_ne C 42 d_A_takeStepsReadBy_19 (by decide) (fun c15 => ?_) (fun c15 => ?_)
      · rw [if_neg c15] at h
        refine r_iinc (x := v2) (v := v2 + (1 : Int32)) (lv' := [(2, tI (v2 + (1 : Int32))), (0, tR (some v0)), (1, tR (some v1))]) C d_A_takeStepsReadBy_42 rfl rfl (by decide) rfl ?_
        refine r_goto C 2 d_A_takeStepsReadBy_45 (by decide) ?_
        refine r_lv [1, 2, 0] rfl ?_
        exact ih v0 v1 (v2 + (1 : Int32)) V6 h
      · rw [if_pos c15] at h
        refine r_aload_n (x := (some v0)) C d_A_takeStepsReadBy_22 rfl rfl ?_
        refine r_aload_n (x := (some v1)) C d_A_takeStepsReadBy_23 rfl rfl ?_
        replace h := g_ob h; obtain ⟨x7, e_x7, h⟩ := h
        refine r_getR C f_A_149 d_A_takeStepsReadBy_24 e_x7 ?_
        refine r_iload_n (x := v2) C d_A_takeStepsReadBy_27 rfl rfl ?_
        replace h := g_ob h; obtain ⟨a8, rfl, h⟩ := h
        replace h := g_ob h; obtain ⟨x9, e_x9, h⟩ := h
        refine r_iald C ak_100 d_A_takeStepsReadBy_28 e_x9 ?_
        replace h := g_ob h; obtain ⟨n14, e_n14, h⟩ := h
        replace h := g_o2 h; obtain ⟨r10, V11, e_r10, h⟩ := h
        refine r_callV (As := [tI x9]) C k_A_155 w_133 w_134 w_131 ⟨_, _, rfl⟩ (c_A_stepOfCode l E base base v0 x9 L V6 e_r10) d_A_takeStepsReadBy_29 e_n14 rfl ⟨Nat.le_of_ble_eq_true rfl, Nat.le_of_ble_eq_true rfl⟩ (Nat.le_of_ble_eq_true rfl) (Nat.le_of_ble_eq_true rfl) (Nat.le_of_ble_eq_true rfl) rfl ?_
        refine r_astore_n (lv' := [(3, tR r10), (0, tR (some v0)), (1, tR (some v1)), (2, tI v2)]) C d_A_takeStepsReadBy_32 rfl (by decide) rfl ?_
        refine r_aload_n (x := r10) C d_A_takeStepsReadBy_33 rfl rfl ?_
        replace h := g_oon h; rcases h with ⟨rfl, h⟩ | ⟨a12, rfl, h⟩
        · refine r_ifnull_t C 42 d_A_takeStepsReadBy_34 (by decide) ?_
          refine r_iinc (x := v2) (v := v2 + (1 : Int32)) (lv' := [(2, tI (v2 + (1 : Int32))), (3, tR none), (0, tR (some v0)), (1, tR (some v1))]) C d_A_takeStepsReadBy_42 rfl rfl (by decide) rfl ?_
          refine r_goto C 2 d_A_takeStepsReadBy_45 (by decide) ?_
          refine r_lv [2, 3, 0] rfl ?_
          exact ih v0 v1 (v2 + (1 : Int32)) V11 h
        · refine r_ifnull_f C d_A_takeStepsReadBy_34 ?_
          refine r_aload_n (x := (some a12)) C d_A_takeStepsReadBy_37 rfl rfl ?_
          refine r_iconst C (1 : Int32) d_A_takeStepsReadBy_38 (by decide) ?_
          replace h := g_ob h; obtain ⟨V13, e_V13, h⟩ := h
          refine r_put C f_A_88 d_A_takeStepsReadBy_39 e_V13 (g_nZ (x := (1 : Int32)) (Or.inr rfl)).1 (g_nZ (x := (1 : Int32)) (Or.inr rfl)).2 ?_
          refine r_iinc (x := v2) (v := v2 + (1 : Int32)) (lv' := [(2, tI (v2 + (1 : Int32))), (3, tR (some a12)), (0, tR (some v0)), (1, tR (some v1))]) C d_A_takeStepsReadBy_42 rfl rfl (by decide) rfl ?_
          refine r_goto C 2 d_A_takeStepsReadBy_45 (by decide) ?_
          refine r_lv [2, 3, 0] rfl ?_
          exact ih v0 v1 (v2 + (1 : Int32)) V13 h
set_option maxHeartbeats 4000000 in
set_option maxRecDepth 100000 in
theorem t_A_takeStepsReadBy_0 (C : gC E base p s m args meth c b_A_takeStepsReadBy R_A 4) (hr : meth.sig.returnType = none) {z : Unit × gV} (h0 : Nat) (p1 : Nat) (V : gV) (h : D_A_takeStepsReadBy h0 p1 L V = some z) : vW E base base 4 p l e rm_A_takeStepsReadBy s m args below meth c 0 0 (g_MQ E base base below args s 0 0 L z.2 none) L V 0 [(0, tR (some h0)), (1, tR (some p1))] [] := by
  unfold D_A_takeStepsReadBy at h
  refine r_iconst C (0 : Int32) d_A_takeStepsReadBy_0 (by decide) ?_
  refine r_istore_n (lv' := [(2, tI (0 : Int32)), (0, tR (some h0)), (1, tR (some p1))]) C d_A_takeStepsReadBy_1 rfl (by decide) rfl ?_
  refine r_lv [1, 2, 0] rfl ?_
  exact t_A_takeStepsReadBy_2 C hr  1000 h0 p1 (0 : Int32) V h
theorem c_A_takeStepsReadBy (l : Launch) (E : gE) (base : Nat) (h0 : Nat) (p1 : Nat) (L : gL) (V : gV) {z : Unit × gV} (h : D_A_takeStepsReadBy h0 p1 L V = some z) : g_Met l E base base y_A_takeStepsReadBy b_A_takeStepsReadBy 4 none rm_A_takeStepsReadBy [tR (some h0), tR (some p1)] L V none L z.2 :=
  r_enter R_A (by decide) rfl [tR (some h0), tR (some p1)] [(0, tR (some h0)), (1, tR (some p1))] rfl (Nat.le_of_ble_eq_true rfl) (fun p e s m args below meth c C hr hnm => t_A_takeStepsReadBy_0 C hr h0 p1 V h)
def rm_A_takeNeeded : Room := { frames := 3, cells := 0, slots := 0, locals := 65 }
def D_A_takeNeeded_31 (L : gL) (K7 : Nat → Int32 → Int32 → gV → Option (Unit × gV)) (v0 : Nat) (v1 : Int32) (v2 : Int32) (v3 : Option Nat) (V : gV) : Option (Unit × gV) :=
  Option.bind v3 fun a1 =>
    Option.bind (g_rI L V 2 a1 7) fun x2 =>
    (if x2 = 0 then
    K7 v0 v1 (v2 + (-1 : Int32)) V
  else
    Option.bind ((L).2 3 v0) fun n5 =>
    g_b2 (D_A_takeStepsReadBy v0 a1 L V) fun r3 V4 =>
    K7 v0 v1 (v2 + (-1 : Int32)) V4)
def D_A_takeNeeded_7 (L : gL) : Nat → Nat → Int32 → Int32 → gV → Option (Unit × gV)
  | 0, _, _, _, _ => none
  | n + 1, v0, v1, v2, V =>
  (if v2 < 0 then
    some ((), V)
  else
    Option.bind (g_rR L V 3 v0 2) fun x1 =>
    Option.bind x1 fun a2 =>
    Option.bind (g_aR L V 104 a2 v2) fun x3 =>
    (if (((v1.toUInt32 >>> (v2.toUInt32 &&& Int32.toUInt32 31)).toInt32) &&& (1 : Int32)) = 0 then
    D_A_takeNeeded_31 L (D_A_takeNeeded_7 L  n) v0 v1 v2 x3 V
  else
    Option.bind x3 fun a4 =>
    Option.bind (g_wr L V 2 a4 7 (tI (1 : Int32))) fun V5 =>
    D_A_takeNeeded_31 L (D_A_takeNeeded_7 L  n) v0 v1 v2 (some a4) V5))
def D_A_takeNeeded (h0 : Nat) (p1 : Int32) (L : gL) (V : gV) : Option (Unit × gV) :=
  Option.bind (g_rI L V 3 h0 3) fun x1 =>
    D_A_takeNeeded_7 L  1000 h0 p1 (x1 - (1 : Int32)) V
set_option maxHeartbeats 4000000 in
set_option maxRecDepth 100000 in
theorem t_A_takeNeeded_31 (C : gC E base p s m args meth c b_A_takeNeeded R_A 4) (hr : meth.sig.returnType = none) {z : Unit × gV} (K7 : Nat → Int32 → Int32 → gV → Option (Unit × gV)) (hK7 : ∀ (v0 : Nat) (v1 : Int32) (v2 : Int32) (V : gV), K7 v0 v1 v2 V = some z → vW E base base 4 p l e rm_A_takeNeeded s m args below meth c 0 0 (g_MQ E base base below args s 0 0 L z.2 none) L V 7 [(0, tR (some v0)), (1, tI v1), (2, tI v2)] []) (v0 : Nat) (v1 : Int32) (v2 : Int32) (v3 : Option Nat) (V : gV) (h : D_A_takeNeeded_31 L K7 v0 v1 v2 v3 V = some z) : vW E base base 4 p l e rm_A_takeNeeded s m args below meth c 0 0 (g_MQ E base base below args s 0 0 L z.2 none) L V 31 [(0, tR (some v0)), (1, tI v1), (2, tI v2), (3, tR v3)] [] := by
  unfold D_A_takeNeeded_31 at h
  refine r_aload_n (x := v3) C d_A_takeNeeded_31 rfl rfl ?_
  replace h := g_ob h; obtain ⟨a1, rfl, h⟩ := h
  replace h := g_ob h; obtain ⟨x2, e_x2, h⟩ := h
  refine r_getI C f_A_88 d_A_takeNeeded_32 e_x2 ?_
  refine r_if_eq C 43 d_A_takeNeeded_35 (by decide) (fun c6 => ?_) (fun c6 => ?_)
  · rw [if_pos c6] at h
    refine r_iinc (x := v2) (v := v2 + (-1 : Int32)) (lv' := [(2, tI (v2 + (-1 : Int32))), (0, tR (some v0)), (1, tI v1), (3, tR (some a1))]) C d_A_takeNeeded_43 rfl rfl (by decide) rfl ?_
    refine r_goto C 7 d_A_takeNeeded_46 (by decide) ?_
    refine r_lv [1, 2, 0] rfl ?_
    exact hK7 v0 v1 (v2 + (-1 : Int32)) V h
  · rw [if_neg c6] at h
    refine r_aload_n (x := (some v0)) C d_A_takeNeeded_38 rfl rfl ?_
    refine r_aload_n (x := (some a1)) C d_A_takeNeeded_39 rfl rfl ?_
    replace h := g_ob h; obtain ⟨n5, e_n5, h⟩ := h
    replace h := g_o2 h; obtain ⟨r3, V4, e_r3, h⟩ := h
    refine r_callV (As := [tR (some a1)]) C k_A_146 w_138 w_139 w_136 ⟨_, _, rfl⟩ (c_A_takeStepsReadBy l E base v0 a1 L V e_r3) d_A_takeNeeded_40 e_n5 rfl ⟨Nat.le_of_ble_eq_true rfl, Nat.le_of_ble_eq_true rfl⟩ (Nat.le_of_ble_eq_true rfl) (Nat.le_of_ble_eq_true rfl) (Nat.le_of_ble_eq_true rfl) rfl ?_
    refine r_iinc (x := v2) (v := v2 + (-1 : Int32)) (lv' := [(2, tI (v2 + (-1 : Int32))), (0, tR (some v0)), (1, tI v1), (3, tR (some a1))]) C d_A_takeNeeded_43 rfl rfl (by decide) rfl ?_
    refine r_goto C 7 d_A_takeNeeded_46 (by decide) ?_
    refine r_lv [1, 2, 0] rfl ?_
    exact hK7 v0 v1 (v2 + (-1 : Int32)) V4 h
set_option maxHeartbeats 4000000 in
set_option maxRecDepth 100000 in
theorem t_A_takeNeeded_7 (C : gC E base p s m args meth c b_A_takeNeeded R_A 4) (hr : meth.sig.returnType = none) {z : Unit × gV} : ∀ (n : Nat) (v0 : Nat) (v1 : Int32) (v2 : Int32) (V : gV), D_A_takeNeeded_7 L  n v0 v1 v2 V = some z → vW E base base 4 p l e rm_A_takeNeeded s m args below meth c 0 0 (g_MQ E base base below args s 0 0 L z.2 none) L V 7 [(0, tR (some v0)), (1, tI v1), (2, tI v2)] [] := by
  intro n
  induction n with
  | zero =>
    intro v0 v1 v2 V h
    rw [D_A_takeNeeded_7] at h
    cases h
  | succ n ih =>
    intro v0 v1 v2 V h
    rw [D_A_takeNeeded_7] at h
    refine r_iload_n (x := v2) C d_A_takeNeeded_7 rfl rfl ?_
    refine r_if_lt C 49 d_A_takeNeeded_8 (by decide) (fun c7 => ?_) (fun c7 => ?_)
    · rw [if_pos c7] at h
      cases h
      exact r_vret C hr d_A_takeNeeded_49
    · rw [if_neg c7] at h
      refine r_aload_n (x := (some v0)) C d_A_takeNeeded_11 rfl rfl ?_
      replace h := g_ob h; obtain ⟨x1, e_x1, h⟩ := h
      refine r_getR C f_A_21 d_A_takeNeeded_12 e_x1 ?_
      refine r_iload_n (x := v2) C d_A_takeNeeded_15 rfl rfl ?_
      replace h := g_ob h; obtain ⟨a2, rfl, h⟩ := h
      replace h := g_ob h; obtain ⟨x3, e_x3, h⟩ := h
      refine r_aald C ak_104 rfl d_A_takeNeeded_16 e_x3 ?_
      refine r_astore_n (lv' := [(3, tR x3), (0, tR (some v0)), (1, tI v1), (2, tI v2)]) C d_A_takeNeeded_17 rfl (by decide) rfl ?_
      refine r_iload_n (x := v1) C d_A_takeNeeded_18 rfl rfl ?_
      refine r_iload_n (x := v2) C d_A_takeNeeded_19 rfl rfl ?_
      refine r_iushr C d_A_takeNeeded_20 ?_
      refine r_iconst C (1 : Int32) d_A_takeNeeded_21 (by decide) ?_
      refine r_iand C d_A_takeNeeded_22 ?_
      refine r_if_eq C 31 d_A_takeNeeded_23 (by decide) (fun c6 => ?_) (fun c6 => ?_)
      · rw [if_pos c6] at h
        refine r_lv [1, 2, 3, 0] rfl ?_
        exact t_A_takeNeeded_31 C hr (D_A_takeNeeded_7 L  n) ih v0 v1 v2 x3 V h
      · rw [if_neg c6] at h
        refine r_aload_n (x := x3) C d_A_takeNeeded_26 rfl rfl ?_
        refine r_iconst C (1 : Int32) d_A_takeNeeded_27 (by decide) ?_
        replace h := g_ob h; obtain ⟨a4, rfl, h⟩ := h
        replace h := g_ob h; obtain ⟨V5, e_V5, h⟩ := h
        refine r_put C f_A_88 d_A_takeNeeded_28 e_V5 (g_nZ (x := (1 : Int32)) (Or.inr rfl)).1 (g_nZ (x := (1 : Int32)) (Or.inr rfl)).2 ?_
        refine r_lv [1, 2, 3, 0] rfl ?_
        exact t_A_takeNeeded_31 C hr (D_A_takeNeeded_7 L  n) ih v0 v1 v2 (some a4) V5 h
set_option maxHeartbeats 4000000 in
set_option maxRecDepth 100000 in
theorem t_A_takeNeeded_0 (C : gC E base p s m args meth c b_A_takeNeeded R_A 4) (hr : meth.sig.returnType = none) {z : Unit × gV} (h0 : Nat) (p1 : Int32) (V : gV) (h : D_A_takeNeeded h0 p1 L V = some z) : vW E base base 4 p l e rm_A_takeNeeded s m args below meth c 0 0 (g_MQ E base base below args s 0 0 L z.2 none) L V 0 [(0, tR (some h0)), (1, tI p1)] [] := by
  unfold D_A_takeNeeded at h
  refine r_aload_n (x := (some h0)) C d_A_takeNeeded_0 rfl rfl ?_
  replace h := g_ob h; obtain ⟨x1, e_x1, h⟩ := h
  refine r_getI C f_A_25 d_A_takeNeeded_1 e_x1 ?_
  refine r_iconst C (1 : Int32) d_A_takeNeeded_4 (by decide) ?_
  refine r_isub C d_A_takeNeeded_5 ?_
  refine r_istore_n (lv' := [(2, tI (x1 - (1 : Int32))), (0, tR (some h0)), (1, tI p1)]) C d_A_takeNeeded_6 rfl (by decide) rfl ?_
  refine r_lv [1, 2, 0] rfl ?_
  exact t_A_takeNeeded_7 C hr  1000 h0 p1 (x1 - (1 : Int32)) V h
theorem c_A_takeNeeded (l : Launch) (E : gE) (base : Nat) (h0 : Nat) (p1 : Int32) (L : gL) (V : gV) {z : Unit × gV} (h : D_A_takeNeeded h0 p1 L V = some z) : g_Met l E base base y_A_takeNeeded b_A_takeNeeded 4 none rm_A_takeNeeded [tR (some h0), tI p1] L V none L z.2 :=
  r_enter R_A (by decide) rfl [tR (some h0), tI p1] [(0, tR (some h0)), (1, tI p1)] rfl (Nat.le_of_ble_eq_true rfl) (fun p e s m args below meth c C hr hnm => t_A_takeNeeded_0 C hr h0 p1 V h)
def rm_A_isThereNow : Room := { frames := 1, cells := 0, slots := 0, locals := 21 }
def D_A_isThereNow (h0 : Nat) (p1 : Int32) (L : gL) (V : gV) : Option (Int32 × gV) :=
  g_b2 (D_A_isFileCode p1 L V) fun r1 V2 =>
    (if r1 = 0 then
    some ((1 : Int32), V2)
  else
    Option.bind ((L).2 3 h0) fun n8 =>
    g_b2 (D_A_sourceAt h0 p1 L V2) fun r3 V4 =>
    (g_on r3
    (some ((0 : Int32), V4))
    (fun a5 =>
    Option.bind (g_rI L V4 1 a5 0) fun x6 =>
    (if x6 = 0 then
    some ((0 : Int32), V4)
  else
    some ((1 : Int32), V4)))))
set_option maxHeartbeats 4000000 in
set_option maxRecDepth 100000 in
theorem t_A_isThereNow_0 (C : gC E bA p s m args meth c b_A_isThereNow R_A 3) (hr : meth.sig.returnType = (some .boolean)) {z : Int32 × gV} (h0 : Nat) (p1 : Int32) (V : gV) (h : D_A_isThereNow h0 p1 L V = some z) : vW E base bA 3 p l e rm_A_isThereNow s m args below meth c 0 0 (g_MQ E base bA below args s 0 0 L z.2 (some (tI z.1))) L V 0 [(0, tR (some h0)), (1, tI p1)] [] := by
  unfold D_A_isThereNow at h
  refine r_iload_n (x := p1) C d_A_isThereNow_0 rfl rfl ?_
  replace h := g_o2 h; obtain ⟨r1, V2, e_r1, h⟩ := h
  refine r_callS (As := [tI p1]) C k_A_152 w_135 w_129 (c_A_isFileCode l E base bA p1 L V e_r1) d_A_isThereNow_1 rfl ⟨Nat.le_of_ble_eq_true rfl, Nat.le_of_ble_eq_true rfl⟩ (Nat.le_of_ble_eq_true rfl) (Nat.le_of_ble_eq_true rfl) (Nat.le_of_ble_eq_true rfl) rfl ?_
  refine r_if_ne C 9 d_A_isThereNow_4 (by decide) (fun c9 => ?_) (fun c9 => ?_)
  · rw [if_neg c9] at h
    refine r_aload_n (x := (some h0)) C d_A_isThereNow_9 rfl rfl ?_
    refine r_iload_n (x := p1) C d_A_isThereNow_10 rfl rfl ?_
    replace h := g_ob h; obtain ⟨n8, e_n8, h⟩ := h
    replace h := g_o2 h; obtain ⟨r3, V4, e_r3, h⟩ := h
    refine r_callV (As := [tI p1]) C k_A_41 w_95 w_96 w_90 ⟨_, _, rfl⟩ (c_A_sourceAt l E base bA h0 p1 L V2 e_r3) d_A_isThereNow_11 e_n8 rfl ⟨Nat.le_of_ble_eq_true rfl, Nat.le_of_ble_eq_true rfl⟩ (Nat.le_of_ble_eq_true rfl) (Nat.le_of_ble_eq_true rfl) (Nat.le_of_ble_eq_true rfl) rfl ?_
    refine r_astore_n (lv' := [(2, tR r3), (0, tR (some h0)), (1, tI p1)]) C d_A_isThereNow_14 rfl (by decide) rfl ?_
    refine r_aload_n (x := r3) C d_A_isThereNow_15 rfl rfl ?_
    replace h := g_oon h; rcases h with ⟨rfl, h⟩ | ⟨a5, rfl, h⟩
    · refine r_ifnull_t C 30 d_A_isThereNow_16 (by decide) ?_
      refine r_iconst C (0 : Int32) d_A_isThereNow_30 (by decide) ?_
      cases h
      exact r_zret C hr d_A_isThereNow_31 (Or.inl rfl)
    · refine r_ifnull_f C d_A_isThereNow_16 ?_
      refine r_aload_n (x := (some a5)) C d_A_isThereNow_19 rfl rfl ?_
      replace h := g_ob h; obtain ⟨x6, e_x6, h⟩ := h
      refine r_getI C f_A_45 d_A_isThereNow_20 e_x6 ?_
      refine r_if_eq C 30 d_A_isThereNow_23 (by decide) (fun c7 => ?_) (fun c7 => ?_)
      · rw [if_pos c7] at h
        refine r_iconst C (0 : Int32) d_A_isThereNow_30 (by decide) ?_
        cases h
        exact r_zret C hr d_A_isThereNow_31 (Or.inl rfl)
      · rw [if_neg c7] at h
        refine r_iconst C (1 : Int32) d_A_isThereNow_26 (by decide) ?_
        refine r_goto C 31 d_A_isThereNow_27 (by decide) ?_
        cases h
        exact r_zret C hr d_A_isThereNow_31 (Or.inr rfl)
  · rw [if_pos c9] at h
    refine r_iconst C (1 : Int32) d_A_isThereNow_7 (by decide) ?_
    cases h
    exact r_zret C hr d_A_isThereNow_8 (Or.inr rfl)
theorem c_A_isThereNow (l : Launch) (E : gE) (base bA : Nat) (h0 : Nat) (p1 : Int32) (L : gL) (V : gV) {z : Int32 × gV} (h : D_A_isThereNow h0 p1 L V = some z) : g_Met l E base bA y_A_isThereNow b_A_isThereNow 3 (some .boolean) rm_A_isThereNow [tR (some h0), tI p1] L V (some (tI z.1)) L z.2 :=
  r_enter R_A (by decide) rfl [tR (some h0), tI p1] [(0, tR (some h0)), (1, tI p1)] rfl (Nat.le_of_ble_eq_true rfl) (fun p e s m args below meth c C hr hnm => t_A_isThereNow_0 C hr h0 p1 V h)
def rm_A_partOfCode : Room := { frames := 0, cells := 0, slots := 0, locals := 0 }
def D_A_partOfCode (p0 : Int32) (L : gL) (V : gV) : Option (Int32 × gV) :=
  some ((p0 - (16 : Int32)) - (p0 - (16 : Int32)) / (2 : Int32) * (2 : Int32), V)
set_option maxHeartbeats 4000000 in
set_option maxRecDepth 100000 in
theorem t_A_partOfCode_0 (C : gC E bA p s m args meth c b_A_partOfCode R_A 1) (hr : meth.sig.returnType = (some .int)) {z : Int32 × gV} (p0 : Int32) (V : gV) (h : D_A_partOfCode p0 L V = some z) : vW E base bA 1 p l e rm_A_partOfCode s m args below meth c 0 0 (g_MQ E base bA below args s 0 0 L z.2 (some (tI z.1))) L V 0 [(0, tI p0)] [] := by
  unfold D_A_partOfCode at h
  refine r_iload_n (x := p0) C d_A_partOfCode_0 rfl rfl ?_
  refine r_bipush C (16 : Int32) d_A_partOfCode_1 (by decide) ?_
  refine r_isub C d_A_partOfCode_3 ?_
  refine r_iconst C (2 : Int32) d_A_partOfCode_4 (by decide) ?_
  refine r_irem C d_A_partOfCode_5 (by decide) ?_
  cases h
  exact r_iret C hr d_A_partOfCode_6
theorem c_A_partOfCode (l : Launch) (E : gE) (base bA : Nat) (p0 : Int32) (L : gL) (V : gV) {z : Int32 × gV} (h : D_A_partOfCode p0 L V = some z) : g_Met l E base bA y_A_partOfCode b_A_partOfCode 1 (some .int) rm_A_partOfCode [tI p0] L V (some (tI z.1)) L z.2 :=
  r_enter R_A (by decide) rfl [tI p0] [(0, tI p0)] rfl (Nat.le_of_ble_eq_true rfl) (fun p e s m args below meth c C hr hnm => t_A_partOfCode_0 C hr p0 V h)
def rm_A_valueNow : Room := { frames := 2, cells := 0, slots := 0, locals := 42 }
def D_A_valueNow_45 (L : gL) (v1 : Int32) (s0 : Option Nat) (V : gV) : Option (Int64 × gV) :=
  (g_on s0
    (some ((0 : Int64), V))
    (fun a1 =>
    g_b2 (D_A_partOfCode v1 L V) fun r2 V3 =>
    Option.bind ((L).2 0 a1) fun n6 =>
    g_b2 (D_N_partOfOutput a1 r2 L V3) fun r4 V5 =>
    some (r4, V5)))
def D_A_valueNow (h0 : Nat) (p1 : Int32) (L : gL) (V : gV) : Option (Int64 × gV) :=
  g_b2 (D_A_isFileCode p1 L V) fun r1 V2 =>
    (if r1 = 0 then
    Option.bind ((L).2 3 h0) fun n9 =>
    g_b2 (D_A_stepOfCode h0 p1 L V2) fun r3 V4 =>
    (g_on r3
    (D_A_valueNow_45 L  p1 none V4)
    (fun a5 =>
    Option.bind ((L).2 2 a5) fun n8 =>
    g_b2 (D_T_entryAt a5 (0 : Int32) L V4) fun r6 V7 =>
    D_A_valueNow_45 L  p1 r6 V7))
  else
    Option.bind ((L).2 3 h0) fun n14 =>
    g_b2 (D_A_sourceAt h0 p1 L V2) fun r10 V11 =>
    (g_on r10
    (some ((0 : Int64), V11))
    (fun a12 =>
    Option.bind (g_rJ L V11 1 a12 1) fun x13 =>
    some (x13, V11))))
set_option maxHeartbeats 4000000 in
set_option maxRecDepth 100000 in
theorem t_A_valueNow_45 (C : gC E bA p s m args meth c b_A_valueNow R_A 4) (hr : meth.sig.returnType = (some .long)) {z : Int64 × gV} (v1 : Int32) (s0 : Option Nat) (V : gV) (h : D_A_valueNow_45 L  v1 s0 V = some z) : vW E base bA 4 p l e rm_A_valueNow s m args below meth c 0 0 (g_MQ E base bA below args s 0 0 L z.2 (some (tJ z.1))) L V 45 [(1, tI v1)] [tR s0] := by
  unfold D_A_valueNow_45 at h
  refine r_astore_n (lv' := [(3, tR s0), (1, tI v1)]) C d_A_valueNow_45 rfl (by decide) rfl ?_
  refine r_aload_n (x := s0) C d_A_valueNow_46 rfl rfl ?_
  replace h := g_oon h; rcases h with ⟨rfl, h⟩ | ⟨a1, rfl, h⟩
  · refine r_ifnonnull_f C d_A_valueNow_47 ?_
    refine r_lconst C (0 : Int64) d_A_valueNow_50 (by decide) ?_
    refine r_goto C 62 d_A_valueNow_51 (by decide) ?_
    cases h
    exact r_lret C hr d_A_valueNow_62
  · refine r_ifnonnull_t C 54 d_A_valueNow_47 (by decide) ?_
    refine r_aload_n (x := (some a1)) C d_A_valueNow_54 rfl rfl ?_
    refine r_iload_n (x := v1) C d_A_valueNow_55 rfl rfl ?_
    replace h := g_o2 h; obtain ⟨r2, V3, e_r2, h⟩ := h
    refine r_callS (As := [tI v1]) C k_A_217 w_159 w_153 (c_A_partOfCode l E base bA v1 L V e_r2) d_A_valueNow_56 rfl ⟨Nat.le_of_ble_eq_true rfl, Nat.le_of_ble_eq_true rfl⟩ (Nat.le_of_ble_eq_true rfl) (Nat.le_of_ble_eq_true rfl) (Nat.le_of_ble_eq_true rfl) rfl ?_
    replace h := g_ob h; obtain ⟨n6, e_n6, h⟩ := h
    replace h := g_o2 h; obtain ⟨r4, V5, e_r4, h⟩ := h
    refine r_callV (As := [tI r2]) C k_A_123 w_157 w_158 w_155 ⟨_, _, rfl⟩ (c_N_partOfOutput l E base bA a1 r2 L V3 e_r4) d_A_valueNow_59 e_n6 rfl ⟨Nat.le_of_ble_eq_true rfl, Nat.le_of_ble_eq_true rfl⟩ (Nat.le_of_ble_eq_true rfl) (Nat.le_of_ble_eq_true rfl) (Nat.le_of_ble_eq_true rfl) rfl ?_
    cases h
    exact r_lret C hr d_A_valueNow_62
set_option maxHeartbeats 4000000 in
set_option maxRecDepth 100000 in
theorem t_A_valueNow_0 (C : gC E bA p s m args meth c b_A_valueNow R_A 4) (hr : meth.sig.returnType = (some .long)) {z : Int64 × gV} (h0 : Nat) (p1 : Int32) (V : gV) (h : D_A_valueNow h0 p1 L V = some z) : vW E base bA 4 p l e rm_A_valueNow s m args below meth c 0 0 (g_MQ E base bA below args s 0 0 L z.2 (some (tJ z.1))) L V 0 [(0, tR (some h0)), (1, tI p1)] [] := by
  unfold D_A_valueNow at h
  refine r_iload_n (x := p1) C d_A_valueNow_0 rfl rfl ?_
  replace h := g_o2 h; obtain ⟨r1, V2, e_r1, h⟩ := h
  refine r_callS (As := [tI p1]) C k_A_152 w_135 w_129 (c_A_isFileCode l E base bA p1 L V e_r1) d_A_valueNow_1 rfl ⟨Nat.le_of_ble_eq_true rfl, Nat.le_of_ble_eq_true rfl⟩ (Nat.le_of_ble_eq_true rfl) (Nat.le_of_ble_eq_true rfl) (Nat.le_of_ble_eq_true rfl) rfl ?_
  refine r_if_eq C 26 d_A_valueNow_4 (by decide) (fun c15 => ?_) (fun c15 => ?_)
  · rw [if_pos c15] at h
    refine r_aload_n (x := (some h0)) C d_A_valueNow_26 rfl rfl ?_
    refine r_iload_n (x := p1) C d_A_valueNow_27 rfl rfl ?_
    replace h := g_ob h; obtain ⟨n9, e_n9, h⟩ := h
    replace h := g_o2 h; obtain ⟨r3, V4, e_r3, h⟩ := h
    refine r_callV (As := [tI p1]) C k_A_155 w_133 w_134 w_131 ⟨_, _, rfl⟩ (c_A_stepOfCode l E base bA h0 p1 L V2 e_r3) d_A_valueNow_28 e_n9 rfl ⟨Nat.le_of_ble_eq_true rfl, Nat.le_of_ble_eq_true rfl⟩ (Nat.le_of_ble_eq_true rfl) (Nat.le_of_ble_eq_true rfl) (Nat.le_of_ble_eq_true rfl) rfl ?_
    refine r_astore_n (lv' := [(2, tR r3), (0, tR (some h0)), (1, tI p1)]) C d_A_valueNow_31 rfl (by decide) rfl ?_
    refine r_aload_n (x := r3) C d_A_valueNow_32 rfl rfl ?_
    replace h := g_oon h; rcases h with ⟨rfl, h⟩ | ⟨a5, rfl, h⟩
    · refine r_ifnonnull_f C d_A_valueNow_33 ?_
      refine r_null C d_A_valueNow_36 ?_
      refine r_goto C 45 d_A_valueNow_37 (by decide) ?_
      refine r_lv [2] rfl ?_
      exact t_A_valueNow_45 C hr  p1 none V4 h
    · refine r_ifnonnull_t C 40 d_A_valueNow_33 (by decide) ?_
      refine r_aload_n (x := (some a5)) C d_A_valueNow_40 rfl rfl ?_
      refine r_iconst C (0 : Int32) d_A_valueNow_41 (by decide) ?_
      replace h := g_ob h; obtain ⟨n8, e_n8, h⟩ := h
      replace h := g_o2 h; obtain ⟨r6, V7, e_r6, h⟩ := h
      refine r_callV (As := [tI (0 : Int32)]) C k_A_108 w_148 w_149 w_146 ⟨_, _, rfl⟩ (c_T_entryAt l E base bA a5 (0 : Int32) L V4 e_r6) d_A_valueNow_42 e_n8 rfl ⟨Nat.le_of_ble_eq_true rfl, Nat.le_of_ble_eq_true rfl⟩ (Nat.le_of_ble_eq_true rfl) (Nat.le_of_ble_eq_true rfl) (Nat.le_of_ble_eq_true rfl) rfl ?_
      refine r_lv [2] rfl ?_
      exact t_A_valueNow_45 C hr  p1 r6 V7 h
  · rw [if_neg c15] at h
    refine r_aload_n (x := (some h0)) C d_A_valueNow_7 rfl rfl ?_
    refine r_iload_n (x := p1) C d_A_valueNow_8 rfl rfl ?_
    replace h := g_ob h; obtain ⟨n14, e_n14, h⟩ := h
    replace h := g_o2 h; obtain ⟨r10, V11, e_r10, h⟩ := h
    refine r_callV (As := [tI p1]) C k_A_41 w_95 w_96 w_90 ⟨_, _, rfl⟩ (c_A_sourceAt l E base bA h0 p1 L V2 e_r10) d_A_valueNow_9 e_n14 rfl ⟨Nat.le_of_ble_eq_true rfl, Nat.le_of_ble_eq_true rfl⟩ (Nat.le_of_ble_eq_true rfl) (Nat.le_of_ble_eq_true rfl) (Nat.le_of_ble_eq_true rfl) rfl ?_
    refine r_astore_n (lv' := [(2, tR r10), (0, tR (some h0)), (1, tI p1)]) C d_A_valueNow_12 rfl (by decide) rfl ?_
    refine r_aload_n (x := r10) C d_A_valueNow_13 rfl rfl ?_
    replace h := g_oon h; rcases h with ⟨rfl, h⟩ | ⟨a12, rfl, h⟩
    · refine r_ifnonnull_f C d_A_valueNow_14 ?_
      refine r_lconst C (0 : Int64) d_A_valueNow_17 (by decide) ?_
      refine r_goto C 25 d_A_valueNow_18 (by decide) ?_
      cases h
      exact r_lret C hr d_A_valueNow_25
    · refine r_ifnonnull_t C 21 d_A_valueNow_14 (by decide) ?_
      refine r_aload_n (x := (some a12)) C d_A_valueNow_21 rfl rfl ?_
      replace h := g_ob h; obtain ⟨x13, e_x13, h⟩ := h
      refine r_getJ C f_A_49 d_A_valueNow_22 e_x13 ?_
      cases h
      exact r_lret C hr d_A_valueNow_25
theorem c_A_valueNow (l : Launch) (E : gE) (base bA : Nat) (h0 : Nat) (p1 : Int32) (L : gL) (V : gV) {z : Int64 × gV} (h : D_A_valueNow h0 p1 L V = some z) : g_Met l E base bA y_A_valueNow b_A_valueNow 4 (some .long) rm_A_valueNow [tR (some h0), tI p1] L V (some (tJ z.1)) L z.2 :=
  r_enter R_A (by decide) rfl [tR (some h0), tI p1] [(0, tR (some h0)), (1, tI p1)] rfl (Nat.le_of_ble_eq_true rfl) (fun p e s m args below meth c C hr hnm => t_A_valueNow_0 C hr h0 p1 V h)
def rm_A_marksItsReader : Room := { frames := 3, cells := 0, slots := 0, locals := 65 }
def D_A_marksItsReader (h0 : Nat) (p1 : Int32) (p2 : Nat) (p3 : Int32) (L : gL) (V : gV) : Option (Int32 × gV) :=
  g_b2 (D_A_isFileCode p1 L V) fun r1 V2 =>
    (if r1 = 0 then
    Option.bind ((L).2 3 h0) fun n8 =>
    g_b2 (D_A_stepOfCode h0 p1 L V2) fun r3 V4 =>
    (g_on r3
    (some ((0 : Int32), V4))
    (fun a5 =>
    Option.bind (g_rI L V4 2 a5 8) fun x6 =>
    (if x6 = 0 then
    some ((0 : Int32), V4)
  else
    some ((1 : Int32), V4))))
  else
    Option.bind ((L).2 3 h0) fun n18 =>
    g_b2 (D_A_isThereNow h0 p1 L V2) fun r9 V10 =>
    Option.bind ((L).2 3 h0) fun n17 =>
    g_b2 (D_A_valueNow h0 p1 L V10) fun r11 V12 =>
    Option.bind ((L).2 0 p2) fun n16 =>
    g_b2 (D_N_differsAt p2 p3 r9 r11 L V12) fun r13 V14 =>
    Option.bind (g_bz r13) fun _ =>
    some (r13, V14))
set_option maxHeartbeats 4000000 in
set_option maxRecDepth 100000 in
theorem t_A_marksItsReader_0 (C : gC E bA p s m args meth c b_A_marksItsReader R_A 5) (hr : meth.sig.returnType = (some .boolean)) {z : Int32 × gV} (h0 : Nat) (p1 : Int32) (p2 : Nat) (p3 : Int32) (V : gV) (h : D_A_marksItsReader h0 p1 p2 p3 L V = some z) : vW E base bA 5 p l e rm_A_marksItsReader s m args below meth c 0 0 (g_MQ E base bA below args s 0 0 L z.2 (some (tI z.1))) L V 0 [(0, tR (some h0)), (1, tI p1), (2, tR (some p2)), (3, tI p3)] [] := by
  unfold D_A_marksItsReader at h
  refine r_iload_n (x := p1) C d_A_marksItsReader_0 rfl rfl ?_
  replace h := g_o2 h; obtain ⟨r1, V2, e_r1, h⟩ := h
  refine r_callS (As := [tI p1]) C k_A_152 w_135 w_129 (c_A_isFileCode l E base bA p1 L V e_r1) d_A_marksItsReader_1 rfl ⟨Nat.le_of_ble_eq_true rfl, Nat.le_of_ble_eq_true rfl⟩ (Nat.le_of_ble_eq_true rfl) (Nat.le_of_ble_eq_true rfl) (Nat.le_of_ble_eq_true rfl) rfl ?_
  refine r_if_eq C 23 d_A_marksItsReader_4 (by decide) (fun c19 => ?_) (fun c19 => ?_)
  · rw [if_pos c19] at h
    refine r_aload_n (x := (some h0)) C d_A_marksItsReader_23 rfl rfl ?_
    refine r_iload_n (x := p1) C d_A_marksItsReader_24 rfl rfl ?_
    replace h := g_ob h; obtain ⟨n8, e_n8, h⟩ := h
    replace h := g_o2 h; obtain ⟨r3, V4, e_r3, h⟩ := h
    refine r_callV (As := [tI p1]) C k_A_155 w_133 w_134 w_131 ⟨_, _, rfl⟩ (c_A_stepOfCode l E base bA h0 p1 L V2 e_r3) d_A_marksItsReader_25 e_n8 rfl ⟨Nat.le_of_ble_eq_true rfl, Nat.le_of_ble_eq_true rfl⟩ (Nat.le_of_ble_eq_true rfl) (Nat.le_of_ble_eq_true rfl) (Nat.le_of_ble_eq_true rfl) rfl ?_
    refine r_astore (lv' := [(4, tR r3), (0, tR (some h0)), (1, tI p1), (2, tR (some p2)), (3, tI p3)]) C d_A_marksItsReader_28 (by decide) rfl ?_
    refine r_aload (x := r3) C d_A_marksItsReader_30 rfl ?_
    replace h := g_oon h; rcases h with ⟨rfl, h⟩ | ⟨a5, rfl, h⟩
    · refine r_ifnull_t C 47 d_A_marksItsReader_32 (by decide) ?_
      refine r_iconst C (0 : Int32) d_A_marksItsReader_47 (by decide) ?_
      cases h
      exact r_zret C hr d_A_marksItsReader_48 (Or.inl rfl)
    · refine r_ifnull_f C d_A_marksItsReader_32 ?_
      refine r_aload (x := (some a5)) C d_A_marksItsReader_35 rfl ?_
      replace h := g_ob h; obtain ⟨x6, e_x6, h⟩ := h
      refine r_getI C f_A_162 d_A_marksItsReader_37 e_x6 ?_
      refine r_if_eq C 47 d_A_marksItsReader_40 (by decide) (fun c7 => ?_) (fun c7 => ?_)
      · rw [if_pos c7] at h
        refine r_iconst C (0 : Int32) d_A_marksItsReader_47 (by decide) ?_
        cases h
        exact r_zret C hr d_A_marksItsReader_48 (Or.inl rfl)
      · rw [if_neg c7] at h
        refine r_iconst C (1 : Int32) d_A_marksItsReader_43 (by decide) ?_
        refine r_goto C 48 d_A_marksItsReader_44 (by decide) ?_
        cases h
        exact r_zret C hr d_A_marksItsReader_48 (Or.inr rfl)
  · rw [if_neg c19] at h
    refine r_aload_n (x := (some p2)) C d_A_marksItsReader_7 rfl rfl ?_
    refine r_iload_n (x := p3) C d_A_marksItsReader_8 rfl rfl ?_
    refine r_aload_n (x := (some h0)) C d_A_marksItsReader_9 rfl rfl ?_
    refine r_iload_n (x := p1) C d_A_marksItsReader_10 rfl rfl ?_
    replace h := g_ob h; obtain ⟨n18, e_n18, h⟩ := h
    replace h := g_o2 h; obtain ⟨r9, V10, e_r9, h⟩ := h
    refine r_callV (As := [tI p1]) C k_A_175 w_165 w_166 w_151 ⟨_, _, rfl⟩ (c_A_isThereNow l E base bA h0 p1 L V2 e_r9) d_A_marksItsReader_11 e_n18 rfl ⟨Nat.le_of_ble_eq_true rfl, Nat.le_of_ble_eq_true rfl⟩ (Nat.le_of_ble_eq_true rfl) (Nat.le_of_ble_eq_true rfl) (Nat.le_of_ble_eq_true rfl) rfl ?_
    refine r_aload_n (x := (some h0)) C d_A_marksItsReader_14 rfl rfl ?_
    refine r_iload_n (x := p1) C d_A_marksItsReader_15 rfl rfl ?_
    replace h := g_ob h; obtain ⟨n17, e_n17, h⟩ := h
    replace h := g_o2 h; obtain ⟨r11, V12, e_r11, h⟩ := h
    refine r_callV (As := [tI p1]) C k_A_178 w_163 w_164 w_160 ⟨_, _, rfl⟩ (c_A_valueNow l E base bA h0 p1 L V10 e_r11) d_A_marksItsReader_16 e_n17 rfl ⟨Nat.le_of_ble_eq_true rfl, Nat.le_of_ble_eq_true rfl⟩ (Nat.le_of_ble_eq_true rfl) (Nat.le_of_ble_eq_true rfl) (Nat.le_of_ble_eq_true rfl) rfl ?_
    replace h := g_ob h; obtain ⟨n16, e_n16, h⟩ := h
    replace h := g_o2 h; obtain ⟨r13, V14, e_r13, h⟩ := h
    refine r_callV (As := [tI p3, tI r9, tJ r11]) C k_A_181 w_13 w_14 w_10 ⟨_, _, rfl⟩ (c_N_differsAt l E base bA p2 p3 r9 r11 L V12 e_r13) d_A_marksItsReader_19 e_n16 rfl ⟨Nat.le_of_ble_eq_true rfl, Nat.le_of_ble_eq_true rfl⟩ (Nat.le_of_ble_eq_true rfl) (Nat.le_of_ble_eq_true rfl) (Nat.le_of_ble_eq_true rfl) rfl ?_
    replace h := g_ob h; obtain ⟨u15, e_u15, h⟩ := h
    cases h
    exact r_zret C hr d_A_marksItsReader_22 (g_bz_spec e_u15)
theorem c_A_marksItsReader (l : Launch) (E : gE) (base bA : Nat) (h0 : Nat) (p1 : Int32) (p2 : Nat) (p3 : Int32) (L : gL) (V : gV) {z : Int32 × gV} (h : D_A_marksItsReader h0 p1 p2 p3 L V = some z) : g_Met l E base bA y_A_marksItsReader b_A_marksItsReader 5 (some .boolean) rm_A_marksItsReader [tR (some h0), tI p1, tR (some p2), tI p3] L V (some (tI z.1)) L z.2 :=
  r_enter R_A (by decide) rfl [tR (some h0), tI p1, tR (some p2), tI p3] [(0, tR (some h0)), (1, tI p1), (2, tR (some p2)), (3, tI p3)] rfl (Nat.le_of_ble_eq_true rfl) (fun p e s m args below meth c C hr hnm => t_A_marksItsReader_0 C hr h0 p1 p2 p3 V h)
def rm_A_isMarked : Room := { frames := 4, cells := 0, slots := 0, locals := 89 }
def D_A_isMarked_21 (L : gL) : Nat → Nat → Nat → Nat → Int32 → gV → Option (Int32 × gV)
  | 0, _, _, _, _, _ => none
  | n + 1, v0, v1, v2, v3, V =>
  Option.bind (g_rI L V 2 v1 3) fun x1 =>
    (if x1 ≤ v3 then
    some ((0 : Int32), V)
  else
    Option.bind (g_rR L V 2 v1 2) fun x2 =>
    Option.bind x2 fun a3 =>
    Option.bind (g_aI L V 100 a3 v3) fun x4 =>
    Option.bind ((L).2 3 v0) fun n8 =>
    g_b2 (D_A_marksItsReader v0 x4 v2 v3 L V) fun r5 V6 =>
    (if r5 = 0 then
    D_A_isMarked_21 L  n v0 v1 v2 (v3 + (1 : Int32)) V6
  else
    some ((1 : Int32), V6)))
def D_A_isMarked (h0 : Nat) (p1 : Nat) (L : gL) (V : gV) : Option (Int32 × gV) :=
  Option.bind ((L).2 2 p1) fun n6 =>
    g_b2 (D_T_entryAt p1 (0 : Int32) L V) fun r1 V2 =>
    (g_on r1
    (some ((1 : Int32), V2))
    (fun a3 =>
    Option.bind (g_rI L V2 2 p1 6) fun x4 =>
    (if x4 = 0 then
    D_A_isMarked_21 L  1000 h0 p1 a3 (0 : Int32) V2
  else
    some ((1 : Int32), V2))))
set_option maxHeartbeats 4000000 in
set_option maxRecDepth 100000 in
theorem t_A_isMarked_21 (C : gC E bA p s m args meth c b_A_isMarked R_A 4) (hr : meth.sig.returnType = (some .boolean)) {z : Int32 × gV} : ∀ (n : Nat) (v0 : Nat) (v1 : Nat) (v2 : Nat) (v3 : Int32) (V : gV), D_A_isMarked_21 L  n v0 v1 v2 v3 V = some z → vW E base bA 4 p l e rm_A_isMarked s m args below meth c 0 0 (g_MQ E base bA below args s 0 0 L z.2 (some (tI z.1))) L V 21 [(0, tR (some v0)), (1, tR (some v1)), (2, tR (some v2)), (3, tI v3)] [] := by
  intro n
  induction n with
  | zero =>
    intro v0 v1 v2 v3 V h
    rw [D_A_isMarked_21] at h
    cases h
  | succ n ih =>
    intro v0 v1 v2 v3 V h
    rw [D_A_isMarked_21] at h
    refine r_iload_n (x := v3) C d_A_isMarked_21 rfl rfl ?_
    refine r_aload_n (x := (some v1)) C d_A_isMarked_22 rfl rfl ?_
    replace h := g_ob h; obtain ⟨x1, e_x1, h⟩ := h
    refine r_getI C f_A_130 d_A_isMarked_23 e_x1 ?_
    refine r_icmp_ge C 52 d_A_isMarked_26 (by decide) (fun c9 => ?_) (fun c9 => ?_)
    · rw [if_pos c9] at h
      refine r_iconst C (0 : Int32) d_A_isMarked_52 (by decide) ?_
      cases h
      exact r_zret C hr d_A_isMarked_53 (Or.inl rfl)
    · rw [if_neg c9] at h
      refine r_aload_n (x := (some v0)) C d_A_isMarked_29 rfl rfl ?_
      refine r_aload_n (x := (some v1)) C d_A_isMarked_30 rfl rfl ?_
      replace h := g_ob h; obtain ⟨x2, e_x2, h⟩ := h
      refine r_getR C f_A_149 d_A_isMarked_31 e_x2 ?_
      refine r_iload_n (x := v3) C d_A_isMarked_34 rfl rfl ?_
      replace h := g_ob h; obtain ⟨a3, rfl, h⟩ := h
      replace h := g_ob h; obtain ⟨x4, e_x4, h⟩ := h
      refine r_iald C ak_100 d_A_isMarked_35 e_x4 ?_
      refine r_aload_n (x := (some v2)) C d_A_isMarked_36 rfl rfl ?_
      refine r_iload_n (x := v3) C d_A_isMarked_37 rfl rfl ?_
      replace h := g_ob h; obtain ⟨n8, e_n8, h⟩ := h
      replace h := g_o2 h; obtain ⟨r5, V6, e_r5, h⟩ := h
      refine r_callV (As := [tI x4, tR (some v2), tI v3]) C k_A_171 w_169 w_170 w_167 ⟨_, _, rfl⟩ (c_A_marksItsReader l E base bA v0 x4 v2 v3 L V e_r5) d_A_isMarked_38 e_n8 rfl ⟨Nat.le_of_ble_eq_true rfl, Nat.le_of_ble_eq_true rfl⟩ (Nat.le_of_ble_eq_true rfl) (Nat.le_of_ble_eq_true rfl) (Nat.le_of_ble_eq_true rfl) rfl ?_
      refine r_if_eq C 46 d_A_isMarked_41 (by decide) (fun c7 => ?_) (fun c7 => ?_)
      · rw [if_pos c7] at h
        refine r_iinc (x := v3) (v := v3 + (1 : Int32)) (lv' := [(3, tI (v3 + (1 : Int32))), (0, tR (some v0)), (1, tR (some v1)), (2, tR (some v2))]) C d_A_isMarked_46 rfl rfl (by decide) rfl ?_
        refine r_goto C 21 d_A_isMarked_49 (by decide) ?_
        refine r_lv [1, 2, 3, 0] rfl ?_
        exact ih v0 v1 v2 (v3 + (1 : Int32)) V6 h
      · rw [if_neg c7] at h
        refine r_iconst C (1 : Int32) d_A_isMarked_44 (by decide) ?_
        cases h
        exact r_zret C hr d_A_isMarked_45 (Or.inr rfl)
set_option maxHeartbeats 4000000 in
set_option maxRecDepth 100000 in
theorem t_A_isMarked_0 (C : gC E bA p s m args meth c b_A_isMarked R_A 4) (hr : meth.sig.returnType = (some .boolean)) {z : Int32 × gV} (h0 : Nat) (p1 : Nat) (V : gV) (h : D_A_isMarked h0 p1 L V = some z) : vW E base bA 4 p l e rm_A_isMarked s m args below meth c 0 0 (g_MQ E base bA below args s 0 0 L z.2 (some (tI z.1))) L V 0 [(0, tR (some h0)), (1, tR (some p1))] [] := by
  unfold D_A_isMarked at h
  refine r_aload_n (x := (some p1)) C d_A_isMarked_0 rfl rfl ?_
  refine r_iconst C (0 : Int32) d_A_isMarked_1 (by decide) ?_
  replace h := g_ob h; obtain ⟨n6, e_n6, h⟩ := h
  replace h := g_o2 h; obtain ⟨r1, V2, e_r1, h⟩ := h
  refine r_callV (As := [tI (0 : Int32)]) C k_A_108 w_148 w_149 w_146 ⟨_, _, rfl⟩ (c_T_entryAt l E base bA p1 (0 : Int32) L V e_r1) d_A_isMarked_2 e_n6 rfl ⟨Nat.le_of_ble_eq_true rfl, Nat.le_of_ble_eq_true rfl⟩ (Nat.le_of_ble_eq_true rfl) (Nat.le_of_ble_eq_true rfl) (Nat.le_of_ble_eq_true rfl) rfl ?_
  refine r_astore_n (lv' := [(2, tR r1), (0, tR (some h0)), (1, tR (some p1))]) C d_A_isMarked_5 rfl (by decide) rfl ?_
  refine r_aload_n (x := r1) C d_A_isMarked_6 rfl rfl ?_
  replace h := g_oon h; rcases h with ⟨rfl, h⟩ | ⟨a3, rfl, h⟩
  · refine r_ifnull_t C 17 d_A_isMarked_7 (by decide) ?_
    refine r_iconst C (1 : Int32) d_A_isMarked_17 (by decide) ?_
    cases h
    exact r_zret C hr d_A_isMarked_18 (Or.inr rfl)
  · refine r_ifnull_f C d_A_isMarked_7 ?_
    refine r_aload_n (x := (some p1)) C d_A_isMarked_10 rfl rfl ?_
    replace h := g_ob h; obtain ⟨x4, e_x4, h⟩ := h
    refine r_getI C f_A_78 d_A_isMarked_11 e_x4 ?_
    refine r_if_eq C 19 d_A_isMarked_14 (by decide) (fun c5 => ?_) (fun c5 => ?_)
    · rw [if_pos c5] at h
      refine r_iconst C (0 : Int32) d_A_isMarked_19 (by decide) ?_
      refine r_istore_n (lv' := [(3, tI (0 : Int32)), (2, tR (some a3)), (0, tR (some h0)), (1, tR (some p1))]) C d_A_isMarked_20 rfl (by decide) rfl ?_
      refine r_lv [2, 3, 1, 0] rfl ?_
      exact t_A_isMarked_21 C hr  1000 h0 p1 a3 (0 : Int32) V2 h
    · rw [if_neg c5] at h
      refine r_iconst C (1 : Int32) d_A_isMarked_17 (by decide) ?_
      cases h
      exact r_zret C hr d_A_isMarked_18 (Or.inr rfl)
theorem c_A_isMarked (l : Launch) (E : gE) (base bA : Nat) (h0 : Nat) (p1 : Nat) (L : gL) (V : gV) {z : Int32 × gV} (h : D_A_isMarked h0 p1 L V = some z) : g_Met l E base bA y_A_isMarked b_A_isMarked 4 (some .boolean) rm_A_isMarked [tR (some h0), tR (some p1)] L V (some (tI z.1)) L z.2 :=
  r_enter R_A (by decide) rfl [tR (some h0), tR (some p1)] [(0, tR (some h0)), (1, tR (some p1))] rfl (Nat.le_of_ble_eq_true rfl) (fun p e s m args below meth c C hr hnm => t_A_isMarked_0 C hr h0 p1 V h)
def rm_A_isBlocked : Room := { frames := 2, cells := 0, slots := 0, locals := 42 }
def D_A_isBlocked_2 (L : gL) : Nat → Nat → Nat → Int32 → gV → Option (Int32 × gV)
  | 0, _, _, _, _ => none
  | n + 1, v0, v1, v2, V =>
  Option.bind (g_rI L V 2 v1 3) fun x1 =>
    (if x1 ≤ v2 then
    some ((0 : Int32), V)
  else
    Option.bind (g_rR L V 2 v1 2) fun x2 =>
    Option.bind x2 fun a3 =>
    Option.bind (g_aI L V 100 a3 v2) fun x4 =>
    g_b2 (D_A_isFileCode x4 L V) fun r5 V6 =>
    (if r5 = 0 then
    Option.bind (g_rR L V6 2 v1 2) fun x7 =>
    Option.bind x7 fun a8 =>
    Option.bind (g_aI L V6 100 a8 v2) fun x9 =>
    Option.bind ((L).2 3 v0) fun n17 =>
    g_b2 (D_A_stepOfCode v0 x9 L V6) fun r10 V11 =>
    (g_on r10
    (D_A_isBlocked_2 L  n v0 v1 (v2 + (1 : Int32)) V11)
    (fun a12 =>
    Option.bind ((L).2 2 a12) fun n16 =>
    g_b2 (D_T_isWithoutOutput a12 L V11) fun r13 V14 =>
    (if r13 = 0 then
    D_A_isBlocked_2 L  n v0 v1 (v2 + (1 : Int32)) V14
  else
    some ((1 : Int32), V14))))
  else
    D_A_isBlocked_2 L  n v0 v1 (v2 + (1 : Int32)) V6))
def D_A_isBlocked (h0 : Nat) (p1 : Nat) (L : gL) (V : gV) : Option (Int32 × gV) :=
  D_A_isBlocked_2 L  1000 h0 p1 (0 : Int32) V
set_option maxHeartbeats 4000000 in
set_option maxRecDepth 100000 in
theorem t_A_isBlocked_2 (C : gC E bA p s m args meth c b_A_isBlocked R_A 4) (hr : meth.sig.returnType = (some .boolean)) {z : Int32 × gV} : ∀ (n : Nat) (v0 : Nat) (v1 : Nat) (v2 : Int32) (V : gV), D_A_isBlocked_2 L  n v0 v1 v2 V = some z → vW E base bA 4 p l e rm_A_isBlocked s m args below meth c 0 0 (g_MQ E base bA below args s 0 0 L z.2 (some (tI z.1))) L V 2 [(0, tR (some v0)), (1, tR (some v1)), (2, tI v2)] [] := by
  intro n
  induction n with
  | zero =>
    intro v0 v1 v2 V h
    rw [D_A_isBlocked_2] at h
    cases h
  | succ n ih =>
    intro v0 v1 v2 V h
    rw [D_A_isBlocked_2] at h
    refine r_iload_n (x := v2) C d_A_isBlocked_2 rfl rfl ?_
    refine r_aload_n (x := (some v1)) C d_A_isBlocked_3 rfl rfl ?_
    replace h := g_ob h; obtain ⟨x1, e_x1, h⟩ := h
    refine r_getI C f_A_130 d_A_isBlocked_4 e_x1 ?_
    refine r_icmp_ge C 52 d_A_isBlocked_7 (by decide) (fun c19 => ?_) (fun c19 => ?_)
    · rw [if_pos c19] at h
      refine r_iconst C (0 : Int32) d_A_isBlocked_52 (by decide) ?_
      cases h
      exact r_zret C hr d_A_isBlocked_53 (Or.inl rfl)
    · rw [if_neg c19] at h
      refine r_aload_n (x := (some v1)) C d_A_isBlocked_10 rfl rfl ?_
      replace h := g_ob h; obtain ⟨x2, e_x2, h⟩ := h
      refine r_getR C f_A_149 d_A_isBlocked_11 e_x2 ?_
      refine r_iload_n (x := v2) C d_A_isBlocked_14 rfl rfl ?_
      replace h := g_ob h; obtain ⟨a3, rfl, h⟩ := h
      replace h := g_ob h; obtain ⟨x4, e_x4, h⟩ := h
      refine r_iald C ak_100 d_A_isBlocked_15 e_x4 ?_
      replace h := g_o2 h; obtain ⟨r5, V6, e_r5, h⟩ := h
      refine r_callS (As := [tI x4]) C k_A_152 w_135 w_129 (c_A_isFileCode l E base bA x4 L V e_r5) d_A_isBlocked_16 rfl ⟨Nat.le_of_ble_eq_true rfl, Nat.le_of_ble_eq_true rfl⟩ (Nat.le_of_ble_eq_true rfl) (Nat.le_of_ble_eq_true rfl) (Nat.le_of_ble_eq_true rfl) rfl ?_
      refine r_if_ne C 46 d_A_isBlocked_19 (by decide) (fun c18 => ?_) (fun c18 => ?_)
      · rw [if_neg c18] at h
        refine r_iinc (x := v2) (v := v2 + (1 : Int32)) (lv' := [(2, tI (v2 + (1 : Int32))), (0, tR (some v0)), (1, tR (some v1))]) C d_A_isBlocked_46 rfl rfl (by decide) rfl ?_
        refine r_goto C 2 d_A_isBlocked_49 (by decide) ?_
        refine r_lv [1, 2, 0] rfl ?_
        exact ih v0 v1 (v2 + (1 : Int32)) V6 h
      · rw [if_pos c18] at h
        refine r_aload_n (x := (some v0)) C d_A_isBlocked_22 rfl rfl ?_
        refine r_aload_n (x := (some v1)) C d_A_isBlocked_23 rfl rfl ?_
        replace h := g_ob h; obtain ⟨x7, e_x7, h⟩ := h
        refine r_getR C f_A_149 d_A_isBlocked_24 e_x7 ?_
        refine r_iload_n (x := v2) C d_A_isBlocked_27 rfl rfl ?_
        replace h := g_ob h; obtain ⟨a8, rfl, h⟩ := h
        replace h := g_ob h; obtain ⟨x9, e_x9, h⟩ := h
        refine r_iald C ak_100 d_A_isBlocked_28 e_x9 ?_
        replace h := g_ob h; obtain ⟨n17, e_n17, h⟩ := h
        replace h := g_o2 h; obtain ⟨r10, V11, e_r10, h⟩ := h
        refine r_callV (As := [tI x9]) C k_A_155 w_133 w_134 w_131 ⟨_, _, rfl⟩ (c_A_stepOfCode l E base bA v0 x9 L V6 e_r10) d_A_isBlocked_29 e_n17 rfl ⟨Nat.le_of_ble_eq_true rfl, Nat.le_of_ble_eq_true rfl⟩ (Nat.le_of_ble_eq_true rfl) (Nat.le_of_ble_eq_true rfl) (Nat.le_of_ble_eq_true rfl) rfl ?_
        refine r_astore_n (lv' := [(3, tR r10), (0, tR (some v0)), (1, tR (some v1)), (2, tI v2)]) C d_A_isBlocked_32 rfl (by decide) rfl ?_
        refine r_aload_n (x := r10) C d_A_isBlocked_33 rfl rfl ?_
        replace h := g_oon h; rcases h with ⟨rfl, h⟩ | ⟨a12, rfl, h⟩
        · refine r_ifnull_t C 46 d_A_isBlocked_34 (by decide) ?_
          refine r_iinc (x := v2) (v := v2 + (1 : Int32)) (lv' := [(2, tI (v2 + (1 : Int32))), (3, tR none), (0, tR (some v0)), (1, tR (some v1))]) C d_A_isBlocked_46 rfl rfl (by decide) rfl ?_
          refine r_goto C 2 d_A_isBlocked_49 (by decide) ?_
          refine r_lv [2, 3, 0] rfl ?_
          exact ih v0 v1 (v2 + (1 : Int32)) V11 h
        · refine r_ifnull_f C d_A_isBlocked_34 ?_
          refine r_aload_n (x := (some a12)) C d_A_isBlocked_37 rfl rfl ?_
          replace h := g_ob h; obtain ⟨n16, e_n16, h⟩ := h
          replace h := g_o2 h; obtain ⟨r13, V14, e_r13, h⟩ := h
          refine r_callV (As := []) C k_A_185 w_177 w_178 w_175 ⟨_, _, rfl⟩ (c_T_isWithoutOutput l E base bA a12 L V11 e_r13) d_A_isBlocked_38 e_n16 rfl ⟨Nat.le_of_ble_eq_true rfl, Nat.le_of_ble_eq_true rfl⟩ (Nat.le_of_ble_eq_true rfl) (Nat.le_of_ble_eq_true rfl) (Nat.le_of_ble_eq_true rfl) rfl ?_
          refine r_if_eq C 46 d_A_isBlocked_41 (by decide) (fun c15 => ?_) (fun c15 => ?_)
          · rw [if_pos c15] at h
            refine r_iinc (x := v2) (v := v2 + (1 : Int32)) (lv' := [(2, tI (v2 + (1 : Int32))), (3, tR (some a12)), (0, tR (some v0)), (1, tR (some v1))]) C d_A_isBlocked_46 rfl rfl (by decide) rfl ?_
            refine r_goto C 2 d_A_isBlocked_49 (by decide) ?_
            refine r_lv [2, 3, 0] rfl ?_
            exact ih v0 v1 (v2 + (1 : Int32)) V14 h
          · rw [if_neg c15] at h
            refine r_iconst C (1 : Int32) d_A_isBlocked_44 (by decide) ?_
            cases h
            exact r_zret C hr d_A_isBlocked_45 (Or.inr rfl)
set_option maxHeartbeats 4000000 in
set_option maxRecDepth 100000 in
theorem t_A_isBlocked_0 (C : gC E bA p s m args meth c b_A_isBlocked R_A 4) (hr : meth.sig.returnType = (some .boolean)) {z : Int32 × gV} (h0 : Nat) (p1 : Nat) (V : gV) (h : D_A_isBlocked h0 p1 L V = some z) : vW E base bA 4 p l e rm_A_isBlocked s m args below meth c 0 0 (g_MQ E base bA below args s 0 0 L z.2 (some (tI z.1))) L V 0 [(0, tR (some h0)), (1, tR (some p1))] [] := by
  unfold D_A_isBlocked at h
  refine r_iconst C (0 : Int32) d_A_isBlocked_0 (by decide) ?_
  refine r_istore_n (lv' := [(2, tI (0 : Int32)), (0, tR (some h0)), (1, tR (some p1))]) C d_A_isBlocked_1 rfl (by decide) rfl ?_
  refine r_lv [1, 2, 0] rfl ?_
  exact t_A_isBlocked_2 C hr  1000 h0 p1 (0 : Int32) V h
theorem c_A_isBlocked (l : Launch) (E : gE) (base bA : Nat) (h0 : Nat) (p1 : Nat) (L : gL) (V : gV) {z : Int32 × gV} (h : D_A_isBlocked h0 p1 L V = some z) : g_Met l E base bA y_A_isBlocked b_A_isBlocked 4 (some .boolean) rm_A_isBlocked [tR (some h0), tR (some p1)] L V (some (tI z.1)) L z.2 :=
  r_enter R_A (by decide) rfl [tR (some h0), tR (some p1)] [(0, tR (some h0)), (1, tR (some p1))] rfl (Nat.le_of_ble_eq_true rfl) (fun p e s m args below meth c C hr hnm => t_A_isBlocked_0 C hr h0 p1 V h)
def rm_A_readNow : Room := { frames := 3, cells := 0, slots := 0, locals := 65 }
def D_A_readNow_7 (L : gL) : Nat → Nat → Nat → Option Nat → Int32 → gV → Option (Option Nat × gV)
  | 0, _, _, _, _, _ => none
  | n + 1, v0, v1, v2, v3, V =>
  Option.bind (g_rI L V 2 v1 3) fun x1 =>
    (if x1 ≤ v3 then
    some (v2, V)
  else
    Option.bind v2 fun a2 =>
    Option.bind (g_rR L V 0 a2 0) fun x3 =>
    Option.bind (g_rR L V 2 v1 2) fun x4 =>
    Option.bind x4 fun a5 =>
    Option.bind (g_aI L V 100 a5 v3) fun x6 =>
    Option.bind ((L).2 3 v0) fun n21 =>
    g_b2 (D_A_isThereNow v0 x6 L V) fun r7 V8 =>
    Option.bind x3 fun a9 =>
    Option.bind (g_bz r7) fun _ =>
    Option.bind (g_wa L V8 102 a9 v3 (tI r7)) fun V10 =>
    Option.bind (g_rR L V10 0 a2 1) fun x11 =>
    Option.bind (g_rR L V10 2 v1 2) fun x12 =>
    Option.bind x12 fun a13 =>
    Option.bind (g_aI L V10 100 a13 v3) fun x14 =>
    Option.bind ((L).2 3 v0) fun n19 =>
    g_b2 (D_A_valueNow v0 x14 L V10) fun r15 V16 =>
    Option.bind x11 fun a17 =>
    Option.bind (g_wa L V16 101 a17 v3 (tJ r15)) fun V18 =>
    D_A_readNow_7 L  n v0 v1 (some a2) (v3 + (1 : Int32)) V18)
def D_A_readNow (h0 : Nat) (p1 : Nat) (L : gL) (V : gV) : Option (Option Nat × gV) :=
  Option.bind ((L).2 2 p1) fun n3 =>
    g_b2 (D_T_spareEntry p1 L V) fun r1 V2 =>
    D_A_readNow_7 L  1000 h0 p1 r1 (0 : Int32) V2
set_option maxHeartbeats 4000000 in
set_option maxRecDepth 100000 in
theorem t_A_readNow_7 (C : gC E base p s m args meth c b_A_readNow R_A 4) (hr : meth.sig.returnType = (some (.object "EarlyCut$Entry"))) {z : Option Nat × gV} : ∀ (n : Nat) (v0 : Nat) (v1 : Nat) (v2 : Option Nat) (v3 : Int32) (V : gV), D_A_readNow_7 L  n v0 v1 v2 v3 V = some z → vW E base base 4 p l e rm_A_readNow s m args below meth c 0 0 (g_MQ E base base below args s 0 0 L z.2 (some (tR z.1))) L V 7 [(0, tR (some v0)), (1, tR (some v1)), (2, tR v2), (3, tI v3)] [] := by
  intro n
  induction n with
  | zero =>
    intro v0 v1 v2 v3 V h
    rw [D_A_readNow_7] at h
    cases h
  | succ n ih =>
    intro v0 v1 v2 v3 V h
    rw [D_A_readNow_7] at h
    refine r_iload_n (x := v3) C d_A_readNow_7 rfl rfl ?_
    refine r_aload_n (x := (some v1)) C d_A_readNow_8 rfl rfl ?_
    replace h := g_ob h; obtain ⟨x1, e_x1, h⟩ := h
    refine r_getI C f_A_130 d_A_readNow_9 e_x1 ?_
    refine r_icmp_ge C 53 d_A_readNow_12 (by decide) (fun c22 => ?_) (fun c22 => ?_)
    · rw [if_pos c22] at h
      refine r_aload_n (x := v2) C d_A_readNow_53 rfl rfl ?_
      cases h
      exact r_aret C hr d_A_readNow_54
    · rw [if_neg c22] at h
      refine r_aload_n (x := v2) C d_A_readNow_15 rfl rfl ?_
      replace h := g_ob h; obtain ⟨a2, rfl, h⟩ := h
      replace h := g_ob h; obtain ⟨x3, e_x3, h⟩ := h
      refine r_getR C f_A_214 d_A_readNow_16 e_x3 ?_
      refine r_iload_n (x := v3) C d_A_readNow_19 rfl rfl ?_
      refine r_aload_n (x := (some v0)) C d_A_readNow_20 rfl rfl ?_
      refine r_aload_n (x := (some v1)) C d_A_readNow_21 rfl rfl ?_
      replace h := g_ob h; obtain ⟨x4, e_x4, h⟩ := h
      refine r_getR C f_A_149 d_A_readNow_22 e_x4 ?_
      refine r_iload_n (x := v3) C d_A_readNow_25 rfl rfl ?_
      replace h := g_ob h; obtain ⟨a5, rfl, h⟩ := h
      replace h := g_ob h; obtain ⟨x6, e_x6, h⟩ := h
      refine r_iald C ak_100 d_A_readNow_26 e_x6 ?_
      replace h := g_ob h; obtain ⟨n21, e_n21, h⟩ := h
      replace h := g_o2 h; obtain ⟨r7, V8, e_r7, h⟩ := h
      refine r_callV (As := [tI x6]) C k_A_175 w_165 w_166 w_151 ⟨_, _, rfl⟩ (c_A_isThereNow l E base base v0 x6 L V e_r7) d_A_readNow_27 e_n21 rfl ⟨Nat.le_of_ble_eq_true rfl, Nat.le_of_ble_eq_true rfl⟩ (Nat.le_of_ble_eq_true rfl) (Nat.le_of_ble_eq_true rfl) (Nat.le_of_ble_eq_true rfl) rfl ?_
      replace h := g_ob h; obtain ⟨a9, rfl, h⟩ := h
      replace h := g_ob h; obtain ⟨u20, e_u20, h⟩ := h
      replace h := g_ob h; obtain ⟨V10, e_V10, h⟩ := h
      refine r_zast C ak_102 d_A_readNow_30 (g_bz_spec e_u20) e_V10 ?_
      refine r_aload_n (x := (some a2)) C d_A_readNow_31 rfl rfl ?_
      replace h := g_ob h; obtain ⟨x11, e_x11, h⟩ := h
      refine r_getR C f_A_133 d_A_readNow_32 e_x11 ?_
      refine r_iload_n (x := v3) C d_A_readNow_35 rfl rfl ?_
      refine r_aload_n (x := (some v0)) C d_A_readNow_36 rfl rfl ?_
      refine r_aload_n (x := (some v1)) C d_A_readNow_37 rfl rfl ?_
      replace h := g_ob h; obtain ⟨x12, e_x12, h⟩ := h
      refine r_getR C f_A_149 d_A_readNow_38 e_x12 ?_
      refine r_iload_n (x := v3) C d_A_readNow_41 rfl rfl ?_
      replace h := g_ob h; obtain ⟨a13, rfl, h⟩ := h
      replace h := g_ob h; obtain ⟨x14, e_x14, h⟩ := h
      refine r_iald C ak_100 d_A_readNow_42 e_x14 ?_
      replace h := g_ob h; obtain ⟨n19, e_n19, h⟩ := h
      replace h := g_o2 h; obtain ⟨r15, V16, e_r15, h⟩ := h
      refine r_callV (As := [tI x14]) C k_A_178 w_163 w_164 w_160 ⟨_, _, rfl⟩ (c_A_valueNow l E base base v0 x14 L V10 e_r15) d_A_readNow_43 e_n19 rfl ⟨Nat.le_of_ble_eq_true rfl, Nat.le_of_ble_eq_true rfl⟩ (Nat.le_of_ble_eq_true rfl) (Nat.le_of_ble_eq_true rfl) (Nat.le_of_ble_eq_true rfl) rfl ?_
      replace h := g_ob h; obtain ⟨a17, rfl, h⟩ := h
      replace h := g_ob h; obtain ⟨V18, e_V18, h⟩ := h
      refine r_last C ak_101 d_A_readNow_46 e_V18 ?_
      refine r_iinc (x := v3) (v := v3 + (1 : Int32)) (lv' := [(3, tI (v3 + (1 : Int32))), (0, tR (some v0)), (1, tR (some v1)), (2, tR (some a2))]) C d_A_readNow_47 rfl rfl (by decide) rfl ?_
      refine r_goto C 7 d_A_readNow_50 (by decide) ?_
      refine r_lv [1, 2, 3, 0] rfl ?_
      exact ih v0 v1 (some a2) (v3 + (1 : Int32)) V18 h
set_option maxHeartbeats 4000000 in
set_option maxRecDepth 100000 in
theorem t_A_readNow_0 (C : gC E base p s m args meth c b_A_readNow R_A 4) (hr : meth.sig.returnType = (some (.object "EarlyCut$Entry"))) {z : Option Nat × gV} (h0 : Nat) (p1 : Nat) (V : gV) (h : D_A_readNow h0 p1 L V = some z) : vW E base base 4 p l e rm_A_readNow s m args below meth c 0 0 (g_MQ E base base below args s 0 0 L z.2 (some (tR z.1))) L V 0 [(0, tR (some h0)), (1, tR (some p1))] [] := by
  unfold D_A_readNow at h
  refine r_aload_n (x := (some p1)) C d_A_readNow_0 rfl rfl ?_
  replace h := g_ob h; obtain ⟨n3, e_n3, h⟩ := h
  replace h := g_o2 h; obtain ⟨r1, V2, e_r1, h⟩ := h
  refine r_callV (As := []) C k_A_210 w_73 w_74 w_53 ⟨_, _, rfl⟩ (c_T_spareEntry l E base base p1 L V e_r1) d_A_readNow_1 e_n3 rfl ⟨Nat.le_of_ble_eq_true rfl, Nat.le_of_ble_eq_true rfl⟩ (Nat.le_of_ble_eq_true rfl) (Nat.le_of_ble_eq_true rfl) (Nat.le_of_ble_eq_true rfl) rfl ?_
  refine r_astore_n (lv' := [(2, tR r1), (0, tR (some h0)), (1, tR (some p1))]) C d_A_readNow_4 rfl (by decide) rfl ?_
  refine r_iconst C (0 : Int32) d_A_readNow_5 (by decide) ?_
  refine r_istore_n (lv' := [(3, tI (0 : Int32)), (2, tR r1), (0, tR (some h0)), (1, tR (some p1))]) C d_A_readNow_6 rfl (by decide) rfl ?_
  refine r_lv [2, 3, 1, 0] rfl ?_
  exact t_A_readNow_7 C hr  1000 h0 p1 r1 (0 : Int32) V2 h
theorem c_A_readNow (l : Launch) (E : gE) (base : Nat) (h0 : Nat) (p1 : Nat) (L : gL) (V : gV) {z : Option Nat × gV} (h : D_A_readNow h0 p1 L V = some z) : g_Met l E base base y_A_readNow b_A_readNow 4 (some (.object "EarlyCut$Entry")) rm_A_readNow [tR (some h0), tR (some p1)] L V (some (tR z.1)) L z.2 :=
  r_enter R_A (by decide) rfl [tR (some h0), tR (some p1)] [(0, tR (some h0)), (1, tR (some p1))] rfl (Nat.le_of_ble_eq_true rfl) (fun p e s m args below meth c C hr hnm => t_A_readNow_0 C hr h0 p1 V h)
def rm_A_compareOutputs : Room := { frames := 1, cells := 0, slots := 0, locals := 21 }
def D_A_compareOutputs_22 (L : gL) (v0 : Nat) (v1 : Option Nat) (v2 : Nat) (s0 : Int32) (V : gV) : Option (Unit × gV) :=
  Option.bind ((L).2 2 v2) fun n28 =>
    g_b2 (D_T_entryAt v2 (0 : Int32) L V) fun r1 V2 =>
    (if s0 = 0 then
    some ((), V2)
  else
    (g_on v1
    (some ((), V2))
    (fun a3 =>
    Option.bind ((L).2 0 a3) fun n26 =>
    g_b2 (D_N_hasFailed a3 L V2) fun r4 V5 =>
    (if r4 = 0 then
    (g_on r1
    (some ((), V5))
    (fun a6 =>
    Option.bind (g_rJ L V5 0 a6 4) fun x7 =>
    Option.bind (g_rJ L V5 0 a3 4) fun x8 =>
    (if (lg_cmp x7 x8) = 0 then
    Option.bind (g_rR L V5 3 v0 4) fun x16 =>
    Option.bind x16 fun a17 =>
    Option.bind (g_aI L V5 100 a17 (1 : Int32)) fun x18 =>
    Option.bind (g_wa L V5 100 a17 (1 : Int32) (tI (x18 + (1 : Int32)))) fun V19 =>
    Option.bind (g_rI L V19 2 v2 9) fun x20 =>
    (if x20 = (2 : Int32) then
    Option.bind (g_rI L V19 3 v0 6) fun x21 =>
    Option.bind (g_wr L V19 3 v0 6 (tI (x21 + (1 : Int32)))) fun V22 =>
    some ((), V22)
  else
    some ((), V19))
  else
    Option.bind (g_rJ L V5 0 a6 3) fun x9 =>
    Option.bind (g_rJ L V5 0 a3 3) fun x10 =>
    (if (lg_cmp x9 x10) = 0 then
    Option.bind (g_rR L V5 3 v0 4) fun x11 =>
    Option.bind x11 fun a12 =>
    Option.bind (g_aI L V5 100 a12 (2 : Int32)) fun x13 =>
    Option.bind (g_wa L V5 100 a12 (2 : Int32) (tI (x13 + (1 : Int32)))) fun V14 =>
    some ((), V14)
  else
    some ((), V5)))))
  else
    some ((), V5)))))
def D_A_compareOutputs_17 (L : gL) (v0 : Nat) (v1 : Option Nat) (v2 : Nat) (V : gV) : Option (Unit × gV) :=
  D_A_compareOutputs_22 L  v0 v1 v2 (1 : Int32) V
def D_A_compareOutputs (h0 : Nat) (p1 : Option Nat) (p2 : Nat) (L : gL) (V : gV) : Option (Unit × gV) :=
  Option.bind (g_rI L V 2 p2 9) fun x1 =>
    (if x1 = (2 : Int32) then
    D_A_compareOutputs_17 L  h0 p1 p2 V
  else
    Option.bind (g_rI L V 2 p2 9) fun x2 =>
    (if x2 = (6 : Int32) then
    D_A_compareOutputs_17 L  h0 p1 p2 V
  else
    D_A_compareOutputs_22 L  h0 p1 p2 (0 : Int32) V))
set_option maxHeartbeats 4000000 in
set_option maxRecDepth 100000 in
theorem t_A_compareOutputs_22 (C : gC E base p s m args meth c b_A_compareOutputs R_A 5) (hr : meth.sig.returnType = none) {z : Unit × gV} (v0 : Nat) (v1 : Option Nat) (v2 : Nat) (s0 : Int32) (V : gV) (h : D_A_compareOutputs_22 L  v0 v1 v2 s0 V = some z) : vW E base base 5 p l e rm_A_compareOutputs s m args below meth c 0 0 (g_MQ E base base below args s 0 0 L z.2 none) L V 22 [(0, tR (some v0)), (1, tR v1), (2, tR (some v2))] [tI s0] := by
  unfold D_A_compareOutputs_22 at h
  refine r_istore_n (lv' := [(3, tI s0), (0, tR (some v0)), (1, tR v1), (2, tR (some v2))]) C d_A_compareOutputs_22 rfl (by decide) rfl ?_
  refine r_aload_n (x := (some v2)) C d_A_compareOutputs_23 rfl rfl ?_
  refine r_iconst C (0 : Int32) d_A_compareOutputs_24 (by decide) ?_
  replace h := g_ob h; obtain ⟨n28, e_n28, h⟩ := h
  replace h := g_o2 h; obtain ⟨r1, V2, e_r1, h⟩ := h
  refine r_callV (As := [tI (0 : Int32)]) C k_A_108 w_148 w_149 w_146 ⟨_, _, rfl⟩ (c_T_entryAt l E base base v2 (0 : Int32) L V e_r1) d_A_compareOutputs_25 e_n28 rfl ⟨Nat.le_of_ble_eq_true rfl, Nat.le_of_ble_eq_true rfl⟩ (Nat.le_of_ble_eq_true rfl) (Nat.le_of_ble_eq_true rfl) (Nat.le_of_ble_eq_true rfl) rfl ?_
  refine r_astore (lv' := [(4, tR r1), (3, tI s0), (0, tR (some v0)), (1, tR v1), (2, tR (some v2))]) C d_A_compareOutputs_28 (by decide) rfl ?_
  refine r_iload_n (x := s0) C d_A_compareOutputs_30 rfl rfl ?_
  refine r_if_eq C 50 d_A_compareOutputs_31 (by decide) (fun c27 => ?_) (fun c27 => ?_)
  · rw [if_pos c27] at h
    cases h
    exact r_vret C hr d_A_compareOutputs_50
  · rw [if_neg c27] at h
    refine r_aload_n (x := v1) C d_A_compareOutputs_34 rfl rfl ?_
    replace h := g_oon h; rcases h with ⟨rfl, h⟩ | ⟨a3, rfl, h⟩
    · refine r_ifnull_t C 50 d_A_compareOutputs_35 (by decide) ?_
      cases h
      exact r_vret C hr d_A_compareOutputs_50
    · refine r_ifnull_f C d_A_compareOutputs_35 ?_
      refine r_aload_n (x := (some a3)) C d_A_compareOutputs_38 rfl rfl ?_
      replace h := g_ob h; obtain ⟨n26, e_n26, h⟩ := h
      replace h := g_o2 h; obtain ⟨r4, V5, e_r4, h⟩ := h
      refine r_callV (As := []) C k_A_112 w_49 w_50 w_47 ⟨_, _, rfl⟩ (c_N_hasFailed l E base base a3 L V2 e_r4) d_A_compareOutputs_39 e_n26 rfl ⟨Nat.le_of_ble_eq_true rfl, Nat.le_of_ble_eq_true rfl⟩ (Nat.le_of_ble_eq_true rfl) (Nat.le_of_ble_eq_true rfl) (Nat.le_of_ble_eq_true rfl) rfl ?_
      refine r_if_ne C 50 d_A_compareOutputs_42 (by decide) (fun c25 => ?_) (fun c25 => ?_)
      · rw [if_neg c25] at h
        cases h
        exact r_vret C hr d_A_compareOutputs_50
      · rw [if_pos c25] at h
        refine r_aload (x := r1) C d_A_compareOutputs_45 rfl ?_
        replace h := g_oon h; rcases h with ⟨rfl, h⟩ | ⟨a6, rfl, h⟩
        · refine r_ifnonnull_f C d_A_compareOutputs_47 ?_
          cases h
          exact r_vret C hr d_A_compareOutputs_50
        · refine r_ifnonnull_t C 51 d_A_compareOutputs_47 (by decide) ?_
          refine r_aload (x := (some a6)) C d_A_compareOutputs_51 rfl ?_
          replace h := g_ob h; obtain ⟨x7, e_x7, h⟩ := h
          refine r_getJ C f_A_224 d_A_compareOutputs_53 e_x7 ?_
          refine r_aload_n (x := (some a3)) C d_A_compareOutputs_56 rfl rfl ?_
          replace h := g_ob h; obtain ⟨x8, e_x8, h⟩ := h
          refine r_getJ C f_A_224 d_A_compareOutputs_57 e_x8 ?_
          refine r_lcmp C d_A_compareOutputs_60 ?_
          refine r_if_ne C 95 d_A_compareOutputs_61 (by decide) (fun c24 => ?_) (fun c24 => ?_)
          · rw [if_neg c24] at h
            refine r_aload (x := (some a6)) C d_A_compareOutputs_95 rfl ?_
            replace h := g_ob h; obtain ⟨x9, e_x9, h⟩ := h
            refine r_getJ C f_A_227 d_A_compareOutputs_97 e_x9 ?_
            refine r_aload_n (x := (some a3)) C d_A_compareOutputs_100 rfl rfl ?_
            replace h := g_ob h; obtain ⟨x10, e_x10, h⟩ := h
            refine r_getJ C f_A_227 d_A_compareOutputs_101 e_x10 ?_
            refine r_lcmp C d_A_compareOutputs_104 ?_
            refine r_if_ne C 118 d_A_compareOutputs_105 (by decide) (fun c15 => ?_) (fun c15 => ?_)
            · rw [if_neg c15] at h
              cases h
              exact r_vret C hr d_A_compareOutputs_118
            · rw [if_pos c15] at h
              refine r_aload_n (x := (some v0)) C d_A_compareOutputs_108 rfl rfl ?_
              replace h := g_ob h; obtain ⟨x11, e_x11, h⟩ := h
              refine r_getR C f_A_28 d_A_compareOutputs_109 e_x11 ?_
              refine r_iconst C (2 : Int32) d_A_compareOutputs_112 (by decide) ?_
              refine r_dup2 C d_A_compareOutputs_113 rfl rfl ?_
              replace h := g_ob h; obtain ⟨a12, rfl, h⟩ := h
              replace h := g_ob h; obtain ⟨x13, e_x13, h⟩ := h
              refine r_iald C ak_100 d_A_compareOutputs_114 e_x13 ?_
              refine r_iconst C (1 : Int32) d_A_compareOutputs_115 (by decide) ?_
              refine r_iadd C d_A_compareOutputs_116 ?_
              replace h := g_ob h; obtain ⟨V14, e_V14, h⟩ := h
              refine r_iast C ak_100 d_A_compareOutputs_117 e_V14 ?_
              cases h
              exact r_vret C hr d_A_compareOutputs_118
          · rw [if_pos c24] at h
            refine r_aload_n (x := (some v0)) C d_A_compareOutputs_64 rfl rfl ?_
            replace h := g_ob h; obtain ⟨x16, e_x16, h⟩ := h
            refine r_getR C f_A_28 d_A_compareOutputs_65 e_x16 ?_
            refine r_iconst C (1 : Int32) d_A_compareOutputs_68 (by decide) ?_
            refine r_dup2 C d_A_compareOutputs_69 rfl rfl ?_
            replace h := g_ob h; obtain ⟨a17, rfl, h⟩ := h
            replace h := g_ob h; obtain ⟨x18, e_x18, h⟩ := h
            refine r_iald C ak_100 d_A_compareOutputs_70 e_x18 ?_
            refine r_iconst C (1 : Int32) d_A_compareOutputs_71 (by decide) ?_
            refine r_iadd C d_A_compareOutputs_72 ?_
            replace h := g_ob h; obtain ⟨V19, e_V19, h⟩ := h
            refine r_iast C ak_100 d_A_compareOutputs_73 e_V19 ?_
            refine r_aload_n (x := (some v2)) C d_A_compareOutputs_74 rfl rfl ?_
            replace h := g_ob h; obtain ⟨x20, e_x20, h⟩ := h
            refine r_getI C f_A_98 d_A_compareOutputs_75 e_x20 ?_
            refine r_iconst C (2 : Int32) d_A_compareOutputs_78 (by decide) ?_
            refine r_icmp_ne C 118 d_A_compareOutputs_79 (by decide) (fun c23 => ?_) (fun c23 => ?_)
            · rw [if_neg c23] at h
              cases h
              exact r_vret C hr d_A_compareOutputs_118
            · rw [if_pos c23] at h
              refine r_aload_n (x := (some v0)) C d_A_compareOutputs_82 rfl rfl ?_
              refine r_dup C d_A_compareOutputs_83 rfl ?_
              replace h := g_ob h; obtain ⟨x21, e_x21, h⟩ := h
              refine r_getI C f_A_35 d_A_compareOutputs_84 e_x21 ?_
              refine r_iconst C (1 : Int32) d_A_compareOutputs_87 (by decide) ?_
              refine r_iadd C d_A_compareOutputs_88 ?_
              replace h := g_ob h; obtain ⟨V22, e_V22, h⟩ := h
              refine r_put C f_A_35 d_A_compareOutputs_89 e_V22 (g_nI (x21 + (1 : Int32))).1 (g_nI (x21 + (1 : Int32))).2 ?_
              refine r_goto C 118 d_A_compareOutputs_92 (by decide) ?_
              cases h
              exact r_vret C hr d_A_compareOutputs_118
set_option maxHeartbeats 4000000 in
set_option maxRecDepth 100000 in
theorem t_A_compareOutputs_17 (C : gC E base p s m args meth c b_A_compareOutputs R_A 5) (hr : meth.sig.returnType = none) {z : Unit × gV} (v0 : Nat) (v1 : Option Nat) (v2 : Nat) (V : gV) (h : D_A_compareOutputs_17 L  v0 v1 v2 V = some z) : vW E base base 5 p l e rm_A_compareOutputs s m args below meth c 0 0 (g_MQ E base base below args s 0 0 L z.2 none) L V 17 [(0, tR (some v0)), (1, tR v1), (2, tR (some v2))] [] := by
  unfold D_A_compareOutputs_17 at h
  refine r_iconst C (1 : Int32) d_A_compareOutputs_17 (by decide) ?_
  refine r_goto C 22 d_A_compareOutputs_18 (by decide) ?_
  exact t_A_compareOutputs_22 C hr  v0 v1 v2 (1 : Int32) V h
set_option maxHeartbeats 4000000 in
set_option maxRecDepth 100000 in
theorem t_A_compareOutputs_0 (C : gC E base p s m args meth c b_A_compareOutputs R_A 5) (hr : meth.sig.returnType = none) {z : Unit × gV} (h0 : Nat) (p1 : Option Nat) (p2 : Nat) (V : gV) (h : D_A_compareOutputs h0 p1 p2 L V = some z) : vW E base base 5 p l e rm_A_compareOutputs s m args below meth c 0 0 (g_MQ E base base below args s 0 0 L z.2 none) L V 0 [(0, tR (some h0)), (1, tR p1), (2, tR (some p2))] [] := by
  unfold D_A_compareOutputs at h
  refine r_aload_n (x := (some p2)) C d_A_compareOutputs_0 rfl rfl ?_
  replace h := g_ob h; obtain ⟨x1, e_x1, h⟩ := h
  refine r_getI C f_A_98 d_A_compareOutputs_1 e_x1 ?_
  refine r_iconst C (2 : Int32) d_A_compareOutputs_4 (by decide) ?_
  refine r_icmp_eq C 17 d_A_compareOutputs_5 (by decide) (fun c4 => ?_) (fun c4 => ?_)
  · rw [if_pos c4] at h
    exact t_A_compareOutputs_17 C hr  h0 p1 p2 V h
  · rw [if_neg c4] at h
    refine r_aload_n (x := (some p2)) C d_A_compareOutputs_8 rfl rfl ?_
    replace h := g_ob h; obtain ⟨x2, e_x2, h⟩ := h
    refine r_getI C f_A_98 d_A_compareOutputs_9 e_x2 ?_
    refine r_bipush C (6 : Int32) d_A_compareOutputs_12 (by decide) ?_
    refine r_icmp_ne C 21 d_A_compareOutputs_14 (by decide) (fun c3 => ?_) (fun c3 => ?_)
    · rw [if_neg c3] at h
      refine r_iconst C (0 : Int32) d_A_compareOutputs_21 (by decide) ?_
      exact t_A_compareOutputs_22 C hr  h0 p1 p2 (0 : Int32) V h
    · rw [if_pos c3] at h
      exact t_A_compareOutputs_17 C hr  h0 p1 p2 V h
theorem c_A_compareOutputs (l : Launch) (E : gE) (base : Nat) (h0 : Nat) (p1 : Option Nat) (p2 : Nat) (L : gL) (V : gV) {z : Unit × gV} (h : D_A_compareOutputs h0 p1 p2 L V = some z) : g_Met l E base base y_A_compareOutputs b_A_compareOutputs 5 none rm_A_compareOutputs [tR (some h0), tR p1, tR (some p2)] L V none L z.2 :=
  r_enter R_A (by decide) rfl [tR (some h0), tR p1, tR (some p2)] [(0, tR (some h0)), (1, tR p1), (2, tR (some p2))] rfl (Nat.le_of_ble_eq_true rfl) (fun p e s m args below meth c C hr hnm => t_A_compareOutputs_0 C hr h0 p1 p2 V h)
def rm_A_causeToRedo : Room := { frames := 2, cells := 0, slots := 0, locals := 47 }
def D_A_causeToRedo (p0 : Nat) (p1 : Nat) (L : gL) (V : gV) : Option (Int32 × gV) :=
  Option.bind ((L).2 2 p0) fun n17 =>
    g_b2 (D_T_entryAt p0 (0 : Int32) L V) fun r1 V2 =>
    (g_on r1
    (some ((0 : Int32), V2))
    (fun a3 =>
    Option.bind (g_rI L V2 2 p0 3) fun x4 =>
    Option.bind ((L).2 0 a3) fun n16 =>
    g_b2 (D_N_firstDifference a3 p1 x4 L V2) fun r5 V6 =>
    Option.bind (g_rI L V6 2 p0 6) fun x7 =>
    (if x7 = 0 then
    (if r5 = (-1 : Int32) then
    some ((1 : Int32), V6)
  else
    Option.bind (g_rR L V6 2 p0 2) fun x8 =>
    Option.bind x8 fun a9 =>
    Option.bind (g_aI L V6 100 a9 r5) fun x10 =>
    g_b2 (D_A_isFileCode x10 L V6) fun r11 V12 =>
    (if r11 = 0 then
    some ((3 : Int32), V12)
  else
    some ((2 : Int32), V12)))
  else
    some ((1 : Int32), V6))))
set_option maxHeartbeats 4000000 in
set_option maxRecDepth 100000 in
theorem t_A_causeToRedo_0 (C : gC E bA p s m args meth c b_A_causeToRedo R_A 4) (hr : meth.sig.returnType = (some .int)) {z : Int32 × gV} (p0 : Nat) (p1 : Nat) (V : gV) (h : D_A_causeToRedo p0 p1 L V = some z) : vW E base bA 4 p l e rm_A_causeToRedo s m args below meth c 0 0 (g_MQ E base bA below args s 0 0 L z.2 (some (tI z.1))) L V 0 [(0, tR (some p0)), (1, tR (some p1))] [] := by
  unfold D_A_causeToRedo at h
  refine r_aload_n (x := (some p0)) C d_A_causeToRedo_0 rfl rfl ?_
  refine r_iconst C (0 : Int32) d_A_causeToRedo_1 (by decide) ?_
  replace h := g_ob h; obtain ⟨n17, e_n17, h⟩ := h
  replace h := g_o2 h; obtain ⟨r1, V2, e_r1, h⟩ := h
  refine r_callV (As := [tI (0 : Int32)]) C k_A_108 w_148 w_149 w_146 ⟨_, _, rfl⟩ (c_T_entryAt l E base bA p0 (0 : Int32) L V e_r1) d_A_causeToRedo_2 e_n17 rfl ⟨Nat.le_of_ble_eq_true rfl, Nat.le_of_ble_eq_true rfl⟩ (Nat.le_of_ble_eq_true rfl) (Nat.le_of_ble_eq_true rfl) (Nat.le_of_ble_eq_true rfl) rfl ?_
  refine r_astore_n (lv' := [(2, tR r1), (0, tR (some p0)), (1, tR (some p1))]) C d_A_causeToRedo_5 rfl (by decide) rfl ?_
  refine r_aload_n (x := r1) C d_A_causeToRedo_6 rfl rfl ?_
  replace h := g_oon h; rcases h with ⟨rfl, h⟩ | ⟨a3, rfl, h⟩
  · refine r_ifnonnull_f C d_A_causeToRedo_7 ?_
    refine r_iconst C (0 : Int32) d_A_causeToRedo_10 (by decide) ?_
    cases h
    exact r_iret C hr d_A_causeToRedo_11
  · refine r_ifnonnull_t C 12 d_A_causeToRedo_7 (by decide) ?_
    refine r_aload_n (x := (some a3)) C d_A_causeToRedo_12 rfl rfl ?_
    refine r_aload_n (x := (some p1)) C d_A_causeToRedo_13 rfl rfl ?_
    refine r_aload_n (x := (some p0)) C d_A_causeToRedo_14 rfl rfl ?_
    replace h := g_ob h; obtain ⟨x4, e_x4, h⟩ := h
    refine r_getI C f_A_130 d_A_causeToRedo_15 e_x4 ?_
    replace h := g_ob h; obtain ⟨n16, e_n16, h⟩ := h
    replace h := g_o2 h; obtain ⟨r5, V6, e_r5, h⟩ := h
    refine r_callV (As := [tR (some p1), tI x4]) C k_A_220 w_43 w_44 w_41 ⟨_, _, rfl⟩ (c_N_firstDifference l E base bA a3 p1 x4 L V2 e_r5) d_A_causeToRedo_18 e_n16 rfl ⟨Nat.le_of_ble_eq_true rfl, Nat.le_of_ble_eq_true rfl⟩ (Nat.le_of_ble_eq_true rfl) (Nat.le_of_ble_eq_true rfl) (Nat.le_of_ble_eq_true rfl) rfl ?_
    refine r_istore_n (lv' := [(3, tI r5), (2, tR (some a3)), (0, tR (some p0)), (1, tR (some p1))]) C d_A_causeToRedo_21 rfl (by decide) rfl ?_
    refine r_aload_n (x := (some p0)) C d_A_causeToRedo_22 rfl rfl ?_
    replace h := g_ob h; obtain ⟨x7, e_x7, h⟩ := h
    refine r_getI C f_A_78 d_A_causeToRedo_23 e_x7 ?_
    refine r_if_ne C 34 d_A_causeToRedo_26 (by decide) (fun c15 => ?_) (fun c15 => ?_)
    · rw [if_neg c15] at h
      refine r_iconst C (1 : Int32) d_A_causeToRedo_34 (by decide) ?_
      cases h
      exact r_iret C hr d_A_causeToRedo_35
    · rw [if_pos c15] at h
      refine r_iload_n (x := r5) C d_A_causeToRedo_29 rfl rfl ?_
      refine r_iconst C (-1 : Int32) d_A_causeToRedo_30 (by decide) ?_
      refine r_icmp_ne C 36 d_A_causeToRedo_31 (by decide) (fun c14 => ?_) (fun c14 => ?_)
      · rw [if_neg c14] at h
        refine r_aload_n (x := (some p0)) C d_A_causeToRedo_36 rfl rfl ?_
        replace h := g_ob h; obtain ⟨x8, e_x8, h⟩ := h
        refine r_getR C f_A_149 d_A_causeToRedo_37 e_x8 ?_
        refine r_iload_n (x := r5) C d_A_causeToRedo_40 rfl rfl ?_
        replace h := g_ob h; obtain ⟨a9, rfl, h⟩ := h
        replace h := g_ob h; obtain ⟨x10, e_x10, h⟩ := h
        refine r_iald C ak_100 d_A_causeToRedo_41 e_x10 ?_
        replace h := g_o2 h; obtain ⟨r11, V12, e_r11, h⟩ := h
        refine r_callS (As := [tI x10]) C k_A_152 w_135 w_129 (c_A_isFileCode l E base bA x10 L V6 e_r11) d_A_causeToRedo_42 rfl ⟨Nat.le_of_ble_eq_true rfl, Nat.le_of_ble_eq_true rfl⟩ (Nat.le_of_ble_eq_true rfl) (Nat.le_of_ble_eq_true rfl) (Nat.le_of_ble_eq_true rfl) rfl ?_
        refine r_if_eq C 52 d_A_causeToRedo_45 (by decide) (fun c13 => ?_) (fun c13 => ?_)
        · rw [if_pos c13] at h
          refine r_iconst C (3 : Int32) d_A_causeToRedo_52 (by decide) ?_
          cases h
          exact r_iret C hr d_A_causeToRedo_53
        · rw [if_neg c13] at h
          refine r_iconst C (2 : Int32) d_A_causeToRedo_48 (by decide) ?_
          refine r_goto C 53 d_A_causeToRedo_49 (by decide) ?_
          cases h
          exact r_iret C hr d_A_causeToRedo_53
      · rw [if_pos c14] at h
        refine r_iconst C (1 : Int32) d_A_causeToRedo_34 (by decide) ?_
        cases h
        exact r_iret C hr d_A_causeToRedo_35
theorem c_A_causeToRedo (l : Launch) (E : gE) (base bA : Nat) (p0 : Nat) (p1 : Nat) (L : gL) (V : gV) {z : Int32 × gV} (h : D_A_causeToRedo p0 p1 L V = some z) : g_Met l E base bA y_A_causeToRedo b_A_causeToRedo 4 (some .int) rm_A_causeToRedo [tR (some p0), tR (some p1)] L V (some (tI z.1)) L z.2 :=
  r_enter R_A (by decide) rfl [tR (some p0), tR (some p1)] [(0, tR (some p0)), (1, tR (some p1))] rfl (Nat.le_of_ble_eq_true rfl) (fun p e s m args below meth c C hr hnm => t_A_causeToRedo_0 C hr p0 p1 V h)
def rm_A_bringUpToDate : Room := { frames := 4, cells := 0, slots := 0, locals := 88 }
def D_A_bringUpToDate_71 (L : gL) (v0 : Nat) (v1 : Nat) (v2 : Option Nat) (V : gV) : Option (Unit × gV) :=
  Option.bind ((L).2 3 v0) fun n3 =>
    g_b2 (D_A_compareOutputs v0 v2 v1 L V) fun r1 V2 =>
    some ((), V2)
def D_A_bringUpToDate_41 (L : gL) (v0 : Nat) (v1 : Nat) (v2 : Option Nat) (v3 : Nat) (v4 : Int32) (V : gV) : Option (Unit × gV) :=
  g_b2 (D_A_causeToRedo v1 v3 L V) fun r1 V2 =>
    Option.bind ((L).2 2 v1) fun n10 =>
    g_b2 (D_T_redo v1 v4 L V2) fun r3 V4 =>
    Option.bind (g_wr L V4 2 v1 10 (tI r1)) fun V5 =>
    Option.bind (g_rR L V5 3 v0 5) fun x6 =>
    Option.bind x6 fun a7 =>
    Option.bind (g_aI L V5 100 a7 r1) fun x8 =>
    Option.bind (g_wa L V5 100 a7 r1 (tI (x8 + (1 : Int32)))) fun V9 =>
    D_A_bringUpToDate_71 L  v0 v1 v2 V9
def D_A_bringUpToDate (h0 : Nat) (p1 : Nat) (L : gL) (V : gV) : Option (Unit × gV) :=
  Option.bind ((L).2 2 p1) fun n16 =>
    g_b2 (D_T_entryAt p1 (0 : Int32) L V) fun r1 V2 =>
    Option.bind ((L).2 3 h0) fun n15 =>
    g_b2 (D_A_readNow h0 p1 L V2) fun r3 V4 =>
    Option.bind r3 fun a5 =>
    Option.bind ((L).2 2 p1) fun n14 =>
    g_b2 (D_T_placeOfSameReads p1 a5 L V4) fun r6 V7 =>
    (if r6 = (-1 : Int32) then
    D_A_bringUpToDate_41 L  h0 p1 r1 a5 r6 V7
  else
    Option.bind (g_rI L V7 2 p1 6) fun x8 =>
    (if x8 = 0 then
    Option.bind ((L).2 2 p1) fun n11 =>
    g_b2 (D_T_reuse p1 r6 L V7) fun r9 V10 =>
    D_A_bringUpToDate_71 L  h0 p1 r1 V10
  else
    D_A_bringUpToDate_41 L  h0 p1 r1 a5 r6 V7))
set_option maxHeartbeats 4000000 in
set_option maxRecDepth 100000 in
theorem t_A_bringUpToDate_71 (C : gC E base p s m args meth c b_A_bringUpToDate R_A 6) (hr : meth.sig.returnType = none) {z : Unit × gV} (v0 : Nat) (v1 : Nat) (v2 : Option Nat) (V : gV) (h : D_A_bringUpToDate_71 L  v0 v1 v2 V = some z) : vW E base base 6 p l e rm_A_bringUpToDate s m args below meth c 0 0 (g_MQ E base base below args s 0 0 L z.2 none) L V 71 [(0, tR (some v0)), (1, tR (some v1)), (2, tR v2)] [] := by
  unfold D_A_bringUpToDate_71 at h
  refine r_aload_n (x := (some v0)) C d_A_bringUpToDate_71 rfl rfl ?_
  refine r_aload_n (x := v2) C d_A_bringUpToDate_72 rfl rfl ?_
  refine r_aload_n (x := (some v1)) C d_A_bringUpToDate_73 rfl rfl ?_
  replace h := g_ob h; obtain ⟨n3, e_n3, h⟩ := h
  replace h := g_o2 h; obtain ⟨r1, V2, e_r1, h⟩ := h
  refine r_callV (As := [tR v2, tR (some v1)]) C k_A_206 w_202 w_203 w_200 ⟨_, _, rfl⟩ (c_A_compareOutputs l E base v0 v2 v1 L V e_r1) d_A_bringUpToDate_74 e_n3 rfl ⟨Nat.le_of_ble_eq_true rfl, Nat.le_of_ble_eq_true rfl⟩ (Nat.le_of_ble_eq_true rfl) (Nat.le_of_ble_eq_true rfl) (Nat.le_of_ble_eq_true rfl) rfl ?_
  cases h
  exact r_vret C hr d_A_bringUpToDate_77
set_option maxHeartbeats 4000000 in
set_option maxRecDepth 100000 in
theorem t_A_bringUpToDate_41 (C : gC E base p s m args meth c b_A_bringUpToDate R_A 6) (hr : meth.sig.returnType = none) {z : Unit × gV} (v0 : Nat) (v1 : Nat) (v2 : Option Nat) (v3 : Nat) (v4 : Int32) (V : gV) (h : D_A_bringUpToDate_41 L  v0 v1 v2 v3 v4 V = some z) : vW E base base 6 p l e rm_A_bringUpToDate s m args below meth c 0 0 (g_MQ E base base below args s 0 0 L z.2 none) L V 41 [(0, tR (some v0)), (1, tR (some v1)), (2, tR v2), (3, tR (some v3)), (4, tI v4)] [] := by
  unfold D_A_bringUpToDate_41 at h
  refine r_aload_n (x := (some v1)) C d_A_bringUpToDate_41 rfl rfl ?_
  refine r_aload_n (x := (some v3)) C d_A_bringUpToDate_42 rfl rfl ?_
  replace h := g_o2 h; obtain ⟨r1, V2, e_r1, h⟩ := h
  refine r_callS (As := [tR (some v1), tR (some v3)]) C k_A_199 w_212 w_205 (c_A_causeToRedo l E base base v1 v3 L V e_r1) d_A_bringUpToDate_43 rfl ⟨Nat.le_of_ble_eq_true rfl, Nat.le_of_ble_eq_true rfl⟩ (Nat.le_of_ble_eq_true rfl) (Nat.le_of_ble_eq_true rfl) (Nat.le_of_ble_eq_true rfl) rfl ?_
  refine r_istore (lv' := [(5, tI r1), (0, tR (some v0)), (1, tR (some v1)), (2, tR v2), (3, tR (some v3)), (4, tI v4)]) C d_A_bringUpToDate_46 (by decide) rfl ?_
  refine r_aload_n (x := (some v1)) C d_A_bringUpToDate_48 rfl rfl ?_
  refine r_iload (x := v4) C d_A_bringUpToDate_49 rfl ?_
  replace h := g_ob h; obtain ⟨n10, e_n10, h⟩ := h
  replace h := g_o2 h; obtain ⟨r3, V4, e_r3, h⟩ := h
  refine r_callV (As := [tI v4]) C k_A_203 w_210 w_211 w_207 ⟨_, _, rfl⟩ (c_T_redo l E base v1 v4 L V2 e_r3) d_A_bringUpToDate_51 e_n10 rfl ⟨Nat.le_of_ble_eq_true rfl, Nat.le_of_ble_eq_true rfl⟩ (Nat.le_of_ble_eq_true rfl) (Nat.le_of_ble_eq_true rfl) (Nat.le_of_ble_eq_true rfl) rfl ?_
  refine r_aload_n (x := (some v1)) C d_A_bringUpToDate_54 rfl rfl ?_
  refine r_iload (x := r1) C d_A_bringUpToDate_55 rfl ?_
  replace h := g_ob h; obtain ⟨V5, e_V5, h⟩ := h
  refine r_put C f_A_95 d_A_bringUpToDate_57 e_V5 (g_nI r1).1 (g_nI r1).2 ?_
  refine r_aload_n (x := (some v0)) C d_A_bringUpToDate_60 rfl rfl ?_
  replace h := g_ob h; obtain ⟨x6, e_x6, h⟩ := h
  refine r_getR C f_A_32 d_A_bringUpToDate_61 e_x6 ?_
  refine r_iload (x := r1) C d_A_bringUpToDate_64 rfl ?_
  refine r_dup2 C d_A_bringUpToDate_66 rfl rfl ?_
  replace h := g_ob h; obtain ⟨a7, rfl, h⟩ := h
  replace h := g_ob h; obtain ⟨x8, e_x8, h⟩ := h
  refine r_iald C ak_100 d_A_bringUpToDate_67 e_x8 ?_
  refine r_iconst C (1 : Int32) d_A_bringUpToDate_68 (by decide) ?_
  refine r_iadd C d_A_bringUpToDate_69 ?_
  replace h := g_ob h; obtain ⟨V9, e_V9, h⟩ := h
  refine r_iast C ak_100 d_A_bringUpToDate_70 e_V9 ?_
  refine r_lv [1, 2, 3] rfl ?_
  exact t_A_bringUpToDate_71 C hr  v0 v1 v2 V9 h
set_option maxHeartbeats 4000000 in
set_option maxRecDepth 100000 in
theorem t_A_bringUpToDate_0 (C : gC E base p s m args meth c b_A_bringUpToDate R_A 6) (hr : meth.sig.returnType = none) {z : Unit × gV} (h0 : Nat) (p1 : Nat) (V : gV) (h : D_A_bringUpToDate h0 p1 L V = some z) : vW E base base 6 p l e rm_A_bringUpToDate s m args below meth c 0 0 (g_MQ E base base below args s 0 0 L z.2 none) L V 0 [(0, tR (some h0)), (1, tR (some p1))] [] := by
  unfold D_A_bringUpToDate at h
  refine r_aload_n (x := (some p1)) C d_A_bringUpToDate_0 rfl rfl ?_
  refine r_iconst C (0 : Int32) d_A_bringUpToDate_1 (by decide) ?_
  replace h := g_ob h; obtain ⟨n16, e_n16, h⟩ := h
  replace h := g_o2 h; obtain ⟨r1, V2, e_r1, h⟩ := h
  refine r_callV (As := [tI (0 : Int32)]) C k_A_108 w_148 w_149 w_146 ⟨_, _, rfl⟩ (c_T_entryAt l E base base p1 (0 : Int32) L V e_r1) d_A_bringUpToDate_2 e_n16 rfl ⟨Nat.le_of_ble_eq_true rfl, Nat.le_of_ble_eq_true rfl⟩ (Nat.le_of_ble_eq_true rfl) (Nat.le_of_ble_eq_true rfl) (Nat.le_of_ble_eq_true rfl) rfl ?_
  refine r_astore_n (lv' := [(2, tR r1), (0, tR (some h0)), (1, tR (some p1))]) C d_A_bringUpToDate_5 rfl (by decide) rfl ?_
  refine r_aload_n (x := (some h0)) C d_A_bringUpToDate_6 rfl rfl ?_
  refine r_aload_n (x := (some p1)) C d_A_bringUpToDate_7 rfl rfl ?_
  replace h := g_ob h; obtain ⟨n15, e_n15, h⟩ := h
  replace h := g_o2 h; obtain ⟨r3, V4, e_r3, h⟩ := h
  refine r_callV (As := [tR (some p1)]) C k_A_188 w_194 w_195 w_184 ⟨_, _, rfl⟩ (c_A_readNow l E base h0 p1 L V2 e_r3) d_A_bringUpToDate_8 e_n15 rfl ⟨Nat.le_of_ble_eq_true rfl, Nat.le_of_ble_eq_true rfl⟩ (Nat.le_of_ble_eq_true rfl) (Nat.le_of_ble_eq_true rfl) (Nat.le_of_ble_eq_true rfl) rfl ?_
  refine r_astore_n (lv' := [(3, tR r3), (2, tR r1), (0, tR (some h0)), (1, tR (some p1))]) C d_A_bringUpToDate_11 rfl (by decide) rfl ?_
  refine r_aload_n (x := (some p1)) C d_A_bringUpToDate_12 rfl rfl ?_
  refine r_aload_n (x := r3) C d_A_bringUpToDate_13 rfl rfl ?_
  replace h := g_ob h; obtain ⟨a5, rfl, h⟩ := h
  replace h := g_ob h; obtain ⟨n14, e_n14, h⟩ := h
  replace h := g_o2 h; obtain ⟨r6, V7, e_r6, h⟩ := h
  refine r_callV (As := [tR (some a5)]) C k_A_192 w_192 w_193 w_186 ⟨_, _, rfl⟩ (c_T_placeOfSameReads l E base base p1 a5 L V4 e_r6) d_A_bringUpToDate_14 e_n14 rfl ⟨Nat.le_of_ble_eq_true rfl, Nat.le_of_ble_eq_true rfl⟩ (Nat.le_of_ble_eq_true rfl) (Nat.le_of_ble_eq_true rfl) (Nat.le_of_ble_eq_true rfl) rfl ?_
  refine r_istore (lv' := [(4, tI r6), (3, tR (some a5)), (2, tR r1), (0, tR (some h0)), (1, tR (some p1))]) C d_A_bringUpToDate_17 (by decide) rfl ?_
  refine r_iload (x := r6) C d_A_bringUpToDate_19 rfl ?_
  refine r_iconst C (-1 : Int32) d_A_bringUpToDate_21 (by decide) ?_
  refine r_icmp_eq C 41 d_A_bringUpToDate_22 (by decide) (fun c13 => ?_) (fun c13 => ?_)
  · rw [if_pos c13] at h
    refine r_lv [3, 4, 2, 1, 0] rfl ?_
    exact t_A_bringUpToDate_41 C hr  h0 p1 r1 a5 r6 V7 h
  · rw [if_neg c13] at h
    refine r_aload_n (x := (some p1)) C d_A_bringUpToDate_25 rfl rfl ?_
    replace h := g_ob h; obtain ⟨x8, e_x8, h⟩ := h
    refine r_getI C f_A_78 d_A_bringUpToDate_26 e_x8 ?_
    refine r_if_ne C 41 d_A_bringUpToDate_29 (by decide) (fun c12 => ?_) (fun c12 => ?_)
    · rw [if_neg c12] at h
      refine r_lv [3, 4, 2, 1, 0] rfl ?_
      exact t_A_bringUpToDate_41 C hr  h0 p1 r1 a5 r6 V7 h
    · rw [if_pos c12] at h
      refine r_aload_n (x := (some p1)) C d_A_bringUpToDate_32 rfl rfl ?_
      refine r_iload (x := r6) C d_A_bringUpToDate_33 rfl ?_
      replace h := g_ob h; obtain ⟨n11, e_n11, h⟩ := h
      replace h := g_o2 h; obtain ⟨r9, V10, e_r9, h⟩ := h
      refine r_callV (As := [tI r6]) C k_A_196 w_190 w_191 w_188 ⟨_, _, rfl⟩ (c_T_reuse l E base p1 r6 L V7 e_r9) d_A_bringUpToDate_35 e_n11 rfl ⟨Nat.le_of_ble_eq_true rfl, Nat.le_of_ble_eq_true rfl⟩ (Nat.le_of_ble_eq_true rfl) (Nat.le_of_ble_eq_true rfl) (Nat.le_of_ble_eq_true rfl) rfl ?_
      refine r_goto C 71 d_A_bringUpToDate_38 (by decide) ?_
      refine r_lv [3, 4, 2] rfl ?_
      exact t_A_bringUpToDate_71 C hr  h0 p1 r1 V10 h
theorem c_A_bringUpToDate (l : Launch) (E : gE) (base : Nat) (h0 : Nat) (p1 : Nat) (L : gL) (V : gV) {z : Unit × gV} (h : D_A_bringUpToDate h0 p1 L V = some z) : g_Met l E base base y_A_bringUpToDate b_A_bringUpToDate 6 none rm_A_bringUpToDate [tR (some h0), tR (some p1)] L V none L z.2 :=
  r_enter R_A (by decide) rfl [tR (some h0), tR (some p1)] [(0, tR (some h0)), (1, tR (some p1))] rfl (Nat.le_of_ble_eq_true rfl) (fun p e s m args below meth c C hr hnm => t_A_bringUpToDate_0 C hr h0 p1 V h)
def rm_A_buildOne : Room := { frames := 5, cells := 0, slots := 0, locals := 113 }
def D_A_buildOne_26 (L : gL) (v0 : Nat) (v1 : Nat) (V : gV) : Option (Unit × gV) :=
  Option.bind ((L).2 3 v0) fun n20 =>
    g_b2 (D_A_isBlocked v0 v1 L V) fun r1 V2 =>
    (if r1 = 0 then
    Option.bind ((L).2 3 v0) fun n13 =>
    g_b2 (D_A_bringUpToDate v0 v1 L V2) fun r3 V4 =>
    Option.bind (g_rI L V4 2 v1 8) fun x5 =>
    (if x5 = 0 then
    some ((), V4)
  else
    Option.bind (g_rI L V4 2 v1 10) fun x6 =>
    (if x6 = (-1 : Int32) then
    Option.bind (g_rR L V4 3 v0 4) fun x7 =>
    Option.bind x7 fun a8 =>
    Option.bind (g_aI L V4 100 a8 (0 : Int32)) fun x9 =>
    Option.bind (g_wa L V4 100 a8 (0 : Int32) (tI (x9 + (1 : Int32)))) fun V10 =>
    some ((), V10)
  else
    some ((), V4)))
  else
    Option.bind (g_wr L V2 2 v1 9 (tI (5 : Int32))) fun V14 =>
    Option.bind (g_rR L V14 3 v0 4) fun x15 =>
    Option.bind x15 fun a16 =>
    Option.bind (g_aI L V14 100 a16 (3 : Int32)) fun x17 =>
    Option.bind (g_wa L V14 100 a16 (3 : Int32) (tI (x17 + (1 : Int32)))) fun V18 =>
    some ((), V18))
def D_A_buildOne (h0 : Nat) (p1 : Nat) (L : gL) (V : gV) : Option (Unit × gV) :=
  Option.bind ((L).2 3 h0) fun n11 =>
    g_b2 (D_A_isMarked h0 p1 L V) fun r1 V2 =>
    Option.bind (g_bz r1) fun _ =>
    Option.bind (g_wr L V2 2 p1 8 (tI r1)) fun V3 =>
    Option.bind (g_rI L V3 2 p1 8) fun x4 =>
    (if x4 = 0 then
    D_A_buildOne_26 L  h0 p1 V3
  else
    Option.bind (g_rR L V3 3 h0 4) fun x5 =>
    Option.bind x5 fun a6 =>
    Option.bind (g_aI L V3 100 a6 (4 : Int32)) fun x7 =>
    Option.bind (g_wa L V3 100 a6 (4 : Int32) (tI (x7 + (1 : Int32)))) fun V8 =>
    D_A_buildOne_26 L  h0 p1 V8)
set_option maxHeartbeats 4000000 in
set_option maxRecDepth 100000 in
theorem t_A_buildOne_26 (C : gC E base p s m args meth c b_A_buildOne R_A 2) (hr : meth.sig.returnType = none) {z : Unit × gV} (v0 : Nat) (v1 : Nat) (V : gV) (h : D_A_buildOne_26 L  v0 v1 V = some z) : vW E base base 2 p l e rm_A_buildOne s m args below meth c 0 0 (g_MQ E base base below args s 0 0 L z.2 none) L V 26 [(0, tR (some v0)), (1, tR (some v1))] [] := by
  unfold D_A_buildOne_26 at h
  refine r_aload_n (x := (some v0)) C d_A_buildOne_26 rfl rfl ?_
  refine r_aload_n (x := (some v1)) C d_A_buildOne_27 rfl rfl ?_
  replace h := g_ob h; obtain ⟨n20, e_n20, h⟩ := h
  replace h := g_o2 h; obtain ⟨r1, V2, e_r1, h⟩ := h
  refine r_callV (As := [tR (some v1)]) C k_A_165 w_217 w_218 w_179 ⟨_, _, rfl⟩ (c_A_isBlocked l E base base v0 v1 L V e_r1) d_A_buildOne_28 e_n20 rfl ⟨Nat.le_of_ble_eq_true rfl, Nat.le_of_ble_eq_true rfl⟩ (Nat.le_of_ble_eq_true rfl) (Nat.le_of_ble_eq_true rfl) (Nat.le_of_ble_eq_true rfl) rfl ?_
  refine r_if_eq C 50 d_A_buildOne_31 (by decide) (fun c19 => ?_) (fun c19 => ?_)
  · rw [if_pos c19] at h
    refine r_aload_n (x := (some v0)) C d_A_buildOne_50 rfl rfl ?_
    refine r_aload_n (x := (some v1)) C d_A_buildOne_51 rfl rfl ?_
    replace h := g_ob h; obtain ⟨n13, e_n13, h⟩ := h
    replace h := g_o2 h; obtain ⟨r3, V4, e_r3, h⟩ := h
    refine r_callV (As := [tR (some v1)]) C k_A_168 w_215 w_216 w_213 ⟨_, _, rfl⟩ (c_A_bringUpToDate l E base v0 v1 L V2 e_r3) d_A_buildOne_52 e_n13 rfl ⟨Nat.le_of_ble_eq_true rfl, Nat.le_of_ble_eq_true rfl⟩ (Nat.le_of_ble_eq_true rfl) (Nat.le_of_ble_eq_true rfl) (Nat.le_of_ble_eq_true rfl) rfl ?_
    refine r_aload_n (x := (some v1)) C d_A_buildOne_55 rfl rfl ?_
    replace h := g_ob h; obtain ⟨x5, e_x5, h⟩ := h
    refine r_getI C f_A_162 d_A_buildOne_56 e_x5 ?_
    refine r_if_eq C 80 d_A_buildOne_59 (by decide) (fun c12 => ?_) (fun c12 => ?_)
    · rw [if_pos c12] at h
      cases h
      exact r_vret C hr d_A_buildOne_80
    · rw [if_neg c12] at h
      refine r_aload_n (x := (some v1)) C d_A_buildOne_62 rfl rfl ?_
      replace h := g_ob h; obtain ⟨x6, e_x6, h⟩ := h
      refine r_getI C f_A_95 d_A_buildOne_63 e_x6 ?_
      refine r_iconst C (-1 : Int32) d_A_buildOne_66 (by decide) ?_
      refine r_icmp_ne C 80 d_A_buildOne_67 (by decide) (fun c11 => ?_) (fun c11 => ?_)
      · rw [if_neg c11] at h
        cases h
        exact r_vret C hr d_A_buildOne_80
      · rw [if_pos c11] at h
        refine r_aload_n (x := (some v0)) C d_A_buildOne_70 rfl rfl ?_
        replace h := g_ob h; obtain ⟨x7, e_x7, h⟩ := h
        refine r_getR C f_A_28 d_A_buildOne_71 e_x7 ?_
        refine r_iconst C (0 : Int32) d_A_buildOne_74 (by decide) ?_
        refine r_dup2 C d_A_buildOne_75 rfl rfl ?_
        replace h := g_ob h; obtain ⟨a8, rfl, h⟩ := h
        replace h := g_ob h; obtain ⟨x9, e_x9, h⟩ := h
        refine r_iald C ak_100 d_A_buildOne_76 e_x9 ?_
        refine r_iconst C (1 : Int32) d_A_buildOne_77 (by decide) ?_
        refine r_iadd C d_A_buildOne_78 ?_
        replace h := g_ob h; obtain ⟨V10, e_V10, h⟩ := h
        refine r_iast C ak_100 d_A_buildOne_79 e_V10 ?_
        cases h
        exact r_vret C hr d_A_buildOne_80
  · rw [if_neg c19] at h
    refine r_aload_n (x := (some v1)) C d_A_buildOne_34 rfl rfl ?_
    refine r_iconst C (5 : Int32) d_A_buildOne_35 (by decide) ?_
    replace h := g_ob h; obtain ⟨V14, e_V14, h⟩ := h
    refine r_put C f_A_98 d_A_buildOne_36 e_V14 (g_nI (5 : Int32)).1 (g_nI (5 : Int32)).2 ?_
    refine r_aload_n (x := (some v0)) C d_A_buildOne_39 rfl rfl ?_
    replace h := g_ob h; obtain ⟨x15, e_x15, h⟩ := h
    refine r_getR C f_A_28 d_A_buildOne_40 e_x15 ?_
    refine r_iconst C (3 : Int32) d_A_buildOne_43 (by decide) ?_
    refine r_dup2 C d_A_buildOne_44 rfl rfl ?_
    replace h := g_ob h; obtain ⟨a16, rfl, h⟩ := h
    replace h := g_ob h; obtain ⟨x17, e_x17, h⟩ := h
    refine r_iald C ak_100 d_A_buildOne_45 e_x17 ?_
    refine r_iconst C (1 : Int32) d_A_buildOne_46 (by decide) ?_
    refine r_iadd C d_A_buildOne_47 ?_
    replace h := g_ob h; obtain ⟨V18, e_V18, h⟩ := h
    refine r_iast C ak_100 d_A_buildOne_48 e_V18 ?_
    cases h
    exact r_vret C hr d_A_buildOne_49
set_option maxHeartbeats 4000000 in
set_option maxRecDepth 100000 in
theorem t_A_buildOne_0 (C : gC E base p s m args meth c b_A_buildOne R_A 2) (hr : meth.sig.returnType = none) {z : Unit × gV} (h0 : Nat) (p1 : Nat) (V : gV) (h : D_A_buildOne h0 p1 L V = some z) : vW E base base 2 p l e rm_A_buildOne s m args below meth c 0 0 (g_MQ E base base below args s 0 0 L z.2 none) L V 0 [(0, tR (some h0)), (1, tR (some p1))] [] := by
  unfold D_A_buildOne at h
  refine r_aload_n (x := (some p1)) C d_A_buildOne_0 rfl rfl ?_
  refine r_aload_n (x := (some h0)) C d_A_buildOne_1 rfl rfl ?_
  refine r_aload_n (x := (some p1)) C d_A_buildOne_2 rfl rfl ?_
  replace h := g_ob h; obtain ⟨n11, e_n11, h⟩ := h
  replace h := g_o2 h; obtain ⟨r1, V2, e_r1, h⟩ := h
  refine r_callV (As := [tR (some p1)]) C k_A_158 w_173 w_174 w_171 ⟨_, _, rfl⟩ (c_A_isMarked l E base base h0 p1 L V e_r1) d_A_buildOne_3 e_n11 rfl ⟨Nat.le_of_ble_eq_true rfl, Nat.le_of_ble_eq_true rfl⟩ (Nat.le_of_ble_eq_true rfl) (Nat.le_of_ble_eq_true rfl) (Nat.le_of_ble_eq_true rfl) rfl ?_
  replace h := g_ob h; obtain ⟨u10, e_u10, h⟩ := h
  replace h := g_ob h; obtain ⟨V3, e_V3, h⟩ := h
  refine r_put C f_A_162 d_A_buildOne_6 e_V3 (g_nZ (x := r1) (g_bz_spec e_u10)).1 (g_nZ (x := r1) (g_bz_spec e_u10)).2 ?_
  refine r_aload_n (x := (some p1)) C d_A_buildOne_9 rfl rfl ?_
  replace h := g_ob h; obtain ⟨x4, e_x4, h⟩ := h
  refine r_getI C f_A_162 d_A_buildOne_10 e_x4 ?_
  refine r_if_eq C 26 d_A_buildOne_13 (by decide) (fun c9 => ?_) (fun c9 => ?_)
  · rw [if_pos c9] at h
    exact t_A_buildOne_26 C hr  h0 p1 V3 h
  · rw [if_neg c9] at h
    refine r_aload_n (x := (some h0)) C d_A_buildOne_16 rfl rfl ?_
    replace h := g_ob h; obtain ⟨x5, e_x5, h⟩ := h
    refine r_getR C f_A_28 d_A_buildOne_17 e_x5 ?_
    refine r_iconst C (4 : Int32) d_A_buildOne_20 (by decide) ?_
    refine r_dup2 C d_A_buildOne_21 rfl rfl ?_
    replace h := g_ob h; obtain ⟨a6, rfl, h⟩ := h
    replace h := g_ob h; obtain ⟨x7, e_x7, h⟩ := h
    refine r_iald C ak_100 d_A_buildOne_22 e_x7 ?_
    refine r_iconst C (1 : Int32) d_A_buildOne_23 (by decide) ?_
    refine r_iadd C d_A_buildOne_24 ?_
    replace h := g_ob h; obtain ⟨V8, e_V8, h⟩ := h
    refine r_iast C ak_100 d_A_buildOne_25 e_V8 ?_
    exact t_A_buildOne_26 C hr  h0 p1 V8 h
theorem c_A_buildOne (l : Launch) (E : gE) (base : Nat) (h0 : Nat) (p1 : Nat) (L : gL) (V : gV) {z : Unit × gV} (h : D_A_buildOne h0 p1 L V = some z) : g_Met l E base base y_A_buildOne b_A_buildOne 2 none rm_A_buildOne [tR (some h0), tR (some p1)] L V none L z.2 :=
  r_enter R_A (by decide) rfl [tR (some h0), tR (some p1)] [(0, tR (some h0)), (1, tR (some p1))] rfl (Nat.le_of_ble_eq_true rfl) (fun p e s m args below meth c C hr hnm => t_A_buildOne_0 C hr h0 p1 V h)
def rm_A_build : Room := { frames := 6, cells := 0, slots := 0, locals := 134 }
def D_A_build_13 (L : gL) : Nat → Nat → Int32 → Int32 → gV → Option (Int32 × gV)
  | 0, _, _, _, _ => none
  | n + 1, v0, v2, v3, V =>
  Option.bind (g_rI L V 3 v0 3) fun x1 =>
    (if x1 ≤ v3 then
    some (v2, V)
  else
    Option.bind (g_rR L V 3 v0 2) fun x2 =>
    Option.bind x2 fun a3 =>
    Option.bind (g_aR L V 104 a3 v3) fun x4 =>
    Option.bind x4 fun a5 =>
    Option.bind (g_rI L V 2 a5 7) fun x6 =>
    (if x6 = 0 then
    D_A_build_13 L  n v0 v2 (v3 + (1 : Int32)) V
  else
    Option.bind ((L).2 3 v0) fun n11 =>
    g_b2 (D_A_buildOne v0 a5 L V) fun r7 V8 =>
    Option.bind (g_rI L V8 2 a5 10) fun x9 =>
    (if x9 = (-1 : Int32) then
    D_A_build_13 L  n v0 v2 (v3 + (1 : Int32)) V8
  else
    D_A_build_13 L  n v0 (v2 + (1 : Int32)) (v3 + (1 : Int32)) V8)))
def D_A_build (h0 : Nat) (p1 : Int32) (L : gL) (V : gV) : Option (Int32 × gV) :=
  Option.bind ((L).2 3 h0) fun n6 =>
    g_b2 (D_A_forgetLatestBuild h0 L V) fun r1 V2 =>
    Option.bind ((L).2 3 h0) fun n5 =>
    g_b2 (D_A_takeNeeded h0 p1 L V2) fun r3 V4 =>
    D_A_build_13 L  1000 h0 (0 : Int32) (0 : Int32) V4
set_option maxHeartbeats 4000000 in
set_option maxRecDepth 100000 in
theorem t_A_build_13 (C : gC E base p s m args meth c b_A_build R_A 5) (hr : meth.sig.returnType = (some .int)) {z : Int32 × gV} : ∀ (n : Nat) (v0 : Nat) (v2 : Int32) (v3 : Int32) (V : gV), D_A_build_13 L  n v0 v2 v3 V = some z → vW E base base 5 p l e rm_A_build s m args below meth c 0 0 (g_MQ E base base below args s 0 0 L z.2 (some (tI z.1))) L V 13 [(0, tR (some v0)), (2, tI v2), (3, tI v3)] [] := by
  intro n
  induction n with
  | zero =>
    intro v0 v2 v3 V h
    rw [D_A_build_13] at h
    cases h
  | succ n ih =>
    intro v0 v2 v3 V h
    rw [D_A_build_13] at h
    refine r_iload_n (x := v3) C d_A_build_13 rfl rfl ?_
    refine r_aload_n (x := (some v0)) C d_A_build_14 rfl rfl ?_
    replace h := g_ob h; obtain ⟨x1, e_x1, h⟩ := h
    refine r_getI C f_A_25 d_A_build_15 e_x1 ?_
    refine r_icmp_ge C 61 d_A_build_18 (by decide) (fun c13 => ?_) (fun c13 => ?_)
    · rw [if_pos c13] at h
      refine r_iload_n (x := v2) C d_A_build_61 rfl rfl ?_
      cases h
      exact r_iret C hr d_A_build_62
    · rw [if_neg c13] at h
      refine r_aload_n (x := (some v0)) C d_A_build_21 rfl rfl ?_
      replace h := g_ob h; obtain ⟨x2, e_x2, h⟩ := h
      refine r_getR C f_A_21 d_A_build_22 e_x2 ?_
      refine r_iload_n (x := v3) C d_A_build_25 rfl rfl ?_
      replace h := g_ob h; obtain ⟨a3, rfl, h⟩ := h
      replace h := g_ob h; obtain ⟨x4, e_x4, h⟩ := h
      refine r_aald C ak_104 rfl d_A_build_26 e_x4 ?_
      refine r_astore (lv' := [(4, tR x4), (0, tR (some v0)), (2, tI v2), (3, tI v3)]) C d_A_build_27 (by decide) rfl ?_
      refine r_aload (x := x4) C d_A_build_29 rfl ?_
      replace h := g_ob h; obtain ⟨a5, rfl, h⟩ := h
      replace h := g_ob h; obtain ⟨x6, e_x6, h⟩ := h
      refine r_getI C f_A_88 d_A_build_31 e_x6 ?_
      refine r_if_eq C 55 d_A_build_34 (by decide) (fun c12 => ?_) (fun c12 => ?_)
      · rw [if_pos c12] at h
        refine r_iinc (x := v3) (v := v3 + (1 : Int32)) (lv' := [(3, tI (v3 + (1 : Int32))), (4, tR (some a5)), (0, tR (some v0)), (2, tI v2)]) C d_A_build_55 rfl rfl (by decide) rfl ?_
        refine r_goto C 13 d_A_build_58 (by decide) ?_
        refine r_lv [2, 3, 0] rfl ?_
        exact ih v0 v2 (v3 + (1 : Int32)) V h
      · rw [if_neg c12] at h
        refine r_aload_n (x := (some v0)) C d_A_build_37 rfl rfl ?_
        refine r_aload (x := (some a5)) C d_A_build_38 rfl ?_
        replace h := g_ob h; obtain ⟨n11, e_n11, h⟩ := h
        replace h := g_o2 h; obtain ⟨r7, V8, e_r7, h⟩ := h
        refine r_callV (As := [tR (some a5)]) C k_A_91 w_221 w_222 w_219 ⟨_, _, rfl⟩ (c_A_buildOne l E base v0 a5 L V e_r7) d_A_build_40 e_n11 rfl ⟨Nat.le_of_ble_eq_true rfl, Nat.le_of_ble_eq_true rfl⟩ (Nat.le_of_ble_eq_true rfl) (Nat.le_of_ble_eq_true rfl) (Nat.le_of_ble_eq_true rfl) rfl ?_
        refine r_aload (x := (some a5)) C d_A_build_43 rfl ?_
        replace h := g_ob h; obtain ⟨x9, e_x9, h⟩ := h
        refine r_getI C f_A_95 d_A_build_45 e_x9 ?_
        refine r_iconst C (-1 : Int32) d_A_build_48 (by decide) ?_
        refine r_icmp_eq C 55 d_A_build_49 (by decide) (fun c10 => ?_) (fun c10 => ?_)
        · rw [if_pos c10] at h
          refine r_iinc (x := v3) (v := v3 + (1 : Int32)) (lv' := [(3, tI (v3 + (1 : Int32))), (4, tR (some a5)), (0, tR (some v0)), (2, tI v2)]) C d_A_build_55 rfl rfl (by decide) rfl ?_
          refine r_goto C 13 d_A_build_58 (by decide) ?_
          refine r_lv [2, 3, 0] rfl ?_
          exact ih v0 v2 (v3 + (1 : Int32)) V8 h
        · rw [if_neg c10] at h
          refine r_iinc (x := v2) (v := v2 + (1 : Int32)) (lv' := [(2, tI (v2 + (1 : Int32))), (4, tR (some a5)), (0, tR (some v0)), (3, tI v3)]) C d_A_build_52 rfl rfl (by decide) rfl ?_
          refine r_iinc (x := v3) (v := v3 + (1 : Int32)) (lv' := [(3, tI (v3 + (1 : Int32))), (2, tI (v2 + (1 : Int32))), (4, tR (some a5)), (0, tR (some v0))]) C d_A_build_55 rfl rfl (by decide) rfl ?_
          refine r_goto C 13 d_A_build_58 (by decide) ?_
          refine r_lv [3, 1, 0] rfl ?_
          exact ih v0 (v2 + (1 : Int32)) (v3 + (1 : Int32)) V8 h
set_option maxHeartbeats 4000000 in
set_option maxRecDepth 100000 in
theorem t_A_build_0 (C : gC E base p s m args meth c b_A_build R_A 5) (hr : meth.sig.returnType = (some .int)) {z : Int32 × gV} (h0 : Nat) (p1 : Int32) (V : gV) (h : D_A_build h0 p1 L V = some z) : vW E base base 5 p l e rm_A_build s m args below meth c 0 0 (g_MQ E base base below args s 0 0 L z.2 (some (tI z.1))) L V 0 [(0, tR (some h0)), (1, tI p1)] [] := by
  unfold D_A_build at h
  refine r_aload_n (x := (some h0)) C d_A_build_0 rfl rfl ?_
  replace h := g_ob h; obtain ⟨n6, e_n6, h⟩ := h
  replace h := g_o2 h; obtain ⟨r1, V2, e_r1, h⟩ := h
  refine r_callV (As := []) C k_A_81 w_144 w_145 w_124 ⟨_, _, rfl⟩ (c_A_forgetLatestBuild l E base h0 L V e_r1) d_A_build_1 e_n6 rfl ⟨Nat.le_of_ble_eq_true rfl, Nat.le_of_ble_eq_true rfl⟩ (Nat.le_of_ble_eq_true rfl) (Nat.le_of_ble_eq_true rfl) (Nat.le_of_ble_eq_true rfl) rfl ?_
  refine r_aload_n (x := (some h0)) C d_A_build_4 rfl rfl ?_
  refine r_iload_n (x := p1) C d_A_build_5 rfl rfl ?_
  replace h := g_ob h; obtain ⟨n5, e_n5, h⟩ := h
  replace h := g_o2 h; obtain ⟨r3, V4, e_r3, h⟩ := h
  refine r_callV (As := [tI p1]) C k_A_84 w_142 w_143 w_140 ⟨_, _, rfl⟩ (c_A_takeNeeded l E base h0 p1 L V2 e_r3) d_A_build_6 e_n5 rfl ⟨Nat.le_of_ble_eq_true rfl, Nat.le_of_ble_eq_true rfl⟩ (Nat.le_of_ble_eq_true rfl) (Nat.le_of_ble_eq_true rfl) (Nat.le_of_ble_eq_true rfl) rfl ?_
  refine r_iconst C (0 : Int32) d_A_build_9 (by decide) ?_
  refine r_istore_n (lv' := [(2, tI (0 : Int32)), (0, tR (some h0)), (1, tI p1)]) C d_A_build_10 rfl (by decide) rfl ?_
  refine r_iconst C (0 : Int32) d_A_build_11 (by decide) ?_
  refine r_istore_n (lv' := [(3, tI (0 : Int32)), (2, tI (0 : Int32)), (0, tR (some h0)), (1, tI p1)]) C d_A_build_12 rfl (by decide) rfl ?_
  refine r_lv [2, 1, 0] rfl ?_
  exact t_A_build_13 C hr  1000 h0 (0 : Int32) (0 : Int32) V4 h
theorem c_A_build (l : Launch) (E : gE) (base : Nat) (h0 : Nat) (p1 : Int32) (L : gL) (V : gV) {z : Int32 × gV} (h : D_A_build h0 p1 L V = some z) : g_Met l E base base y_A_build b_A_build 5 (some .int) rm_A_build [tR (some h0), tI p1] L V (some (tI z.1)) L z.2 :=
  r_enter R_A (by decide) rfl [tR (some h0), tI p1] [(0, tR (some h0)), (1, tI p1)] rfl (Nat.le_of_ble_eq_true rfl) (fun p e s m args below meth c C hr hnm => t_A_build_0 C hr h0 p1 V h)
def rm_A_state : Room := { frames := 1, cells := 0, slots := 0, locals := 21 }
def D_A_state (h0 : Nat) (p1 : Int32) (L : gL) (V : gV) : Option (Int32 × gV) :=
  Option.bind ((L).2 3 h0) fun n5 =>
    g_b2 (D_A_stepAt h0 p1 L V) fun r1 V2 =>
    (g_on r1
    (some ((0 : Int32), V2))
    (fun a3 =>
    Option.bind (g_rI L V2 2 a3 9) fun x4 =>
    some (x4, V2)))
set_option maxHeartbeats 4000000 in
set_option maxRecDepth 100000 in
theorem t_A_state_0 (C : gC E bA p s m args meth c b_A_state R_A 3) (hr : meth.sig.returnType = (some .int)) {z : Int32 × gV} (h0 : Nat) (p1 : Int32) (V : gV) (h : D_A_state h0 p1 L V = some z) : vW E base bA 3 p l e rm_A_state s m args below meth c 0 0 (g_MQ E base bA below args s 0 0 L z.2 (some (tI z.1))) L V 0 [(0, tR (some h0)), (1, tI p1)] [] := by
  unfold D_A_state at h
  refine r_aload_n (x := (some h0)) C d_A_state_0 rfl rfl ?_
  refine r_iload_n (x := p1) C d_A_state_1 rfl rfl ?_
  replace h := g_ob h; obtain ⟨n5, e_n5, h⟩ := h
  replace h := g_o2 h; obtain ⟨r1, V2, e_r1, h⟩ := h
  refine r_callV (As := [tI p1]) C k_A_59 w_111 w_112 w_102 ⟨_, _, rfl⟩ (c_A_stepAt l E base bA h0 p1 L V e_r1) d_A_state_2 e_n5 rfl ⟨Nat.le_of_ble_eq_true rfl, Nat.le_of_ble_eq_true rfl⟩ (Nat.le_of_ble_eq_true rfl) (Nat.le_of_ble_eq_true rfl) (Nat.le_of_ble_eq_true rfl) rfl ?_
  refine r_astore_n (lv' := [(2, tR r1), (0, tR (some h0)), (1, tI p1)]) C d_A_state_5 rfl (by decide) rfl ?_
  refine r_aload_n (x := r1) C d_A_state_6 rfl rfl ?_
  replace h := g_oon h; rcases h with ⟨rfl, h⟩ | ⟨a3, rfl, h⟩
  · refine r_ifnonnull_f C d_A_state_7 ?_
    refine r_iconst C (0 : Int32) d_A_state_10 (by decide) ?_
    refine r_goto C 18 d_A_state_11 (by decide) ?_
    cases h
    exact r_iret C hr d_A_state_18
  · refine r_ifnonnull_t C 14 d_A_state_7 (by decide) ?_
    refine r_aload_n (x := (some a3)) C d_A_state_14 rfl rfl ?_
    replace h := g_ob h; obtain ⟨x4, e_x4, h⟩ := h
    refine r_getI C f_A_98 d_A_state_15 e_x4 ?_
    cases h
    exact r_iret C hr d_A_state_18
theorem c_A_state (l : Launch) (E : gE) (base bA : Nat) (h0 : Nat) (p1 : Int32) (L : gL) (V : gV) {z : Int32 × gV} (h : D_A_state h0 p1 L V = some z) : g_Met l E base bA y_A_state b_A_state 3 (some .int) rm_A_state [tR (some h0), tI p1] L V (some (tI z.1)) L z.2 :=
  r_enter R_A (by decide) rfl [tR (some h0), tI p1] [(0, tR (some h0)), (1, tI p1)] rfl (Nat.le_of_ble_eq_true rfl) (fun p e s m args below meth c C hr hnm => t_A_state_0 C hr h0 p1 V h)
def rm_A_cause : Room := { frames := 1, cells := 0, slots := 0, locals := 21 }
def D_A_cause (h0 : Nat) (p1 : Int32) (L : gL) (V : gV) : Option (Int32 × gV) :=
  Option.bind ((L).2 3 h0) fun n5 =>
    g_b2 (D_A_stepAt h0 p1 L V) fun r1 V2 =>
    (g_on r1
    (some ((-1 : Int32), V2))
    (fun a3 =>
    Option.bind (g_rI L V2 2 a3 10) fun x4 =>
    some (x4, V2)))
set_option maxHeartbeats 4000000 in
set_option maxRecDepth 100000 in
theorem t_A_cause_0 (C : gC E bA p s m args meth c b_A_cause R_A 3) (hr : meth.sig.returnType = (some .int)) {z : Int32 × gV} (h0 : Nat) (p1 : Int32) (V : gV) (h : D_A_cause h0 p1 L V = some z) : vW E base bA 3 p l e rm_A_cause s m args below meth c 0 0 (g_MQ E base bA below args s 0 0 L z.2 (some (tI z.1))) L V 0 [(0, tR (some h0)), (1, tI p1)] [] := by
  unfold D_A_cause at h
  refine r_aload_n (x := (some h0)) C d_A_cause_0 rfl rfl ?_
  refine r_iload_n (x := p1) C d_A_cause_1 rfl rfl ?_
  replace h := g_ob h; obtain ⟨n5, e_n5, h⟩ := h
  replace h := g_o2 h; obtain ⟨r1, V2, e_r1, h⟩ := h
  refine r_callV (As := [tI p1]) C k_A_59 w_111 w_112 w_102 ⟨_, _, rfl⟩ (c_A_stepAt l E base bA h0 p1 L V e_r1) d_A_cause_2 e_n5 rfl ⟨Nat.le_of_ble_eq_true rfl, Nat.le_of_ble_eq_true rfl⟩ (Nat.le_of_ble_eq_true rfl) (Nat.le_of_ble_eq_true rfl) (Nat.le_of_ble_eq_true rfl) rfl ?_
  refine r_astore_n (lv' := [(2, tR r1), (0, tR (some h0)), (1, tI p1)]) C d_A_cause_5 rfl (by decide) rfl ?_
  refine r_aload_n (x := r1) C d_A_cause_6 rfl rfl ?_
  replace h := g_oon h; rcases h with ⟨rfl, h⟩ | ⟨a3, rfl, h⟩
  · refine r_ifnonnull_f C d_A_cause_7 ?_
    refine r_iconst C (-1 : Int32) d_A_cause_10 (by decide) ?_
    refine r_goto C 18 d_A_cause_11 (by decide) ?_
    cases h
    exact r_iret C hr d_A_cause_18
  · refine r_ifnonnull_t C 14 d_A_cause_7 (by decide) ?_
    refine r_aload_n (x := (some a3)) C d_A_cause_14 rfl rfl ?_
    replace h := g_ob h; obtain ⟨x4, e_x4, h⟩ := h
    refine r_getI C f_A_95 d_A_cause_15 e_x4 ?_
    cases h
    exact r_iret C hr d_A_cause_18
theorem c_A_cause (l : Launch) (E : gE) (base bA : Nat) (h0 : Nat) (p1 : Int32) (L : gL) (V : gV) {z : Int32 × gV} (h : D_A_cause h0 p1 L V = some z) : g_Met l E base bA y_A_cause b_A_cause 3 (some .int) rm_A_cause [tR (some h0), tI p1] L V (some (tI z.1)) L z.2 :=
  r_enter R_A (by decide) rfl [tR (some h0), tI p1] [(0, tR (some h0)), (1, tI p1)] rfl (Nat.le_of_ble_eq_true rfl) (fun p e s m args below meth c C hr hnm => t_A_cause_0 C hr h0 p1 V h)
def rm_A_counted : Room := { frames := 0, cells := 0, slots := 0, locals := 0 }
def D_A_counted (h0 : Nat) (p1 : Int32) (L : gL) (V : gV) : Option (Int32 × gV) :=
  (if p1 < 0 then
    some ((-1 : Int32), V)
  else
    (if p1 < (5 : Int32) then
    Option.bind (g_rR L V 3 h0 4) fun x1 =>
    Option.bind x1 fun a2 =>
    Option.bind (g_aI L V 100 a2 p1) fun x3 =>
    some (x3, V)
  else
    some ((-1 : Int32), V)))
set_option maxHeartbeats 4000000 in
set_option maxRecDepth 100000 in
theorem t_A_counted_0 (C : gC E bA p s m args meth c b_A_counted R_A 2) (hr : meth.sig.returnType = (some .int)) {z : Int32 × gV} (h0 : Nat) (p1 : Int32) (V : gV) (h : D_A_counted h0 p1 L V = some z) : vW E base bA 2 p l e rm_A_counted s m args below meth c 0 0 (g_MQ E base bA below args s 0 0 L z.2 (some (tI z.1))) L V 0 [(0, tR (some h0)), (1, tI p1)] [] := by
  unfold D_A_counted at h
  refine r_iload_n (x := p1) C d_A_counted_0 rfl rfl ?_
  refine r_if_lt C 9 d_A_counted_1 (by decide) (fun c5 => ?_) (fun c5 => ?_)
  · rw [if_pos c5] at h
    refine r_iconst C (-1 : Int32) d_A_counted_9 (by decide) ?_
    cases h
    exact r_iret C hr d_A_counted_10
  · rw [if_neg c5] at h
    refine r_iload_n (x := p1) C d_A_counted_4 rfl rfl ?_
    refine r_iconst C (5 : Int32) d_A_counted_5 (by decide) ?_
    refine r_icmp_lt C 11 d_A_counted_6 (by decide) (fun c4 => ?_) (fun c4 => ?_)
    · rw [if_pos c4] at h
      refine r_aload_n (x := (some h0)) C d_A_counted_11 rfl rfl ?_
      replace h := g_ob h; obtain ⟨x1, e_x1, h⟩ := h
      refine r_getR C f_A_28 d_A_counted_12 e_x1 ?_
      refine r_iload_n (x := p1) C d_A_counted_15 rfl rfl ?_
      replace h := g_ob h; obtain ⟨a2, rfl, h⟩ := h
      replace h := g_ob h; obtain ⟨x3, e_x3, h⟩ := h
      refine r_iald C ak_100 d_A_counted_16 e_x3 ?_
      cases h
      exact r_iret C hr d_A_counted_17
    · rw [if_neg c4] at h
      refine r_iconst C (-1 : Int32) d_A_counted_9 (by decide) ?_
      cases h
      exact r_iret C hr d_A_counted_10
theorem c_A_counted (l : Launch) (E : gE) (base bA : Nat) (h0 : Nat) (p1 : Int32) (L : gL) (V : gV) {z : Int32 × gV} (h : D_A_counted h0 p1 L V = some z) : g_Met l E base bA y_A_counted b_A_counted 2 (some .int) rm_A_counted [tR (some h0), tI p1] L V (some (tI z.1)) L z.2 :=
  r_enter R_A (by decide) rfl [tR (some h0), tI p1] [(0, tR (some h0)), (1, tI p1)] rfl (Nat.le_of_ble_eq_true rfl) (fun p e s m args below meth c C hr hnm => t_A_counted_0 C hr h0 p1 V h)
def rm_A_records : Room := { frames := 1, cells := 0, slots := 0, locals := 21 }
def D_A_records (h0 : Nat) (p1 : Int32) (L : gL) (V : gV) : Option (Int32 × gV) :=
  Option.bind ((L).2 3 h0) fun n5 =>
    g_b2 (D_A_stepAt h0 p1 L V) fun r1 V2 =>
    (g_on r1
    (some ((0 : Int32), V2))
    (fun a3 =>
    Option.bind (g_rI L V2 2 a3 5) fun x4 =>
    some (x4, V2)))
set_option maxHeartbeats 4000000 in
set_option maxRecDepth 100000 in
theorem t_A_records_0 (C : gC E bA p s m args meth c b_A_records R_A 3) (hr : meth.sig.returnType = (some .int)) {z : Int32 × gV} (h0 : Nat) (p1 : Int32) (V : gV) (h : D_A_records h0 p1 L V = some z) : vW E base bA 3 p l e rm_A_records s m args below meth c 0 0 (g_MQ E base bA below args s 0 0 L z.2 (some (tI z.1))) L V 0 [(0, tR (some h0)), (1, tI p1)] [] := by
  unfold D_A_records at h
  refine r_aload_n (x := (some h0)) C d_A_records_0 rfl rfl ?_
  refine r_iload_n (x := p1) C d_A_records_1 rfl rfl ?_
  replace h := g_ob h; obtain ⟨n5, e_n5, h⟩ := h
  replace h := g_o2 h; obtain ⟨r1, V2, e_r1, h⟩ := h
  refine r_callV (As := [tI p1]) C k_A_59 w_111 w_112 w_102 ⟨_, _, rfl⟩ (c_A_stepAt l E base bA h0 p1 L V e_r1) d_A_records_2 e_n5 rfl ⟨Nat.le_of_ble_eq_true rfl, Nat.le_of_ble_eq_true rfl⟩ (Nat.le_of_ble_eq_true rfl) (Nat.le_of_ble_eq_true rfl) (Nat.le_of_ble_eq_true rfl) rfl ?_
  refine r_astore_n (lv' := [(2, tR r1), (0, tR (some h0)), (1, tI p1)]) C d_A_records_5 rfl (by decide) rfl ?_
  refine r_aload_n (x := r1) C d_A_records_6 rfl rfl ?_
  replace h := g_oon h; rcases h with ⟨rfl, h⟩ | ⟨a3, rfl, h⟩
  · refine r_ifnonnull_f C d_A_records_7 ?_
    refine r_iconst C (0 : Int32) d_A_records_10 (by decide) ?_
    refine r_goto C 18 d_A_records_11 (by decide) ?_
    cases h
    exact r_iret C hr d_A_records_18
  · refine r_ifnonnull_t C 14 d_A_records_7 (by decide) ?_
    refine r_aload_n (x := (some a3)) C d_A_records_14 rfl rfl ?_
    replace h := g_ob h; obtain ⟨x4, e_x4, h⟩ := h
    refine r_getI C f_A_127 d_A_records_15 e_x4 ?_
    cases h
    exact r_iret C hr d_A_records_18
theorem c_A_records (l : Launch) (E : gE) (base bA : Nat) (h0 : Nat) (p1 : Int32) (L : gL) (V : gV) {z : Int32 × gV} (h : D_A_records h0 p1 L V = some z) : g_Met l E base bA y_A_records b_A_records 3 (some .int) rm_A_records [tR (some h0), tI p1] L V (some (tI z.1)) L z.2 :=
  r_enter R_A (by decide) rfl [tR (some h0), tI p1] [(0, tR (some h0)), (1, tI p1)] rfl (Nat.le_of_ble_eq_true rfl) (fun p e s m args below meth c C hr hnm => t_A_records_0 C hr h0 p1 V h)
def rm_A_record : Room := { frames := 1, cells := 0, slots := 0, locals := 21 }
def D_A_record (h0 : Nat) (p1 : Int32) (p2 : Int32) (p3 : Int32) (L : gL) (V : gV) : Option (Int64 × gV) :=
  Option.bind ((L).2 3 h0) fun n14 =>
    g_b2 (D_A_stepAt h0 p1 L V) fun r1 V2 =>
    (g_on r1
    (some ((0 : Int64), V2))
    (fun a3 =>
    (if p3 < 0 then
    some ((0 : Int64), V2)
  else
    Option.bind (g_rI L V2 2 a3 3) fun x4 =>
    (if p3 < x4 then
    Option.bind ((L).2 2 a3) fun n11 =>
    g_b2 (D_T_entryAt a3 p2 L V2) fun r5 V6 =>
    (g_on r5
    (some ((0 : Int64), V6))
    (fun a7 =>
    Option.bind (g_rR L V6 0 a7 1) fun x8 =>
    Option.bind x8 fun a9 =>
    Option.bind (g_aJ L V6 101 a9 p3) fun x10 =>
    some (x10, V6)))
  else
    some ((0 : Int64), V2)))))
set_option maxHeartbeats 4000000 in
set_option maxRecDepth 100000 in
theorem t_A_record_0 (C : gC E bA p s m args meth c b_A_record R_A 6) (hr : meth.sig.returnType = (some .long)) {z : Int64 × gV} (h0 : Nat) (p1 : Int32) (p2 : Int32) (p3 : Int32) (V : gV) (h : D_A_record h0 p1 p2 p3 L V = some z) : vW E base bA 6 p l e rm_A_record s m args below meth c 0 0 (g_MQ E base bA below args s 0 0 L z.2 (some (tJ z.1))) L V 0 [(0, tR (some h0)), (1, tI p1), (2, tI p2), (3, tI p3)] [] := by
  unfold D_A_record at h
  refine r_aload_n (x := (some h0)) C d_A_record_0 rfl rfl ?_
  refine r_iload_n (x := p1) C d_A_record_1 rfl rfl ?_
  replace h := g_ob h; obtain ⟨n14, e_n14, h⟩ := h
  replace h := g_o2 h; obtain ⟨r1, V2, e_r1, h⟩ := h
  refine r_callV (As := [tI p1]) C k_A_59 w_111 w_112 w_102 ⟨_, _, rfl⟩ (c_A_stepAt l E base bA h0 p1 L V e_r1) d_A_record_2 e_n14 rfl ⟨Nat.le_of_ble_eq_true rfl, Nat.le_of_ble_eq_true rfl⟩ (Nat.le_of_ble_eq_true rfl) (Nat.le_of_ble_eq_true rfl) (Nat.le_of_ble_eq_true rfl) rfl ?_
  refine r_astore (lv' := [(4, tR r1), (0, tR (some h0)), (1, tI p1), (2, tI p2), (3, tI p3)]) C d_A_record_5 (by decide) rfl ?_
  refine r_aload (x := r1) C d_A_record_7 rfl ?_
  replace h := g_oon h; rcases h with ⟨rfl, h⟩ | ⟨a3, rfl, h⟩
  · refine r_ifnull_t C 25 d_A_record_9 (by decide) ?_
    refine r_lconst C (0 : Int64) d_A_record_25 (by decide) ?_
    cases h
    exact r_lret C hr d_A_record_26
  · refine r_ifnull_f C d_A_record_9 ?_
    refine r_iload_n (x := p3) C d_A_record_12 rfl rfl ?_
    refine r_if_lt C 25 d_A_record_13 (by decide) (fun c13 => ?_) (fun c13 => ?_)
    · rw [if_pos c13] at h
      refine r_lconst C (0 : Int64) d_A_record_25 (by decide) ?_
      cases h
      exact r_lret C hr d_A_record_26
    · rw [if_neg c13] at h
      refine r_iload_n (x := p3) C d_A_record_16 rfl rfl ?_
      refine r_aload (x := (some a3)) C d_A_record_17 rfl ?_
      replace h := g_ob h; obtain ⟨x4, e_x4, h⟩ := h
      refine r_getI C f_A_130 d_A_record_19 e_x4 ?_
      refine r_icmp_lt C 27 d_A_record_22 (by decide) (fun c12 => ?_) (fun c12 => ?_)
      · rw [if_pos c12] at h
        refine r_aload (x := (some a3)) C d_A_record_27 rfl ?_
        refine r_iload_n (x := p2) C d_A_record_29 rfl rfl ?_
        replace h := g_ob h; obtain ⟨n11, e_n11, h⟩ := h
        replace h := g_o2 h; obtain ⟨r5, V6, e_r5, h⟩ := h
        refine r_callV (As := [tI p2]) C k_A_108 w_148 w_149 w_146 ⟨_, _, rfl⟩ (c_T_entryAt l E base bA a3 p2 L V2 e_r5) d_A_record_30 e_n11 rfl ⟨Nat.le_of_ble_eq_true rfl, Nat.le_of_ble_eq_true rfl⟩ (Nat.le_of_ble_eq_true rfl) (Nat.le_of_ble_eq_true rfl) (Nat.le_of_ble_eq_true rfl) rfl ?_
        refine r_astore (lv' := [(5, tR r5), (4, tR (some a3)), (0, tR (some h0)), (1, tI p1), (2, tI p2), (3, tI p3)]) C d_A_record_33 (by decide) rfl ?_
        refine r_aload (x := r5) C d_A_record_35 rfl ?_
        replace h := g_oon h; rcases h with ⟨rfl, h⟩ | ⟨a7, rfl, h⟩
        · refine r_ifnonnull_f C d_A_record_37 ?_
          refine r_lconst C (0 : Int64) d_A_record_40 (by decide) ?_
          refine r_goto C 51 d_A_record_41 (by decide) ?_
          cases h
          exact r_lret C hr d_A_record_51
        · refine r_ifnonnull_t C 44 d_A_record_37 (by decide) ?_
          refine r_aload (x := (some a7)) C d_A_record_44 rfl ?_
          replace h := g_ob h; obtain ⟨x8, e_x8, h⟩ := h
          refine r_getR C f_A_133 d_A_record_46 e_x8 ?_
          refine r_iload_n (x := p3) C d_A_record_49 rfl rfl ?_
          replace h := g_ob h; obtain ⟨a9, rfl, h⟩ := h
          replace h := g_ob h; obtain ⟨x10, e_x10, h⟩ := h
          refine r_lald C ak_101 d_A_record_50 e_x10 ?_
          cases h
          exact r_lret C hr d_A_record_51
      · rw [if_neg c12] at h
        refine r_lconst C (0 : Int64) d_A_record_25 (by decide) ?_
        cases h
        exact r_lret C hr d_A_record_26
theorem c_A_record (l : Launch) (E : gE) (base bA : Nat) (h0 : Nat) (p1 : Int32) (p2 : Int32) (p3 : Int32) (L : gL) (V : gV) {z : Int64 × gV} (h : D_A_record h0 p1 p2 p3 L V = some z) : g_Met l E base bA y_A_record b_A_record 6 (some .long) rm_A_record [tR (some h0), tI p1, tI p2, tI p3] L V (some (tJ z.1)) L z.2 :=
  r_enter R_A (by decide) rfl [tR (some h0), tI p1, tI p2, tI p3] [(0, tR (some h0)), (1, tI p1), (2, tI p2), (3, tI p3)] rfl (Nat.le_of_ble_eq_true rfl) (fun p e s m args below meth c C hr hnm => t_A_record_0 C hr h0 p1 p2 p3 V h)
def rm_A_failed : Room := { frames := 1, cells := 0, slots := 0, locals := 21 }
def D_A_failed (h0 : Nat) (p1 : Int32) (p2 : Int32) (L : gL) (V : gV) : Option (Int32 × gV) :=
  Option.bind ((L).2 3 h0) fun n9 =>
    g_b2 (D_A_stepAt h0 p1 L V) fun r1 V2 =>
    (g_on r1
    (some ((-1 : Int32), V2))
    (fun a3 =>
    Option.bind ((L).2 2 a3) fun n8 =>
    g_b2 (D_T_entryAt a3 p2 L V2) fun r4 V5 =>
    (g_on r4
    (some ((-1 : Int32), V5))
    (fun a6 =>
    Option.bind (g_rI L V5 0 a6 2) fun x7 =>
    some (x7, V5)))))
set_option maxHeartbeats 4000000 in
set_option maxRecDepth 100000 in
theorem t_A_failed_0 (C : gC E bA p s m args meth c b_A_failed R_A 5) (hr : meth.sig.returnType = (some .int)) {z : Int32 × gV} (h0 : Nat) (p1 : Int32) (p2 : Int32) (V : gV) (h : D_A_failed h0 p1 p2 L V = some z) : vW E base bA 5 p l e rm_A_failed s m args below meth c 0 0 (g_MQ E base bA below args s 0 0 L z.2 (some (tI z.1))) L V 0 [(0, tR (some h0)), (1, tI p1), (2, tI p2)] [] := by
  unfold D_A_failed at h
  refine r_aload_n (x := (some h0)) C d_A_failed_0 rfl rfl ?_
  refine r_iload_n (x := p1) C d_A_failed_1 rfl rfl ?_
  replace h := g_ob h; obtain ⟨n9, e_n9, h⟩ := h
  replace h := g_o2 h; obtain ⟨r1, V2, e_r1, h⟩ := h
  refine r_callV (As := [tI p1]) C k_A_59 w_111 w_112 w_102 ⟨_, _, rfl⟩ (c_A_stepAt l E base bA h0 p1 L V e_r1) d_A_failed_2 e_n9 rfl ⟨Nat.le_of_ble_eq_true rfl, Nat.le_of_ble_eq_true rfl⟩ (Nat.le_of_ble_eq_true rfl) (Nat.le_of_ble_eq_true rfl) (Nat.le_of_ble_eq_true rfl) rfl ?_
  refine r_astore_n (lv' := [(3, tR r1), (0, tR (some h0)), (1, tI p1), (2, tI p2)]) C d_A_failed_5 rfl (by decide) rfl ?_
  refine r_aload_n (x := r1) C d_A_failed_6 rfl rfl ?_
  replace h := g_oon h; rcases h with ⟨rfl, h⟩ | ⟨a3, rfl, h⟩
  · refine r_ifnonnull_f C d_A_failed_7 ?_
    refine r_iconst C (-1 : Int32) d_A_failed_10 (by decide) ?_
    cases h
    exact r_iret C hr d_A_failed_11
  · refine r_ifnonnull_t C 12 d_A_failed_7 (by decide) ?_
    refine r_aload_n (x := (some a3)) C d_A_failed_12 rfl rfl ?_
    refine r_iload_n (x := p2) C d_A_failed_13 rfl rfl ?_
    replace h := g_ob h; obtain ⟨n8, e_n8, h⟩ := h
    replace h := g_o2 h; obtain ⟨r4, V5, e_r4, h⟩ := h
    refine r_callV (As := [tI p2]) C k_A_108 w_148 w_149 w_146 ⟨_, _, rfl⟩ (c_T_entryAt l E base bA a3 p2 L V2 e_r4) d_A_failed_14 e_n8 rfl ⟨Nat.le_of_ble_eq_true rfl, Nat.le_of_ble_eq_true rfl⟩ (Nat.le_of_ble_eq_true rfl) (Nat.le_of_ble_eq_true rfl) (Nat.le_of_ble_eq_true rfl) rfl ?_
    refine r_astore (lv' := [(4, tR r4), (3, tR (some a3)), (0, tR (some h0)), (1, tI p1), (2, tI p2)]) C d_A_failed_17 (by decide) rfl ?_
    refine r_aload (x := r4) C d_A_failed_19 rfl ?_
    replace h := g_oon h; rcases h with ⟨rfl, h⟩ | ⟨a6, rfl, h⟩
    · refine r_ifnonnull_f C d_A_failed_21 ?_
      refine r_iconst C (-1 : Int32) d_A_failed_24 (by decide) ?_
      refine r_goto C 33 d_A_failed_25 (by decide) ?_
      cases h
      exact r_iret C hr d_A_failed_33
    · refine r_ifnonnull_t C 28 d_A_failed_21 (by decide) ?_
      refine r_aload (x := (some a6)) C d_A_failed_28 rfl ?_
      replace h := g_ob h; obtain ⟨x7, e_x7, h⟩ := h
      refine r_getI C f_A_137 d_A_failed_30 e_x7 ?_
      cases h
      exact r_iret C hr d_A_failed_33
theorem c_A_failed (l : Launch) (E : gE) (base bA : Nat) (h0 : Nat) (p1 : Int32) (p2 : Int32) (L : gL) (V : gV) {z : Int32 × gV} (h : D_A_failed h0 p1 p2 L V = some z) : g_Met l E base bA y_A_failed b_A_failed 5 (some .int) rm_A_failed [tR (some h0), tI p1, tI p2] L V (some (tI z.1)) L z.2 :=
  r_enter R_A (by decide) rfl [tR (some h0), tI p1, tI p2] [(0, tR (some h0)), (1, tI p1), (2, tI p2)] rfl (Nat.le_of_ble_eq_true rfl) (fun p e s m args below meth c C hr hnm => t_A_failed_0 C hr h0 p1 p2 V h)
def rm_A_total : Room := { frames := 0, cells := 0, slots := 0, locals := 0 }
def D_A_total (h0 : Nat) (p1 : Int32) (L : gL) (V : gV) : Option (Int32 × gV) :=
  (if p1 < 0 then
    some ((-1 : Int32), V)
  else
    (if p1 < (4 : Int32) then
    Option.bind (g_rR L V 3 h0 5) fun x1 =>
    Option.bind x1 fun a2 =>
    Option.bind (g_aI L V 100 a2 p1) fun x3 =>
    some (x3, V)
  else
    some ((-1 : Int32), V)))
set_option maxHeartbeats 4000000 in
set_option maxRecDepth 100000 in
theorem t_A_total_0 (C : gC E bA p s m args meth c b_A_total R_A 2) (hr : meth.sig.returnType = (some .int)) {z : Int32 × gV} (h0 : Nat) (p1 : Int32) (V : gV) (h : D_A_total h0 p1 L V = some z) : vW E base bA 2 p l e rm_A_total s m args below meth c 0 0 (g_MQ E base bA below args s 0 0 L z.2 (some (tI z.1))) L V 0 [(0, tR (some h0)), (1, tI p1)] [] := by
  unfold D_A_total at h
  refine r_iload_n (x := p1) C d_A_total_0 rfl rfl ?_
  refine r_if_lt C 9 d_A_total_1 (by decide) (fun c5 => ?_) (fun c5 => ?_)
  · rw [if_pos c5] at h
    refine r_iconst C (-1 : Int32) d_A_total_9 (by decide) ?_
    cases h
    exact r_iret C hr d_A_total_10
  · rw [if_neg c5] at h
    refine r_iload_n (x := p1) C d_A_total_4 rfl rfl ?_
    refine r_iconst C (4 : Int32) d_A_total_5 (by decide) ?_
    refine r_icmp_lt C 11 d_A_total_6 (by decide) (fun c4 => ?_) (fun c4 => ?_)
    · rw [if_pos c4] at h
      refine r_aload_n (x := (some h0)) C d_A_total_11 rfl rfl ?_
      replace h := g_ob h; obtain ⟨x1, e_x1, h⟩ := h
      refine r_getR C f_A_32 d_A_total_12 e_x1 ?_
      refine r_iload_n (x := p1) C d_A_total_15 rfl rfl ?_
      replace h := g_ob h; obtain ⟨a2, rfl, h⟩ := h
      replace h := g_ob h; obtain ⟨x3, e_x3, h⟩ := h
      refine r_iald C ak_100 d_A_total_16 e_x3 ?_
      cases h
      exact r_iret C hr d_A_total_17
    · rw [if_neg c4] at h
      refine r_iconst C (-1 : Int32) d_A_total_9 (by decide) ?_
      cases h
      exact r_iret C hr d_A_total_10
theorem c_A_total (l : Launch) (E : gE) (base bA : Nat) (h0 : Nat) (p1 : Int32) (L : gL) (V : gV) {z : Int32 × gV} (h : D_A_total h0 p1 L V = some z) : g_Met l E base bA y_A_total b_A_total 2 (some .int) rm_A_total [tR (some h0), tI p1] L V (some (tI z.1)) L z.2 :=
  r_enter R_A (by decide) rfl [tR (some h0), tI p1] [(0, tR (some h0)), (1, tI p1)] rfl (Nat.le_of_ble_eq_true rfl) (fun p e s m args below meth c C hr hnm => t_A_total_0 C hr h0 p1 V h)
end GC2
end
section
/-! METHODS (by program): GC3 -/
section GC3
variable {E : gE} {base bA : Nat} {p : Program} {l : Launch} {e : Env} {s : State} {m : MethodId} {args : Array Value} {below : List Frame} {meth : Method} {c : Code} {L : gL}
def rm_M_init : Room := { frames := 1, cells := 20, slots := 1289, locals := 20 }
def D_M_init (h0 : Nat) (L : gL) (V : gV) : Option (Unit × gL × gV) :=
  g_bn (g_new L V 101 16 (fun _ => tJ 0)) fun L1 V2 =>
    Option.bind (g_wr L1 V2 4 h0 3 (tR (some L.1))) fun V3 =>
    g_bn (g_new L1 V3 101 16 (fun _ => tJ 0)) fun L4 V5 =>
    Option.bind (g_wr L4 V5 4 h0 4 (tR (some L1.1))) fun V6 =>
    g_bn (g_new L4 V6 101 16 (fun _ => tJ 0)) fun L7 V8 =>
    Option.bind (g_wr L7 V8 4 h0 5 (tR (some L4.1))) fun V9 =>
    g_bn (g_new L7 V9 102 16 (fun _ => tI 0)) fun L10 V11 =>
    Option.bind (g_wr L10 V11 4 h0 6 (tR (some L7.1))) fun V12 =>
    g_bn (g_new L10 V12 102 16 (fun _ => tI 0)) fun L13 V14 =>
    Option.bind (g_wr L13 V14 4 h0 7 (tR (some L10.1))) fun V15 =>
    g_bn (g_new L13 V15 100 16 (fun _ => tI 0)) fun L16 V17 =>
    Option.bind (g_wr L16 V17 4 h0 8 (tR (some L13.1))) fun V18 =>
    g_bn (g_new L16 V18 100 16 (fun _ => tI 0)) fun L19 V20 =>
    Option.bind (g_wr L19 V20 4 h0 9 (tR (some L16.1))) fun V21 =>
    g_bn (g_new L19 V21 100 96 (fun _ => tI 0)) fun L22 V23 =>
    Option.bind (g_wr L22 V23 4 h0 10 (tR (some L19.1))) fun V24 =>
    g_bn (g_new L22 V24 100 96 (fun _ => tI 0)) fun L25 V26 =>
    Option.bind (g_wr L25 V26 4 h0 11 (tR (some L22.1))) fun V27 =>
    g_bn (g_new L25 V27 100 16 (fun _ => tI 0)) fun L28 V29 =>
    Option.bind (g_wr L28 V29 4 h0 12 (tR (some L25.1))) fun V30 =>
    g_bn (g_new L28 V30 100 64 (fun _ => tI 0)) fun L31 V32 =>
    Option.bind (g_wr L31 V32 4 h0 13 (tR (some L28.1))) fun V33 =>
    g_bn (g_new L31 V33 101 64 (fun _ => tJ 0)) fun L34 V35 =>
    Option.bind (g_wr L34 V35 4 h0 14 (tR (some L31.1))) fun V36 =>
    g_bn (g_new L34 V36 101 384 (fun _ => tJ 0)) fun L37 V38 =>
    Option.bind (g_wr L37 V38 4 h0 15 (tR (some L34.1))) fun V39 =>
    g_bn (g_new L37 V39 102 384 (fun _ => tI 0)) fun L40 V41 =>
    Option.bind (g_wr L40 V41 4 h0 16 (tR (some L37.1))) fun V42 =>
    g_bn (g_new L40 V42 100 16 (fun _ => tI 0)) fun L43 V44 =>
    Option.bind (g_wr L43 V44 4 h0 17 (tR (some L40.1))) fun V45 =>
    g_bn (g_new L43 V45 100 16 (fun _ => tI 0)) fun L46 V47 =>
    Option.bind (g_wr L46 V47 4 h0 18 (tR (some L43.1))) fun V48 =>
    g_bn (g_new L46 V48 100 5 (fun _ => tI 0)) fun L49 V50 =>
    Option.bind (g_wr L49 V50 4 h0 19 (tR (some L46.1))) fun V51 =>
    g_bn (g_new L49 V51 100 4 (fun _ => tI 0)) fun L52 V53 =>
    Option.bind (g_wr L52 V53 4 h0 20 (tR (some L49.1))) fun V54 =>
    g_bn (g_new L52 V54 102 16 (fun _ => tI 0)) fun L55 V56 =>
    Option.bind (g_wr L55 V56 4 h0 21 (tR (some L52.1))) fun V57 =>
    g_bn (g_new L55 V57 102 16 (fun _ => tI 0)) fun L58 V59 =>
    Option.bind (g_wr L58 V59 4 h0 22 (tR (some L55.1))) fun V60 =>
    some ((), L58, V60)
set_option maxHeartbeats 4000000 in
set_option maxRecDepth 100000 in
theorem t_M_init_0 (C : gC E base p s m args meth c b_M_init R_M 1) (hr : meth.sig.returnType = none) (hn : meth.name = "<init>") {z : Unit × gL × gV} (h0 : Nat) (V : gV) (h : D_M_init h0 L V = some z) : vW E base base 1 p l e rm_M_init s m args below meth c 0 0 (g_MQ E base base below args s 20 1289 z.2.1 z.2.2 none) L V 0 [(0, tR (some h0))] [] := by
  unfold D_M_init at h
  refine r_aload_n (x := (some h0)) C d_M_init_0 rfl rfl ?_
  refine r_objInit C w_225 w_1 w_2 d_M_init_1 (Nat.le_of_ble_eq_true rfl) (Nat.le_of_ble_eq_true rfl) ?_
  refine r_aload_n (x := (some h0)) C d_M_init_4 rfl rfl ?_
  refine r_bipush C (16 : Int32) d_M_init_5 (by decide) ?_
  replace h := g_obn h; obtain ⟨L1, V2, e_L1, h⟩ := h
  refine r_newa (at_ := .long) (ty := .long) C rfl ak_101 (fun _ q => by cases q) w_5 d_M_init_7 (by decide) (by decide) (by decide) rfl e_L1 (Nat.le_of_ble_eq_true rfl) (Nat.le_of_ble_eq_true rfl) ?_
  replace h := g_ob h; obtain ⟨V3, e_V3, h⟩ := h
  refine r_putF C f_M_7 d_M_init_9 hn ⟨_, rfl, rfl⟩ e_V3 (g_nA (some L.1)).1 (g_nA (some L.1)).2 ?_
  refine r_aload_n (x := (some h0)) C d_M_init_12 rfl rfl ?_
  refine r_bipush C (16 : Int32) d_M_init_13 (by decide) ?_
  replace h := g_obn h; obtain ⟨L4, V5, e_L4, h⟩ := h
  refine r_newa (at_ := .long) (ty := .long) C rfl ak_101 (fun _ q => by cases q) w_5 d_M_init_15 (by decide) (by decide) (by decide) rfl e_L4 (Nat.le_of_ble_eq_true rfl) (Nat.le_of_ble_eq_true rfl) ?_
  replace h := g_ob h; obtain ⟨V6, e_V6, h⟩ := h
  refine r_putF C f_M_13 d_M_init_17 hn ⟨_, rfl, rfl⟩ e_V6 (g_nA (some L1.1)).1 (g_nA (some L1.1)).2 ?_
  refine r_aload_n (x := (some h0)) C d_M_init_20 rfl rfl ?_
  refine r_bipush C (16 : Int32) d_M_init_21 (by decide) ?_
  replace h := g_obn h; obtain ⟨L7, V8, e_L7, h⟩ := h
  refine r_newa (at_ := .long) (ty := .long) C rfl ak_101 (fun _ q => by cases q) w_5 d_M_init_23 (by decide) (by decide) (by decide) rfl e_L7 (Nat.le_of_ble_eq_true rfl) (Nat.le_of_ble_eq_true rfl) ?_
  replace h := g_ob h; obtain ⟨V9, e_V9, h⟩ := h
  refine r_putF C f_M_16 d_M_init_25 hn ⟨_, rfl, rfl⟩ e_V9 (g_nA (some L4.1)).1 (g_nA (some L4.1)).2 ?_
  refine r_aload_n (x := (some h0)) C d_M_init_28 rfl rfl ?_
  refine r_bipush C (16 : Int32) d_M_init_29 (by decide) ?_
  replace h := g_obn h; obtain ⟨L10, V11, e_L10, h⟩ := h
  refine r_newa (at_ := .boolean) (ty := .boolean) C rfl ak_102 (fun _ q => by cases q) w_3 d_M_init_31 (by decide) (by decide) (by decide) rfl e_L10 (Nat.le_of_ble_eq_true rfl) (Nat.le_of_ble_eq_true rfl) ?_
  replace h := g_ob h; obtain ⟨V12, e_V12, h⟩ := h
  refine r_putF C f_M_19 d_M_init_33 hn ⟨_, rfl, rfl⟩ e_V12 (g_nA (some L7.1)).1 (g_nA (some L7.1)).2 ?_
  refine r_aload_n (x := (some h0)) C d_M_init_36 rfl rfl ?_
  refine r_bipush C (16 : Int32) d_M_init_37 (by decide) ?_
  replace h := g_obn h; obtain ⟨L13, V14, e_L13, h⟩ := h
  refine r_newa (at_ := .boolean) (ty := .boolean) C rfl ak_102 (fun _ q => by cases q) w_3 d_M_init_39 (by decide) (by decide) (by decide) rfl e_L13 (Nat.le_of_ble_eq_true rfl) (Nat.le_of_ble_eq_true rfl) ?_
  replace h := g_ob h; obtain ⟨V15, e_V15, h⟩ := h
  refine r_putF C f_M_23 d_M_init_41 hn ⟨_, rfl, rfl⟩ e_V15 (g_nA (some L10.1)).1 (g_nA (some L10.1)).2 ?_
  refine r_aload_n (x := (some h0)) C d_M_init_44 rfl rfl ?_
  refine r_bipush C (16 : Int32) d_M_init_45 (by decide) ?_
  replace h := g_obn h; obtain ⟨L16, V17, e_L16, h⟩ := h
  refine r_newa (at_ := .int) (ty := .int) C rfl ak_100 (fun _ q => by cases q) w_20 d_M_init_47 (by decide) (by decide) (by decide) rfl e_L16 (Nat.le_of_ble_eq_true rfl) (Nat.le_of_ble_eq_true rfl) ?_
  replace h := g_ob h; obtain ⟨V18, e_V18, h⟩ := h
  refine r_putF C f_M_26 d_M_init_49 hn ⟨_, rfl, rfl⟩ e_V18 (g_nA (some L13.1)).1 (g_nA (some L13.1)).2 ?_
  refine r_aload_n (x := (some h0)) C d_M_init_52 rfl rfl ?_
  refine r_bipush C (16 : Int32) d_M_init_53 (by decide) ?_
  replace h := g_obn h; obtain ⟨L19, V20, e_L19, h⟩ := h
  refine r_newa (at_ := .int) (ty := .int) C rfl ak_100 (fun _ q => by cases q) w_20 d_M_init_55 (by decide) (by decide) (by decide) rfl e_L19 (Nat.le_of_ble_eq_true rfl) (Nat.le_of_ble_eq_true rfl) ?_
  replace h := g_ob h; obtain ⟨V21, e_V21, h⟩ := h
  refine r_putF C f_M_30 d_M_init_57 hn ⟨_, rfl, rfl⟩ e_V21 (g_nA (some L16.1)).1 (g_nA (some L16.1)).2 ?_
  refine r_aload_n (x := (some h0)) C d_M_init_60 rfl rfl ?_
  refine r_bipush C (96 : Int32) d_M_init_61 (by decide) ?_
  replace h := g_obn h; obtain ⟨L22, V23, e_L22, h⟩ := h
  refine r_newa (at_ := .int) (ty := .int) C rfl ak_100 (fun _ q => by cases q) w_20 d_M_init_63 (by decide) (by decide) (by decide) rfl e_L22 (Nat.le_of_ble_eq_true rfl) (Nat.le_of_ble_eq_true rfl) ?_
  replace h := g_ob h; obtain ⟨V24, e_V24, h⟩ := h
  refine r_putF C f_M_33 d_M_init_65 hn ⟨_, rfl, rfl⟩ e_V24 (g_nA (some L19.1)).1 (g_nA (some L19.1)).2 ?_
  refine r_aload_n (x := (some h0)) C d_M_init_68 rfl rfl ?_
  refine r_bipush C (96 : Int32) d_M_init_69 (by decide) ?_
  replace h := g_obn h; obtain ⟨L25, V26, e_L25, h⟩ := h
  refine r_newa (at_ := .int) (ty := .int) C rfl ak_100 (fun _ q => by cases q) w_20 d_M_init_71 (by decide) (by decide) (by decide) rfl e_L25 (Nat.le_of_ble_eq_true rfl) (Nat.le_of_ble_eq_true rfl) ?_
  replace h := g_ob h; obtain ⟨V27, e_V27, h⟩ := h
  refine r_putF C f_M_36 d_M_init_73 hn ⟨_, rfl, rfl⟩ e_V27 (g_nA (some L22.1)).1 (g_nA (some L22.1)).2 ?_
  refine r_aload_n (x := (some h0)) C d_M_init_76 rfl rfl ?_
  refine r_bipush C (16 : Int32) d_M_init_77 (by decide) ?_
  replace h := g_obn h; obtain ⟨L28, V29, e_L28, h⟩ := h
  refine r_newa (at_ := .int) (ty := .int) C rfl ak_100 (fun _ q => by cases q) w_20 d_M_init_79 (by decide) (by decide) (by decide) rfl e_L28 (Nat.le_of_ble_eq_true rfl) (Nat.le_of_ble_eq_true rfl) ?_
  replace h := g_ob h; obtain ⟨V30, e_V30, h⟩ := h
  refine r_putF C f_M_39 d_M_init_81 hn ⟨_, rfl, rfl⟩ e_V30 (g_nA (some L25.1)).1 (g_nA (some L25.1)).2 ?_
  refine r_aload_n (x := (some h0)) C d_M_init_84 rfl rfl ?_
  refine r_bipush C (64 : Int32) d_M_init_85 (by decide) ?_
  replace h := g_obn h; obtain ⟨L31, V32, e_L31, h⟩ := h
  refine r_newa (at_ := .int) (ty := .int) C rfl ak_100 (fun _ q => by cases q) w_20 d_M_init_87 (by decide) (by decide) (by decide) rfl e_L31 (Nat.le_of_ble_eq_true rfl) (Nat.le_of_ble_eq_true rfl) ?_
  replace h := g_ob h; obtain ⟨V33, e_V33, h⟩ := h
  refine r_putF C f_M_42 d_M_init_89 hn ⟨_, rfl, rfl⟩ e_V33 (g_nA (some L28.1)).1 (g_nA (some L28.1)).2 ?_
  refine r_aload_n (x := (some h0)) C d_M_init_92 rfl rfl ?_
  refine r_bipush C (64 : Int32) d_M_init_93 (by decide) ?_
  replace h := g_obn h; obtain ⟨L34, V35, e_L34, h⟩ := h
  refine r_newa (at_ := .long) (ty := .long) C rfl ak_101 (fun _ q => by cases q) w_5 d_M_init_95 (by decide) (by decide) (by decide) rfl e_L34 (Nat.le_of_ble_eq_true rfl) (Nat.le_of_ble_eq_true rfl) ?_
  replace h := g_ob h; obtain ⟨V36, e_V36, h⟩ := h
  refine r_putF C f_M_45 d_M_init_97 hn ⟨_, rfl, rfl⟩ e_V36 (g_nA (some L31.1)).1 (g_nA (some L31.1)).2 ?_
  refine r_aload_n (x := (some h0)) C d_M_init_100 rfl rfl ?_
  refine r_sipush C (384 : Int32) d_M_init_101 (by decide) ?_
  replace h := g_obn h; obtain ⟨L37, V38, e_L37, h⟩ := h
  refine r_newa (at_ := .long) (ty := .long) C rfl ak_101 (fun _ q => by cases q) w_5 d_M_init_104 (by decide) (by decide) (by decide) rfl e_L37 (Nat.le_of_ble_eq_true rfl) (Nat.le_of_ble_eq_true rfl) ?_
  replace h := g_ob h; obtain ⟨V39, e_V39, h⟩ := h
  refine r_putF C f_M_48 d_M_init_106 hn ⟨_, rfl, rfl⟩ e_V39 (g_nA (some L34.1)).1 (g_nA (some L34.1)).2 ?_
  refine r_aload_n (x := (some h0)) C d_M_init_109 rfl rfl ?_
  refine r_sipush C (384 : Int32) d_M_init_110 (by decide) ?_
  replace h := g_obn h; obtain ⟨L40, V41, e_L40, h⟩ := h
  refine r_newa (at_ := .boolean) (ty := .boolean) C rfl ak_102 (fun _ q => by cases q) w_3 d_M_init_113 (by decide) (by decide) (by decide) rfl e_L40 (Nat.le_of_ble_eq_true rfl) (Nat.le_of_ble_eq_true rfl) ?_
  replace h := g_ob h; obtain ⟨V42, e_V42, h⟩ := h
  refine r_putF C f_M_51 d_M_init_115 hn ⟨_, rfl, rfl⟩ e_V42 (g_nA (some L37.1)).1 (g_nA (some L37.1)).2 ?_
  refine r_aload_n (x := (some h0)) C d_M_init_118 rfl rfl ?_
  refine r_bipush C (16 : Int32) d_M_init_119 (by decide) ?_
  replace h := g_obn h; obtain ⟨L43, V44, e_L43, h⟩ := h
  refine r_newa (at_ := .int) (ty := .int) C rfl ak_100 (fun _ q => by cases q) w_20 d_M_init_121 (by decide) (by decide) (by decide) rfl e_L43 (Nat.le_of_ble_eq_true rfl) (Nat.le_of_ble_eq_true rfl) ?_
  replace h := g_ob h; obtain ⟨V45, e_V45, h⟩ := h
  refine r_putF C f_M_54 d_M_init_123 hn ⟨_, rfl, rfl⟩ e_V45 (g_nA (some L40.1)).1 (g_nA (some L40.1)).2 ?_
  refine r_aload_n (x := (some h0)) C d_M_init_126 rfl rfl ?_
  refine r_bipush C (16 : Int32) d_M_init_127 (by decide) ?_
  replace h := g_obn h; obtain ⟨L46, V47, e_L46, h⟩ := h
  refine r_newa (at_ := .int) (ty := .int) C rfl ak_100 (fun _ q => by cases q) w_20 d_M_init_129 (by decide) (by decide) (by decide) rfl e_L46 (Nat.le_of_ble_eq_true rfl) (Nat.le_of_ble_eq_true rfl) ?_
  replace h := g_ob h; obtain ⟨V48, e_V48, h⟩ := h
  refine r_putF C f_M_57 d_M_init_131 hn ⟨_, rfl, rfl⟩ e_V48 (g_nA (some L43.1)).1 (g_nA (some L43.1)).2 ?_
  refine r_aload_n (x := (some h0)) C d_M_init_134 rfl rfl ?_
  refine r_iconst C (5 : Int32) d_M_init_135 (by decide) ?_
  replace h := g_obn h; obtain ⟨L49, V50, e_L49, h⟩ := h
  refine r_newa (at_ := .int) (ty := .int) C rfl ak_100 (fun _ q => by cases q) w_20 d_M_init_136 (by decide) (by decide) (by decide) rfl e_L49 (Nat.le_of_ble_eq_true rfl) (Nat.le_of_ble_eq_true rfl) ?_
  replace h := g_ob h; obtain ⟨V51, e_V51, h⟩ := h
  refine r_putF C f_M_60 d_M_init_138 hn ⟨_, rfl, rfl⟩ e_V51 (g_nA (some L46.1)).1 (g_nA (some L46.1)).2 ?_
  refine r_aload_n (x := (some h0)) C d_M_init_141 rfl rfl ?_
  refine r_iconst C (4 : Int32) d_M_init_142 (by decide) ?_
  replace h := g_obn h; obtain ⟨L52, V53, e_L52, h⟩ := h
  refine r_newa (at_ := .int) (ty := .int) C rfl ak_100 (fun _ q => by cases q) w_20 d_M_init_143 (by decide) (by decide) (by decide) rfl e_L52 (Nat.le_of_ble_eq_true rfl) (Nat.le_of_ble_eq_true rfl) ?_
  replace h := g_ob h; obtain ⟨V54, e_V54, h⟩ := h
  refine r_putF C f_M_63 d_M_init_145 hn ⟨_, rfl, rfl⟩ e_V54 (g_nA (some L49.1)).1 (g_nA (some L49.1)).2 ?_
  refine r_aload_n (x := (some h0)) C d_M_init_148 rfl rfl ?_
  refine r_bipush C (16 : Int32) d_M_init_149 (by decide) ?_
  replace h := g_obn h; obtain ⟨L55, V56, e_L55, h⟩ := h
  refine r_newa (at_ := .boolean) (ty := .boolean) C rfl ak_102 (fun _ q => by cases q) w_3 d_M_init_151 (by decide) (by decide) (by decide) rfl e_L55 (Nat.le_of_ble_eq_true rfl) (Nat.le_of_ble_eq_true rfl) ?_
  replace h := g_ob h; obtain ⟨V57, e_V57, h⟩ := h
  refine r_putF C f_M_66 d_M_init_153 hn ⟨_, rfl, rfl⟩ e_V57 (g_nA (some L52.1)).1 (g_nA (some L52.1)).2 ?_
  refine r_aload_n (x := (some h0)) C d_M_init_156 rfl rfl ?_
  refine r_bipush C (16 : Int32) d_M_init_157 (by decide) ?_
  replace h := g_obn h; obtain ⟨L58, V59, e_L58, h⟩ := h
  refine r_newa (at_ := .boolean) (ty := .boolean) C rfl ak_102 (fun _ q => by cases q) w_3 d_M_init_159 (by decide) (by decide) (by decide) rfl e_L58 (Nat.le_of_ble_eq_true rfl) (Nat.le_of_ble_eq_true rfl) ?_
  replace h := g_ob h; obtain ⟨V60, e_V60, h⟩ := h
  refine r_putF C f_M_69 d_M_init_161 hn ⟨_, rfl, rfl⟩ e_V60 (g_nA (some L55.1)).1 (g_nA (some L55.1)).2 ?_
  cases h
  refine r_wid (k := 20) (n := 1289) (Nat.le_of_ble_eq_true rfl) (Nat.le_of_ble_eq_true rfl) ?_
  exact r_vret C hr d_M_init_164
theorem c_M_init (l : Launch) (E : gE) (base : Nat) (h0 : Nat) (L : gL) (V : gV) {z : Unit × gL × gV} (h : D_M_init h0 L V = some z) : g_Met l E base base y_M_init b_M_init 1 none rm_M_init [tR (some h0)] L V none z.2.1 z.2.2 :=
  r_enter R_M (by decide) rfl [tR (some h0)] [(0, tR (some h0))] rfl (Nat.le_of_ble_eq_true rfl) (fun p e s m args below meth c C hr hnm => t_M_init_0 C hr hnm h0 V h)
def rm_M_thrown : Room := { frames := 0, cells := 0, slots := 0, locals := 0 }
def D_M_thrown (h0 : Nat) (L : gL) (V : gV) : Option (Int32 × gV) :=
  Option.bind (g_rI L V 4 h0 0) fun x1 =>
    some (x1, V)
set_option maxHeartbeats 4000000 in
set_option maxRecDepth 100000 in
theorem t_M_thrown_0 (C : gC E bA p s m args meth c b_M_thrown R_M 1) (hr : meth.sig.returnType = (some .int)) {z : Int32 × gV} (h0 : Nat) (V : gV) (h : D_M_thrown h0 L V = some z) : vW E base bA 1 p l e rm_M_thrown s m args below meth c 0 0 (g_MQ E base bA below args s 0 0 L z.2 (some (tI z.1))) L V 0 [(0, tR (some h0))] [] := by
  unfold D_M_thrown at h
  refine r_aload_n (x := (some h0)) C d_M_thrown_0 rfl rfl ?_
  replace h := g_ob h; obtain ⟨x1, e_x1, h⟩ := h
  refine r_getI C f_M_72 d_M_thrown_1 e_x1 ?_
  cases h
  exact r_iret C hr d_M_thrown_4
theorem c_M_thrown (l : Launch) (E : gE) (base bA : Nat) (h0 : Nat) (L : gL) (V : gV) {z : Int32 × gV} (h : D_M_thrown h0 L V = some z) : g_Met l E base bA y_M_thrown b_M_thrown 1 (some .int) rm_M_thrown [tR (some h0)] L V (some (tI z.1)) L z.2 :=
  r_enter R_M (by decide) rfl [tR (some h0)] [(0, tR (some h0))] rfl (Nat.le_of_ble_eq_true rfl) (fun p e s m args below meth c C hr hnm => t_M_thrown_0 C hr h0 V h)
def rm_M_isFile : Room := { frames := 0, cells := 0, slots := 0, locals := 0 }
def D_M_isFile (h0 : Nat) (p1 : Int32) (L : gL) (V : gV) : Option (Int32 × gV) :=
  (if p1 < 0 then
    some ((0 : Int32), V)
  else
    Option.bind (g_rI L V 4 h0 1) fun x1 =>
    (if x1 ≤ p1 then
    some ((0 : Int32), V)
  else
    some ((1 : Int32), V)))
set_option maxHeartbeats 4000000 in
set_option maxRecDepth 100000 in
theorem t_M_isFile_0 (C : gC E bA p s m args meth c b_M_isFile R_M 2) (hr : meth.sig.returnType = (some .boolean)) {z : Int32 × gV} (h0 : Nat) (p1 : Int32) (V : gV) (h : D_M_isFile h0 p1 L V = some z) : vW E base bA 2 p l e rm_M_isFile s m args below meth c 0 0 (g_MQ E base bA below args s 0 0 L z.2 (some (tI z.1))) L V 0 [(0, tR (some h0)), (1, tI p1)] [] := by
  unfold D_M_isFile at h
  refine r_iload_n (x := p1) C d_M_isFile_0 rfl rfl ?_
  refine r_if_lt C 16 d_M_isFile_1 (by decide) (fun c3 => ?_) (fun c3 => ?_)
  · rw [if_pos c3] at h
    refine r_iconst C (0 : Int32) d_M_isFile_16 (by decide) ?_
    cases h
    exact r_zret C hr d_M_isFile_17 (Or.inl rfl)
  · rw [if_neg c3] at h
    refine r_iload_n (x := p1) C d_M_isFile_4 rfl rfl ?_
    refine r_aload_n (x := (some h0)) C d_M_isFile_5 rfl rfl ?_
    replace h := g_ob h; obtain ⟨x1, e_x1, h⟩ := h
    refine r_getI C f_M_76 d_M_isFile_6 e_x1 ?_
    refine r_icmp_ge C 16 d_M_isFile_9 (by decide) (fun c2 => ?_) (fun c2 => ?_)
    · rw [if_pos c2] at h
      refine r_iconst C (0 : Int32) d_M_isFile_16 (by decide) ?_
      cases h
      exact r_zret C hr d_M_isFile_17 (Or.inl rfl)
    · rw [if_neg c2] at h
      refine r_iconst C (1 : Int32) d_M_isFile_12 (by decide) ?_
      refine r_goto C 17 d_M_isFile_13 (by decide) ?_
      cases h
      exact r_zret C hr d_M_isFile_17 (Or.inr rfl)
theorem c_M_isFile (l : Launch) (E : gE) (base bA : Nat) (h0 : Nat) (p1 : Int32) (L : gL) (V : gV) {z : Int32 × gV} (h : D_M_isFile h0 p1 L V = some z) : g_Met l E base bA y_M_isFile b_M_isFile 2 (some .boolean) rm_M_isFile [tR (some h0), tI p1] L V (some (tI z.1)) L z.2 :=
  r_enter R_M (by decide) rfl [tR (some h0), tI p1] [(0, tR (some h0)), (1, tI p1)] rfl (Nat.le_of_ble_eq_true rfl) (fun p e s m args below meth c C hr hnm => t_M_isFile_0 C hr h0 p1 V h)
def rm_M_isStep : Room := { frames := 0, cells := 0, slots := 0, locals := 0 }
def D_M_isStep (h0 : Nat) (p1 : Int32) (L : gL) (V : gV) : Option (Int32 × gV) :=
  (if p1 < 0 then
    some ((0 : Int32), V)
  else
    Option.bind (g_rI L V 4 h0 2) fun x1 =>
    (if x1 ≤ p1 then
    some ((0 : Int32), V)
  else
    some ((1 : Int32), V)))
set_option maxHeartbeats 4000000 in
set_option maxRecDepth 100000 in
theorem t_M_isStep_0 (C : gC E bA p s m args meth c b_M_isStep R_M 2) (hr : meth.sig.returnType = (some .boolean)) {z : Int32 × gV} (h0 : Nat) (p1 : Int32) (V : gV) (h : D_M_isStep h0 p1 L V = some z) : vW E base bA 2 p l e rm_M_isStep s m args below meth c 0 0 (g_MQ E base bA below args s 0 0 L z.2 (some (tI z.1))) L V 0 [(0, tR (some h0)), (1, tI p1)] [] := by
  unfold D_M_isStep at h
  refine r_iload_n (x := p1) C d_M_isStep_0 rfl rfl ?_
  refine r_if_lt C 16 d_M_isStep_1 (by decide) (fun c3 => ?_) (fun c3 => ?_)
  · rw [if_pos c3] at h
    refine r_iconst C (0 : Int32) d_M_isStep_16 (by decide) ?_
    cases h
    exact r_zret C hr d_M_isStep_17 (Or.inl rfl)
  · rw [if_neg c3] at h
    refine r_iload_n (x := p1) C d_M_isStep_4 rfl rfl ?_
    refine r_aload_n (x := (some h0)) C d_M_isStep_5 rfl rfl ?_
    replace h := g_ob h; obtain ⟨x1, e_x1, h⟩ := h
    refine r_getI C f_M_79 d_M_isStep_6 e_x1 ?_
    refine r_icmp_ge C 16 d_M_isStep_9 (by decide) (fun c2 => ?_) (fun c2 => ?_)
    · rw [if_pos c2] at h
      refine r_iconst C (0 : Int32) d_M_isStep_16 (by decide) ?_
      cases h
      exact r_zret C hr d_M_isStep_17 (Or.inl rfl)
    · rw [if_neg c2] at h
      refine r_iconst C (1 : Int32) d_M_isStep_12 (by decide) ?_
      refine r_goto C 17 d_M_isStep_13 (by decide) ?_
      cases h
      exact r_zret C hr d_M_isStep_17 (Or.inr rfl)
theorem c_M_isStep (l : Launch) (E : gE) (base bA : Nat) (h0 : Nat) (p1 : Int32) (L : gL) (V : gV) {z : Int32 × gV} (h : D_M_isStep h0 p1 L V = some z) : g_Met l E base bA y_M_isStep b_M_isStep 2 (some .boolean) rm_M_isStep [tR (some h0), tI p1] L V (some (tI z.1)) L z.2 :=
  r_enter R_M (by decide) rfl [tR (some h0), tI p1] [(0, tR (some h0)), (1, tI p1)] rfl (Nat.le_of_ble_eq_true rfl) (fun p e s m args below meth c C hr hnm => t_M_isStep_0 C hr h0 p1 V h)
def rm_M_file : Room := { frames := 0, cells := 0, slots := 0, locals := 0 }
def D_M_file (h0 : Nat) (p1 : Int64) (L : gL) (V : gV) : Option (Int32 × gV) :=
  Option.bind (g_wr L V 4 h0 0 (tI (0 : Int32))) fun V1 =>
    Option.bind (g_rI L V1 4 h0 1) fun x2 =>
    (if x2 = (16 : Int32) then
    some ((-1 : Int32), V1)
  else
    Option.bind (g_rR L V1 4 h0 3) fun x3 =>
    Option.bind (g_rI L V1 4 h0 1) fun x4 =>
    Option.bind x3 fun a5 =>
    Option.bind (g_wa L V1 101 a5 x4 (tJ p1)) fun V6 =>
    Option.bind (g_rR L V6 4 h0 6) fun x7 =>
    Option.bind (g_rI L V6 4 h0 1) fun x8 =>
    Option.bind x7 fun a9 =>
    Option.bind (g_wa L V6 102 a9 x8 (tI (1 : Int32))) fun V10 =>
    Option.bind (g_rI L V10 4 h0 1) fun x11 =>
    Option.bind (g_wr L V10 4 h0 1 (tI (x11 + (1 : Int32)))) fun V12 =>
    Option.bind (g_rI L V12 4 h0 1) fun x13 =>
    some (x13 - (1 : Int32), V12))
set_option maxHeartbeats 4000000 in
set_option maxRecDepth 100000 in
theorem t_M_file_0 (C : gC E base p s m args meth c b_M_file R_M 3) (hr : meth.sig.returnType = (some .int)) {z : Int32 × gV} (h0 : Nat) (p1 : Int64) (V : gV) (h : D_M_file h0 p1 L V = some z) : vW E base base 3 p l e rm_M_file s m args below meth c 0 0 (g_MQ E base base below args s 0 0 L z.2 (some (tI z.1))) L V 0 [(0, tR (some h0)), (1, tJ p1)] [] := by
  unfold D_M_file at h
  refine r_aload_n (x := (some h0)) C d_M_file_0 rfl rfl ?_
  refine r_iconst C (0 : Int32) d_M_file_1 (by decide) ?_
  replace h := g_ob h; obtain ⟨V1, e_V1, h⟩ := h
  refine r_put C f_M_72 d_M_file_2 e_V1 (g_nI (0 : Int32)).1 (g_nI (0 : Int32)).2 ?_
  refine r_aload_n (x := (some h0)) C d_M_file_5 rfl rfl ?_
  replace h := g_ob h; obtain ⟨x2, e_x2, h⟩ := h
  refine r_getI C f_M_76 d_M_file_6 e_x2 ?_
  refine r_bipush C (16 : Int32) d_M_file_9 (by decide) ?_
  refine r_icmp_ne C 16 d_M_file_11 (by decide) (fun c14 => ?_) (fun c14 => ?_)
  · rw [if_neg c14] at h
    refine r_aload_n (x := (some h0)) C d_M_file_16 rfl rfl ?_
    replace h := g_ob h; obtain ⟨x3, e_x3, h⟩ := h
    refine r_getR C f_M_7 d_M_file_17 e_x3 ?_
    refine r_aload_n (x := (some h0)) C d_M_file_20 rfl rfl ?_
    replace h := g_ob h; obtain ⟨x4, e_x4, h⟩ := h
    refine r_getI C f_M_76 d_M_file_21 e_x4 ?_
    refine r_lload_n (x := p1) C d_M_file_24 rfl rfl ?_
    replace h := g_ob h; obtain ⟨a5, rfl, h⟩ := h
    replace h := g_ob h; obtain ⟨V6, e_V6, h⟩ := h
    refine r_last C ak_101 d_M_file_25 e_V6 ?_
    refine r_aload_n (x := (some h0)) C d_M_file_26 rfl rfl ?_
    replace h := g_ob h; obtain ⟨x7, e_x7, h⟩ := h
    refine r_getR C f_M_19 d_M_file_27 e_x7 ?_
    refine r_aload_n (x := (some h0)) C d_M_file_30 rfl rfl ?_
    replace h := g_ob h; obtain ⟨x8, e_x8, h⟩ := h
    refine r_getI C f_M_76 d_M_file_31 e_x8 ?_
    refine r_iconst C (1 : Int32) d_M_file_34 (by decide) ?_
    replace h := g_ob h; obtain ⟨a9, rfl, h⟩ := h
    replace h := g_ob h; obtain ⟨V10, e_V10, h⟩ := h
    refine r_zast C ak_102 d_M_file_35 (Or.inr rfl) e_V10 ?_
    refine r_aload_n (x := (some h0)) C d_M_file_36 rfl rfl ?_
    refine r_dup C d_M_file_37 rfl ?_
    replace h := g_ob h; obtain ⟨x11, e_x11, h⟩ := h
    refine r_getI C f_M_76 d_M_file_38 e_x11 ?_
    refine r_iconst C (1 : Int32) d_M_file_41 (by decide) ?_
    refine r_iadd C d_M_file_42 ?_
    replace h := g_ob h; obtain ⟨V12, e_V12, h⟩ := h
    refine r_put C f_M_76 d_M_file_43 e_V12 (g_nI (x11 + (1 : Int32))).1 (g_nI (x11 + (1 : Int32))).2 ?_
    refine r_aload_n (x := (some h0)) C d_M_file_46 rfl rfl ?_
    replace h := g_ob h; obtain ⟨x13, e_x13, h⟩ := h
    refine r_getI C f_M_76 d_M_file_47 e_x13 ?_
    refine r_iconst C (1 : Int32) d_M_file_50 (by decide) ?_
    refine r_isub C d_M_file_51 ?_
    cases h
    exact r_iret C hr d_M_file_52
  · rw [if_pos c14] at h
    refine r_iconst C (-1 : Int32) d_M_file_14 (by decide) ?_
    cases h
    exact r_iret C hr d_M_file_15
theorem c_M_file (l : Launch) (E : gE) (base : Nat) (h0 : Nat) (p1 : Int64) (L : gL) (V : gV) {z : Int32 × gV} (h : D_M_file h0 p1 L V = some z) : g_Met l E base base y_M_file b_M_file 3 (some .int) rm_M_file [tR (some h0), tJ p1] L V (some (tI z.1)) L z.2 :=
  r_enter R_M (by decide) rfl [tR (some h0), tJ p1] [(0, tR (some h0)), (1, tJ p1)] rfl (Nat.le_of_ble_eq_true rfl) (fun p e s m args below meth c C hr hnm => t_M_file_0 C hr h0 p1 V h)
def rm_M_set : Room := { frames := 1, cells := 0, slots := 0, locals := 21 }
def D_M_set (h0 : Nat) (p1 : Int32) (p2 : Int32) (p3 : Int64) (L : gL) (V : gV) : Option (Int32 × gV) :=
  Option.bind (g_wr L V 4 h0 0 (tI (0 : Int32))) fun V1 =>
    Option.bind ((L).2 4 h0) fun n15 =>
    g_b2 (D_M_isFile h0 p1 L V1) fun r2 V3 =>
    (if r2 = 0 then
    some ((0 : Int32), V3)
  else
    Option.bind (g_rR L V3 4 h0 6) fun x4 =>
    Option.bind x4 fun a5 =>
    Option.bind (g_bz p2) fun _ =>
    Option.bind (g_wa L V3 102 a5 p1 (tI p2)) fun V6 =>
    Option.bind (g_rR L V6 4 h0 3) fun x7 =>
    (if p2 = 0 then
    Option.bind x7 fun a8 =>
    Option.bind (g_wa L V6 101 a8 p1 (tJ (0 : Int64))) fun V9 =>
    some ((1 : Int32), V9)
  else
    Option.bind x7 fun a10 =>
    Option.bind (g_wa L V6 101 a10 p1 (tJ p3)) fun V11 =>
    some ((1 : Int32), V11)))
set_option maxHeartbeats 4000000 in
set_option maxRecDepth 100000 in
theorem t_M_set_0 (C : gC E base p s m args meth c b_M_set R_M 5) (hr : meth.sig.returnType = (some .boolean)) {z : Int32 × gV} (h0 : Nat) (p1 : Int32) (p2 : Int32) (p3 : Int64) (V : gV) (h : D_M_set h0 p1 p2 p3 L V = some z) : vW E base base 5 p l e rm_M_set s m args below meth c 0 0 (g_MQ E base base below args s 0 0 L z.2 (some (tI z.1))) L V 0 [(0, tR (some h0)), (1, tI p1), (2, tI p2), (3, tJ p3)] [] := by
  unfold D_M_set at h
  refine r_aload_n (x := (some h0)) C d_M_set_0 rfl rfl ?_
  refine r_iconst C (0 : Int32) d_M_set_1 (by decide) ?_
  replace h := g_ob h; obtain ⟨V1, e_V1, h⟩ := h
  refine r_put C f_M_72 d_M_set_2 e_V1 (g_nI (0 : Int32)).1 (g_nI (0 : Int32)).2 ?_
  refine r_aload_n (x := (some h0)) C d_M_set_5 rfl rfl ?_
  refine r_iload_n (x := p1) C d_M_set_6 rfl rfl ?_
  replace h := g_ob h; obtain ⟨n15, e_n15, h⟩ := h
  replace h := g_o2 h; obtain ⟨r2, V3, e_r2, h⟩ := h
  refine r_callV (As := [tI p1]) C k_M_82 w_252 w_253 w_249 ⟨_, _, rfl⟩ (c_M_isFile l E base base h0 p1 L V1 e_r2) d_M_set_7 e_n15 rfl ⟨Nat.le_of_ble_eq_true rfl, Nat.le_of_ble_eq_true rfl⟩ (Nat.le_of_ble_eq_true rfl) (Nat.le_of_ble_eq_true rfl) (Nat.le_of_ble_eq_true rfl) rfl ?_
  refine r_if_ne C 15 d_M_set_10 (by decide) (fun c14 => ?_) (fun c14 => ?_)
  · rw [if_neg c14] at h
    refine r_aload_n (x := (some h0)) C d_M_set_15 rfl rfl ?_
    replace h := g_ob h; obtain ⟨x4, e_x4, h⟩ := h
    refine r_getR C f_M_19 d_M_set_16 e_x4 ?_
    refine r_iload_n (x := p1) C d_M_set_19 rfl rfl ?_
    refine r_iload_n (x := p2) C d_M_set_20 rfl rfl ?_
    replace h := g_ob h; obtain ⟨a5, rfl, h⟩ := h
    replace h := g_ob h; obtain ⟨u13, e_u13, h⟩ := h
    replace h := g_ob h; obtain ⟨V6, e_V6, h⟩ := h
    refine r_zast C ak_102 d_M_set_21 (g_bz_spec e_u13) e_V6 ?_
    refine r_aload_n (x := (some h0)) C d_M_set_22 rfl rfl ?_
    replace h := g_ob h; obtain ⟨x7, e_x7, h⟩ := h
    refine r_getR C f_M_7 d_M_set_23 e_x7 ?_
    refine r_iload_n (x := p1) C d_M_set_26 rfl rfl ?_
    refine r_iload_n (x := p2) C d_M_set_27 rfl rfl ?_
    refine r_if_eq C 35 d_M_set_28 (by decide) (fun c12 => ?_) (fun c12 => ?_)
    · rw [if_pos c12] at h
      refine r_lconst C (0 : Int64) d_M_set_35 (by decide) ?_
      replace h := g_ob h; obtain ⟨a8, rfl, h⟩ := h
      replace h := g_ob h; obtain ⟨V9, e_V9, h⟩ := h
      refine r_last C ak_101 d_M_set_36 e_V9 ?_
      refine r_iconst C (1 : Int32) d_M_set_37 (by decide) ?_
      cases h
      exact r_zret C hr d_M_set_38 (Or.inr rfl)
    · rw [if_neg c12] at h
      refine r_lload_n (x := p3) C d_M_set_31 rfl rfl ?_
      refine r_goto C 36 d_M_set_32 (by decide) ?_
      replace h := g_ob h; obtain ⟨a10, rfl, h⟩ := h
      replace h := g_ob h; obtain ⟨V11, e_V11, h⟩ := h
      refine r_last C ak_101 d_M_set_36 e_V11 ?_
      refine r_iconst C (1 : Int32) d_M_set_37 (by decide) ?_
      cases h
      exact r_zret C hr d_M_set_38 (Or.inr rfl)
  · rw [if_pos c14] at h
    refine r_iconst C (0 : Int32) d_M_set_13 (by decide) ?_
    cases h
    exact r_zret C hr d_M_set_14 (Or.inl rfl)
theorem c_M_set (l : Launch) (E : gE) (base : Nat) (h0 : Nat) (p1 : Int32) (p2 : Int32) (p3 : Int64) (L : gL) (V : gV) {z : Int32 × gV} (h : D_M_set h0 p1 p2 p3 L V = some z) : g_Met l E base base y_M_set b_M_set 5 (some .boolean) rm_M_set [tR (some h0), tI p1, tI p2, tJ p3] L V (some (tI z.1)) L z.2 :=
  r_enter R_M (by decide) rfl [tR (some h0), tI p1, tI p2, tJ p3] [(0, tR (some h0)), (1, tI p1), (2, tI p2), (3, tJ p3)] rfl (Nat.le_of_ble_eq_true rfl) (fun p e s m args below meth c C hr hnm => t_M_set_0 C hr h0 p1 p2 p3 V h)
def rm_M_touch : Room := { frames := 1, cells := 0, slots := 0, locals := 21 }
def D_M_touch (h0 : Nat) (p1 : Int32) (L : gL) (V : gV) : Option (Int32 × gV) :=
  Option.bind (g_wr L V 4 h0 0 (tI (0 : Int32))) fun V1 =>
    Option.bind ((L).2 4 h0) fun n12 =>
    g_b2 (D_M_isFile h0 p1 L V1) fun r2 V3 =>
    (if r2 = 0 then
    some ((-1 : Int32), V3)
  else
    Option.bind (g_rR L V3 4 h0 8) fun x4 =>
    Option.bind x4 fun a5 =>
    Option.bind (g_aI L V3 100 a5 p1) fun x6 =>
    Option.bind (g_wa L V3 100 a5 p1 (tI (x6 + (1 : Int32)))) fun V7 =>
    Option.bind (g_rR L V7 4 h0 8) fun x8 =>
    Option.bind x8 fun a9 =>
    Option.bind (g_aI L V7 100 a9 p1) fun x10 =>
    some (x10, V7))
set_option maxHeartbeats 4000000 in
set_option maxRecDepth 100000 in
theorem t_M_touch_0 (C : gC E base p s m args meth c b_M_touch R_M 2) (hr : meth.sig.returnType = (some .int)) {z : Int32 × gV} (h0 : Nat) (p1 : Int32) (V : gV) (h : D_M_touch h0 p1 L V = some z) : vW E base base 2 p l e rm_M_touch s m args below meth c 0 0 (g_MQ E base base below args s 0 0 L z.2 (some (tI z.1))) L V 0 [(0, tR (some h0)), (1, tI p1)] [] := by
  unfold D_M_touch at h
  refine r_aload_n (x := (some h0)) C d_M_touch_0 rfl rfl ?_
  refine r_iconst C (0 : Int32) d_M_touch_1 (by decide) ?_
  replace h := g_ob h; obtain ⟨V1, e_V1, h⟩ := h
  refine r_put C f_M_72 d_M_touch_2 e_V1 (g_nI (0 : Int32)).1 (g_nI (0 : Int32)).2 ?_
  refine r_aload_n (x := (some h0)) C d_M_touch_5 rfl rfl ?_
  refine r_iload_n (x := p1) C d_M_touch_6 rfl rfl ?_
  replace h := g_ob h; obtain ⟨n12, e_n12, h⟩ := h
  replace h := g_o2 h; obtain ⟨r2, V3, e_r2, h⟩ := h
  refine r_callV (As := [tI p1]) C k_M_82 w_252 w_253 w_249 ⟨_, _, rfl⟩ (c_M_isFile l E base base h0 p1 L V1 e_r2) d_M_touch_7 e_n12 rfl ⟨Nat.le_of_ble_eq_true rfl, Nat.le_of_ble_eq_true rfl⟩ (Nat.le_of_ble_eq_true rfl) (Nat.le_of_ble_eq_true rfl) (Nat.le_of_ble_eq_true rfl) rfl ?_
  refine r_if_ne C 15 d_M_touch_10 (by decide) (fun c11 => ?_) (fun c11 => ?_)
  · rw [if_neg c11] at h
    refine r_aload_n (x := (some h0)) C d_M_touch_15 rfl rfl ?_
    replace h := g_ob h; obtain ⟨x4, e_x4, h⟩ := h
    refine r_getR C f_M_26 d_M_touch_16 e_x4 ?_
    refine r_iload_n (x := p1) C d_M_touch_19 rfl rfl ?_
    refine r_dup2 C d_M_touch_20 rfl rfl ?_
    replace h := g_ob h; obtain ⟨a5, rfl, h⟩ := h
    replace h := g_ob h; obtain ⟨x6, e_x6, h⟩ := h
    refine r_iald C ak_100 d_M_touch_21 e_x6 ?_
    refine r_iconst C (1 : Int32) d_M_touch_22 (by decide) ?_
    refine r_iadd C d_M_touch_23 ?_
    replace h := g_ob h; obtain ⟨V7, e_V7, h⟩ := h
    refine r_iast C ak_100 d_M_touch_24 e_V7 ?_
    refine r_aload_n (x := (some h0)) C d_M_touch_25 rfl rfl ?_
    replace h := g_ob h; obtain ⟨x8, e_x8, h⟩ := h
    refine r_getR C f_M_26 d_M_touch_26 e_x8 ?_
    refine r_iload_n (x := p1) C d_M_touch_29 rfl rfl ?_
    replace h := g_ob h; obtain ⟨a9, rfl, h⟩ := h
    replace h := g_ob h; obtain ⟨x10, e_x10, h⟩ := h
    refine r_iald C ak_100 d_M_touch_30 e_x10 ?_
    cases h
    exact r_iret C hr d_M_touch_31
  · rw [if_pos c11] at h
    refine r_iconst C (-1 : Int32) d_M_touch_13 (by decide) ?_
    cases h
    exact r_iret C hr d_M_touch_14
theorem c_M_touch (l : Launch) (E : gE) (base : Nat) (h0 : Nat) (p1 : Int32) (L : gL) (V : gV) {z : Int32 × gV} (h : D_M_touch h0 p1 L V = some z) : g_Met l E base base y_M_touch b_M_touch 2 (some .int) rm_M_touch [tR (some h0), tI p1] L V (some (tI z.1)) L z.2 :=
  r_enter R_M (by decide) rfl [tR (some h0), tI p1] [(0, tR (some h0)), (1, tI p1)] rfl (Nat.le_of_ble_eq_true rfl) (fun p e s m args below meth c C hr hnm => t_M_touch_0 C hr h0 p1 V h)
def rm_M_step : Room := { frames := 0, cells := 0, slots := 0, locals := 0 }
def D_M_step (h0 : Nat) (p1 : Int64) (p3 : Int64) (L : gL) (V : gV) : Option (Int32 × gV) :=
  Option.bind (g_wr L V 4 h0 0 (tI (0 : Int32))) fun V1 =>
    Option.bind (g_rI L V1 4 h0 2) fun x2 =>
    (if x2 = (16 : Int32) then
    some ((-1 : Int32), V1)
  else
    (if 0 ≤ (lg_cmp p3 (0 : Int64)) then
    Option.bind (g_rR L V1 4 h0 4) fun x3 =>
    Option.bind (g_rI L V1 4 h0 2) fun x4 =>
    Option.bind x3 fun a5 =>
    Option.bind (g_wa L V1 101 a5 x4 (tJ p1)) fun V6 =>
    Option.bind (g_rR L V6 4 h0 5) fun x7 =>
    Option.bind (g_rI L V6 4 h0 2) fun x8 =>
    Option.bind x7 fun a9 =>
    Option.bind (g_wa L V6 101 a9 x8 (tJ p3)) fun V10 =>
    Option.bind (g_rI L V10 4 h0 2) fun x11 =>
    Option.bind (g_wr L V10 4 h0 2 (tI (x11 + (1 : Int32)))) fun V12 =>
    Option.bind (g_rI L V12 4 h0 2) fun x13 =>
    some (x13 - (1 : Int32), V12)
  else
    some ((-1 : Int32), V1)))
set_option maxHeartbeats 4000000 in
set_option maxRecDepth 100000 in
theorem t_M_step_0 (C : gC E base p s m args meth c b_M_step R_M 5) (hr : meth.sig.returnType = (some .int)) {z : Int32 × gV} (h0 : Nat) (p1 : Int64) (p3 : Int64) (V : gV) (h : D_M_step h0 p1 p3 L V = some z) : vW E base base 5 p l e rm_M_step s m args below meth c 0 0 (g_MQ E base base below args s 0 0 L z.2 (some (tI z.1))) L V 0 [(0, tR (some h0)), (1, tJ p1), (3, tJ p3)] [] := by
  unfold D_M_step at h
  refine r_aload_n (x := (some h0)) C d_M_step_0 rfl rfl ?_
  refine r_iconst C (0 : Int32) d_M_step_1 (by decide) ?_
  replace h := g_ob h; obtain ⟨V1, e_V1, h⟩ := h
  refine r_put C f_M_72 d_M_step_2 e_V1 (g_nI (0 : Int32)).1 (g_nI (0 : Int32)).2 ?_
  refine r_aload_n (x := (some h0)) C d_M_step_5 rfl rfl ?_
  replace h := g_ob h; obtain ⟨x2, e_x2, h⟩ := h
  refine r_getI C f_M_79 d_M_step_6 e_x2 ?_
  refine r_bipush C (16 : Int32) d_M_step_9 (by decide) ?_
  refine r_icmp_eq C 20 d_M_step_11 (by decide) (fun c15 => ?_) (fun c15 => ?_)
  · rw [if_pos c15] at h
    refine r_iconst C (-1 : Int32) d_M_step_20 (by decide) ?_
    cases h
    exact r_iret C hr d_M_step_21
  · rw [if_neg c15] at h
    refine r_lload_n (x := p3) C d_M_step_14 rfl rfl ?_
    refine r_lconst C (0 : Int64) d_M_step_15 (by decide) ?_
    refine r_lcmp C d_M_step_16 ?_
    refine r_if_ge C 22 d_M_step_17 (by decide) (fun c14 => ?_) (fun c14 => ?_)
    · rw [if_pos c14] at h
      refine r_aload_n (x := (some h0)) C d_M_step_22 rfl rfl ?_
      replace h := g_ob h; obtain ⟨x3, e_x3, h⟩ := h
      refine r_getR C f_M_13 d_M_step_23 e_x3 ?_
      refine r_aload_n (x := (some h0)) C d_M_step_26 rfl rfl ?_
      replace h := g_ob h; obtain ⟨x4, e_x4, h⟩ := h
      refine r_getI C f_M_79 d_M_step_27 e_x4 ?_
      refine r_lload_n (x := p1) C d_M_step_30 rfl rfl ?_
      replace h := g_ob h; obtain ⟨a5, rfl, h⟩ := h
      replace h := g_ob h; obtain ⟨V6, e_V6, h⟩ := h
      refine r_last C ak_101 d_M_step_31 e_V6 ?_
      refine r_aload_n (x := (some h0)) C d_M_step_32 rfl rfl ?_
      replace h := g_ob h; obtain ⟨x7, e_x7, h⟩ := h
      refine r_getR C f_M_16 d_M_step_33 e_x7 ?_
      refine r_aload_n (x := (some h0)) C d_M_step_36 rfl rfl ?_
      replace h := g_ob h; obtain ⟨x8, e_x8, h⟩ := h
      refine r_getI C f_M_79 d_M_step_37 e_x8 ?_
      refine r_lload_n (x := p3) C d_M_step_40 rfl rfl ?_
      replace h := g_ob h; obtain ⟨a9, rfl, h⟩ := h
      replace h := g_ob h; obtain ⟨V10, e_V10, h⟩ := h
      refine r_last C ak_101 d_M_step_41 e_V10 ?_
      refine r_aload_n (x := (some h0)) C d_M_step_42 rfl rfl ?_
      refine r_dup C d_M_step_43 rfl ?_
      replace h := g_ob h; obtain ⟨x11, e_x11, h⟩ := h
      refine r_getI C f_M_79 d_M_step_44 e_x11 ?_
      refine r_iconst C (1 : Int32) d_M_step_47 (by decide) ?_
      refine r_iadd C d_M_step_48 ?_
      replace h := g_ob h; obtain ⟨V12, e_V12, h⟩ := h
      refine r_put C f_M_79 d_M_step_49 e_V12 (g_nI (x11 + (1 : Int32))).1 (g_nI (x11 + (1 : Int32))).2 ?_
      refine r_aload_n (x := (some h0)) C d_M_step_52 rfl rfl ?_
      replace h := g_ob h; obtain ⟨x13, e_x13, h⟩ := h
      refine r_getI C f_M_79 d_M_step_53 e_x13 ?_
      refine r_iconst C (1 : Int32) d_M_step_56 (by decide) ?_
      refine r_isub C d_M_step_57 ?_
      cases h
      exact r_iret C hr d_M_step_58
    · rw [if_neg c14] at h
      refine r_iconst C (-1 : Int32) d_M_step_20 (by decide) ?_
      cases h
      exact r_iret C hr d_M_step_21
theorem c_M_step (l : Launch) (E : gE) (base : Nat) (h0 : Nat) (p1 : Int64) (p3 : Int64) (L : gL) (V : gV) {z : Int32 × gV} (h : D_M_step h0 p1 p3 L V = some z) : g_Met l E base base y_M_step b_M_step 5 (some .int) rm_M_step [tR (some h0), tJ p1, tJ p3] L V (some (tI z.1)) L z.2 :=
  r_enter R_M (by decide) rfl [tR (some h0), tJ p1, tJ p3] [(0, tR (some h0)), (1, tJ p1), (3, tJ p3)] rfl (Nat.le_of_ble_eq_true rfl) (fun p e s m args below meth c C hr hnm => t_M_step_0 C hr h0 p1 p3 V h)
def rm_M_more : Room := { frames := 0, cells := 0, slots := 0, locals := 0 }
def D_M_more_16 (L : gL) : Nat → Nat → Int32 → Int32 → Int32 → Int32 → gV → Option (Int32 × gV)
  | 0, _, _, _, _, _, _ => none
  | n + 1, v0, v1, v2, v3, v4, V =>
  Option.bind (g_rR L V 4 v0 9) fun x1 =>
    Option.bind x1 fun a2 =>
    Option.bind (g_aI L V 100 a2 v1) fun x3 =>
    (if x3 ≤ v4 then
    Option.bind (g_rR L V 4 v0 10) fun x4 =>
    Option.bind (g_rR L V 4 v0 9) fun x5 =>
    Option.bind x5 fun a6 =>
    Option.bind (g_aI L V 100 a6 v1) fun x7 =>
    Option.bind x4 fun a8 =>
    Option.bind (g_wa L V 100 a8 (((6 : Int32) * v1) + x7) (tI v2)) fun V9 =>
    Option.bind (g_rR L V9 4 v0 11) fun x10 =>
    Option.bind (g_rR L V9 4 v0 9) fun x11 =>
    Option.bind x11 fun a12 =>
    Option.bind (g_aI L V9 100 a12 v1) fun x13 =>
    Option.bind x10 fun a14 =>
    Option.bind (g_wa L V9 100 a14 (((6 : Int32) * v1) + x13) (tI v3)) fun V15 =>
    Option.bind (g_rR L V15 4 v0 9) fun x16 =>
    Option.bind x16 fun a17 =>
    Option.bind (g_aI L V15 100 a17 v1) fun x18 =>
    Option.bind (g_wa L V15 100 a17 v1 (tI (x18 + (1 : Int32)))) fun V19 =>
    Option.bind (g_rR L V19 4 v0 12) fun x20 =>
    Option.bind x20 fun a21 =>
    Option.bind (g_wa L V19 100 a21 v1 (tI (0 : Int32))) fun V22 =>
    some ((1 : Int32), V22)
  else
    Option.bind (g_rR L V 4 v0 10) fun x23 =>
    Option.bind x23 fun a24 =>
    Option.bind (g_aI L V 100 a24 (((6 : Int32) * v1) + v4)) fun x25 =>
    (if x25 = v2 then
    Option.bind (g_rR L V 4 v0 11) fun x26 =>
    Option.bind x26 fun a27 =>
    Option.bind (g_aI L V 100 a27 (((6 : Int32) * v1) + v4)) fun x28 =>
    (if x28 = v3 then
    some ((0 : Int32), V)
  else
    D_M_more_16 L  n v0 v1 v2 v3 (v4 + (1 : Int32)) V)
  else
    D_M_more_16 L  n v0 v1 v2 v3 (v4 + (1 : Int32)) V))
def D_M_more (h0 : Nat) (p1 : Int32) (p2 : Int32) (p3 : Int32) (L : gL) (V : gV) : Option (Int32 × gV) :=
  Option.bind (g_rR L V 4 h0 9) fun x1 =>
    Option.bind x1 fun a2 =>
    Option.bind (g_aI L V 100 a2 p1) fun x3 =>
    (if x3 = (6 : Int32) then
    some ((0 : Int32), V)
  else
    D_M_more_16 L  1000 h0 p1 p2 p3 (0 : Int32) V)
set_option maxHeartbeats 4000000 in
set_option maxRecDepth 100000 in
theorem t_M_more_16 (C : gC E base p s m args meth c b_M_more R_M 5) (hr : meth.sig.returnType = (some .boolean)) {z : Int32 × gV} : ∀ (n : Nat) (v0 : Nat) (v1 : Int32) (v2 : Int32) (v3 : Int32) (v4 : Int32) (V : gV), D_M_more_16 L  n v0 v1 v2 v3 v4 V = some z → vW E base base 5 p l e rm_M_more s m args below meth c 0 0 (g_MQ E base base below args s 0 0 L z.2 (some (tI z.1))) L V 16 [(0, tR (some v0)), (1, tI v1), (2, tI v2), (3, tI v3), (4, tI v4)] [] := by
  intro n
  induction n with
  | zero =>
    intro v0 v1 v2 v3 v4 V h
    rw [D_M_more_16] at h
    cases h
  | succ n ih =>
    intro v0 v1 v2 v3 v4 V h
    rw [D_M_more_16] at h
    refine r_iload (x := v4) C d_M_more_16 rfl ?_
    refine r_aload_n (x := (some v0)) C d_M_more_18 rfl rfl ?_
    replace h := g_ob h; obtain ⟨x1, e_x1, h⟩ := h
    refine r_getR C f_M_30 d_M_more_19 e_x1 ?_
    refine r_iload_n (x := v1) C d_M_more_22 rfl rfl ?_
    replace h := g_ob h; obtain ⟨a2, rfl, h⟩ := h
    replace h := g_ob h; obtain ⟨x3, e_x3, h⟩ := h
    refine r_iald C ak_100 d_M_more_23 e_x3 ?_
    refine r_icmp_ge C 67 d_M_more_24 (by decide) (fun c31 => ?_) (fun c31 => ?_)
    · rw [if_pos c31] at h
      refine r_aload_n (x := (some v0)) C d_M_more_67 rfl rfl ?_
      replace h := g_ob h; obtain ⟨x4, e_x4, h⟩ := h
      refine r_getR C f_M_33 d_M_more_68 e_x4 ?_
      refine r_bipush C (6 : Int32) d_M_more_71 (by decide) ?_
      refine r_iload_n (x := v1) C d_M_more_73 rfl rfl ?_
      refine r_imul C d_M_more_74 ?_
      refine r_aload_n (x := (some v0)) C d_M_more_75 rfl rfl ?_
      replace h := g_ob h; obtain ⟨x5, e_x5, h⟩ := h
      refine r_getR C f_M_30 d_M_more_76 e_x5 ?_
      refine r_iload_n (x := v1) C d_M_more_79 rfl rfl ?_
      replace h := g_ob h; obtain ⟨a6, rfl, h⟩ := h
      replace h := g_ob h; obtain ⟨x7, e_x7, h⟩ := h
      refine r_iald C ak_100 d_M_more_80 e_x7 ?_
      refine r_iadd C d_M_more_81 ?_
      refine r_iload_n (x := v2) C d_M_more_82 rfl rfl ?_
      replace h := g_ob h; obtain ⟨a8, rfl, h⟩ := h
      replace h := g_ob h; obtain ⟨V9, e_V9, h⟩ := h
      refine r_iast C ak_100 d_M_more_83 e_V9 ?_
      refine r_aload_n (x := (some v0)) C d_M_more_84 rfl rfl ?_
      replace h := g_ob h; obtain ⟨x10, e_x10, h⟩ := h
      refine r_getR C f_M_36 d_M_more_85 e_x10 ?_
      refine r_bipush C (6 : Int32) d_M_more_88 (by decide) ?_
      refine r_iload_n (x := v1) C d_M_more_90 rfl rfl ?_
      refine r_imul C d_M_more_91 ?_
      refine r_aload_n (x := (some v0)) C d_M_more_92 rfl rfl ?_
      replace h := g_ob h; obtain ⟨x11, e_x11, h⟩ := h
      refine r_getR C f_M_30 d_M_more_93 e_x11 ?_
      refine r_iload_n (x := v1) C d_M_more_96 rfl rfl ?_
      replace h := g_ob h; obtain ⟨a12, rfl, h⟩ := h
      replace h := g_ob h; obtain ⟨x13, e_x13, h⟩ := h
      refine r_iald C ak_100 d_M_more_97 e_x13 ?_
      refine r_iadd C d_M_more_98 ?_
      refine r_iload_n (x := v3) C d_M_more_99 rfl rfl ?_
      replace h := g_ob h; obtain ⟨a14, rfl, h⟩ := h
      replace h := g_ob h; obtain ⟨V15, e_V15, h⟩ := h
      refine r_iast C ak_100 d_M_more_100 e_V15 ?_
      refine r_aload_n (x := (some v0)) C d_M_more_101 rfl rfl ?_
      replace h := g_ob h; obtain ⟨x16, e_x16, h⟩ := h
      refine r_getR C f_M_30 d_M_more_102 e_x16 ?_
      refine r_iload_n (x := v1) C d_M_more_105 rfl rfl ?_
      refine r_dup2 C d_M_more_106 rfl rfl ?_
      replace h := g_ob h; obtain ⟨a17, rfl, h⟩ := h
      replace h := g_ob h; obtain ⟨x18, e_x18, h⟩ := h
      refine r_iald C ak_100 d_M_more_107 e_x18 ?_
      refine r_iconst C (1 : Int32) d_M_more_108 (by decide) ?_
      refine r_iadd C d_M_more_109 ?_
      replace h := g_ob h; obtain ⟨V19, e_V19, h⟩ := h
      refine r_iast C ak_100 d_M_more_110 e_V19 ?_
      refine r_aload_n (x := (some v0)) C d_M_more_111 rfl rfl ?_
      replace h := g_ob h; obtain ⟨x20, e_x20, h⟩ := h
      refine r_getR C f_M_39 d_M_more_112 e_x20 ?_
      refine r_iload_n (x := v1) C d_M_more_115 rfl rfl ?_
      refine r_iconst C (0 : Int32) d_M_more_116 (by decide) ?_
      replace h := g_ob h; obtain ⟨a21, rfl, h⟩ := h
      replace h := g_ob h; obtain ⟨V22, e_V22, h⟩ := h
      refine r_iast C ak_100 d_M_more_117 e_V22 ?_
      refine r_iconst C (1 : Int32) d_M_more_118 (by decide) ?_
      cases h
      exact r_zret C hr d_M_more_119 (Or.inr rfl)
    · rw [if_neg c31] at h
      refine r_aload_n (x := (some v0)) C d_M_more_27 rfl rfl ?_
      replace h := g_ob h; obtain ⟨x23, e_x23, h⟩ := h
      refine r_getR C f_M_33 d_M_more_28 e_x23 ?_
      refine r_bipush C (6 : Int32) d_M_more_31 (by decide) ?_
      refine r_iload_n (x := v1) C d_M_more_33 rfl rfl ?_
      refine r_imul C d_M_more_34 ?_
      refine r_iload (x := v4) C d_M_more_35 rfl ?_
      refine r_iadd C d_M_more_37 ?_
      replace h := g_ob h; obtain ⟨a24, rfl, h⟩ := h
      replace h := g_ob h; obtain ⟨x25, e_x25, h⟩ := h
      refine r_iald C ak_100 d_M_more_38 e_x25 ?_
      refine r_iload_n (x := v2) C d_M_more_39 rfl rfl ?_
      refine r_icmp_ne C 61 d_M_more_40 (by decide) (fun c30 => ?_) (fun c30 => ?_)
      · rw [if_neg c30] at h
        refine r_iinc (x := v4) (v := v4 + (1 : Int32)) (lv' := [(4, tI (v4 + (1 : Int32))), (0, tR (some v0)), (1, tI v1), (2, tI v2), (3, tI v3)]) C d_M_more_61 rfl rfl (by decide) rfl ?_
        refine r_goto C 16 d_M_more_64 (by decide) ?_
        refine r_lv [1, 2, 3, 4, 0] rfl ?_
        exact ih v0 v1 v2 v3 (v4 + (1 : Int32)) V h
      · rw [if_pos c30] at h
        refine r_aload_n (x := (some v0)) C d_M_more_43 rfl rfl ?_
        replace h := g_ob h; obtain ⟨x26, e_x26, h⟩ := h
        refine r_getR C f_M_36 d_M_more_44 e_x26 ?_
        refine r_bipush C (6 : Int32) d_M_more_47 (by decide) ?_
        refine r_iload_n (x := v1) C d_M_more_49 rfl rfl ?_
        refine r_imul C d_M_more_50 ?_
        refine r_iload (x := v4) C d_M_more_51 rfl ?_
        refine r_iadd C d_M_more_53 ?_
        replace h := g_ob h; obtain ⟨a27, rfl, h⟩ := h
        replace h := g_ob h; obtain ⟨x28, e_x28, h⟩ := h
        refine r_iald C ak_100 d_M_more_54 e_x28 ?_
        refine r_iload_n (x := v3) C d_M_more_55 rfl rfl ?_
        refine r_icmp_ne C 61 d_M_more_56 (by decide) (fun c29 => ?_) (fun c29 => ?_)
        · rw [if_neg c29] at h
          refine r_iinc (x := v4) (v := v4 + (1 : Int32)) (lv' := [(4, tI (v4 + (1 : Int32))), (0, tR (some v0)), (1, tI v1), (2, tI v2), (3, tI v3)]) C d_M_more_61 rfl rfl (by decide) rfl ?_
          refine r_goto C 16 d_M_more_64 (by decide) ?_
          refine r_lv [1, 2, 3, 4, 0] rfl ?_
          exact ih v0 v1 v2 v3 (v4 + (1 : Int32)) V h
        · rw [if_pos c29] at h
          refine r_iconst C (0 : Int32) d_M_more_59 (by decide) ?_
          cases h
          exact r_zret C hr d_M_more_60 (Or.inl rfl)
set_option maxHeartbeats 4000000 in
set_option maxRecDepth 100000 in
theorem t_M_more_0 (C : gC E base p s m args meth c b_M_more R_M 5) (hr : meth.sig.returnType = (some .boolean)) {z : Int32 × gV} (h0 : Nat) (p1 : Int32) (p2 : Int32) (p3 : Int32) (V : gV) (h : D_M_more h0 p1 p2 p3 L V = some z) : vW E base base 5 p l e rm_M_more s m args below meth c 0 0 (g_MQ E base base below args s 0 0 L z.2 (some (tI z.1))) L V 0 [(0, tR (some h0)), (1, tI p1), (2, tI p2), (3, tI p3)] [] := by
  unfold D_M_more at h
  refine r_aload_n (x := (some h0)) C d_M_more_0 rfl rfl ?_
  replace h := g_ob h; obtain ⟨x1, e_x1, h⟩ := h
  refine r_getR C f_M_30 d_M_more_1 e_x1 ?_
  refine r_iload_n (x := p1) C d_M_more_4 rfl rfl ?_
  replace h := g_ob h; obtain ⟨a2, rfl, h⟩ := h
  replace h := g_ob h; obtain ⟨x3, e_x3, h⟩ := h
  refine r_iald C ak_100 d_M_more_5 e_x3 ?_
  refine r_bipush C (6 : Int32) d_M_more_6 (by decide) ?_
  refine r_icmp_ne C 13 d_M_more_8 (by decide) (fun c4 => ?_) (fun c4 => ?_)
  · rw [if_neg c4] at h
    refine r_iconst C (0 : Int32) d_M_more_13 (by decide) ?_
    refine r_istore (lv' := [(4, tI (0 : Int32)), (0, tR (some h0)), (1, tI p1), (2, tI p2), (3, tI p3)]) C d_M_more_14 (by decide) rfl ?_
    refine r_lv [1, 2, 3, 4, 0] rfl ?_
    exact t_M_more_16 C hr  1000 h0 p1 p2 p3 (0 : Int32) V h
  · rw [if_pos c4] at h
    refine r_iconst C (0 : Int32) d_M_more_11 (by decide) ?_
    cases h
    exact r_zret C hr d_M_more_12 (Or.inl rfl)
theorem c_M_more (l : Launch) (E : gE) (base : Nat) (h0 : Nat) (p1 : Int32) (p2 : Int32) (p3 : Int32) (L : gL) (V : gV) {z : Int32 × gV} (h : D_M_more h0 p1 p2 p3 L V = some z) : g_Met l E base base y_M_more b_M_more 5 (some .boolean) rm_M_more [tR (some h0), tI p1, tI p2, tI p3] L V (some (tI z.1)) L z.2 :=
  r_enter R_M (by decide) rfl [tR (some h0), tI p1, tI p2, tI p3] [(0, tR (some h0)), (1, tI p1), (2, tI p2), (3, tI p3)] rfl (Nat.le_of_ble_eq_true rfl) (fun p e s m args below meth c C hr hnm => t_M_more_0 C hr h0 p1 p2 p3 V h)
def rm_M_readsFile : Room := { frames := 1, cells := 0, slots := 0, locals := 24 }
def D_M_readsFile (h0 : Nat) (p1 : Int32) (p2 : Int32) (L : gL) (V : gV) : Option (Int32 × gV) :=
  Option.bind (g_wr L V 4 h0 0 (tI (0 : Int32))) fun V1 =>
    Option.bind ((L).2 4 h0) fun n13 =>
    g_b2 (D_M_isStep h0 p1 L V1) fun r2 V3 =>
    (if r2 = 0 then
    some ((0 : Int32), V3)
  else
    Option.bind ((L).2 4 h0) fun n11 =>
    g_b2 (D_M_isFile h0 p2 L V3) fun r4 V5 =>
    (if r4 = 0 then
    some ((0 : Int32), V5)
  else
    Option.bind ((L).2 4 h0) fun n9 =>
    g_b2 (D_M_more h0 p1 p2 (2 : Int32) L V5) fun r6 V7 =>
    (if r6 = 0 then
    some ((0 : Int32), V7)
  else
    some ((1 : Int32), V7))))
set_option maxHeartbeats 4000000 in
set_option maxRecDepth 100000 in
theorem t_M_readsFile_0 (C : gC E base p s m args meth c b_M_readsFile R_M 3) (hr : meth.sig.returnType = (some .boolean)) {z : Int32 × gV} (h0 : Nat) (p1 : Int32) (p2 : Int32) (V : gV) (h : D_M_readsFile h0 p1 p2 L V = some z) : vW E base base 3 p l e rm_M_readsFile s m args below meth c 0 0 (g_MQ E base base below args s 0 0 L z.2 (some (tI z.1))) L V 0 [(0, tR (some h0)), (1, tI p1), (2, tI p2)] [] := by
  unfold D_M_readsFile at h
  refine r_aload_n (x := (some h0)) C d_M_readsFile_0 rfl rfl ?_
  refine r_iconst C (0 : Int32) d_M_readsFile_1 (by decide) ?_
  replace h := g_ob h; obtain ⟨V1, e_V1, h⟩ := h
  refine r_put C f_M_72 d_M_readsFile_2 e_V1 (g_nI (0 : Int32)).1 (g_nI (0 : Int32)).2 ?_
  refine r_aload_n (x := (some h0)) C d_M_readsFile_5 rfl rfl ?_
  refine r_iload_n (x := p1) C d_M_readsFile_6 rfl rfl ?_
  replace h := g_ob h; obtain ⟨n13, e_n13, h⟩ := h
  replace h := g_o2 h; obtain ⟨r2, V3, e_r2, h⟩ := h
  refine r_callV (As := [tI p1]) C k_M_86 w_260 w_261 w_254 ⟨_, _, rfl⟩ (c_M_isStep l E base base h0 p1 L V1 e_r2) d_M_readsFile_7 e_n13 rfl ⟨Nat.le_of_ble_eq_true rfl, Nat.le_of_ble_eq_true rfl⟩ (Nat.le_of_ble_eq_true rfl) (Nat.le_of_ble_eq_true rfl) (Nat.le_of_ble_eq_true rfl) rfl ?_
  refine r_if_eq C 35 d_M_readsFile_10 (by decide) (fun c12 => ?_) (fun c12 => ?_)
  · rw [if_pos c12] at h
    refine r_iconst C (0 : Int32) d_M_readsFile_35 (by decide) ?_
    cases h
    exact r_zret C hr d_M_readsFile_36 (Or.inl rfl)
  · rw [if_neg c12] at h
    refine r_aload_n (x := (some h0)) C d_M_readsFile_13 rfl rfl ?_
    refine r_iload_n (x := p2) C d_M_readsFile_14 rfl rfl ?_
    replace h := g_ob h; obtain ⟨n11, e_n11, h⟩ := h
    replace h := g_o2 h; obtain ⟨r4, V5, e_r4, h⟩ := h
    refine r_callV (As := [tI p2]) C k_M_82 w_252 w_253 w_249 ⟨_, _, rfl⟩ (c_M_isFile l E base base h0 p2 L V3 e_r4) d_M_readsFile_15 e_n11 rfl ⟨Nat.le_of_ble_eq_true rfl, Nat.le_of_ble_eq_true rfl⟩ (Nat.le_of_ble_eq_true rfl) (Nat.le_of_ble_eq_true rfl) (Nat.le_of_ble_eq_true rfl) rfl ?_
    refine r_if_eq C 35 d_M_readsFile_18 (by decide) (fun c10 => ?_) (fun c10 => ?_)
    · rw [if_pos c10] at h
      refine r_iconst C (0 : Int32) d_M_readsFile_35 (by decide) ?_
      cases h
      exact r_zret C hr d_M_readsFile_36 (Or.inl rfl)
    · rw [if_neg c10] at h
      refine r_aload_n (x := (some h0)) C d_M_readsFile_21 rfl rfl ?_
      refine r_iload_n (x := p1) C d_M_readsFile_22 rfl rfl ?_
      refine r_iload_n (x := p2) C d_M_readsFile_23 rfl rfl ?_
      refine r_iconst C (2 : Int32) d_M_readsFile_24 (by decide) ?_
      replace h := g_ob h; obtain ⟨n9, e_n9, h⟩ := h
      replace h := g_o2 h; obtain ⟨r6, V7, e_r6, h⟩ := h
      refine r_callV (As := [tI p1, tI p2, tI (2 : Int32)]) C k_M_89 w_258 w_259 w_256 ⟨_, _, rfl⟩ (c_M_more l E base h0 p1 p2 (2 : Int32) L V5 e_r6) d_M_readsFile_25 e_n9 rfl ⟨Nat.le_of_ble_eq_true rfl, Nat.le_of_ble_eq_true rfl⟩ (Nat.le_of_ble_eq_true rfl) (Nat.le_of_ble_eq_true rfl) (Nat.le_of_ble_eq_true rfl) rfl ?_
      refine r_if_eq C 35 d_M_readsFile_28 (by decide) (fun c8 => ?_) (fun c8 => ?_)
      · rw [if_pos c8] at h
        refine r_iconst C (0 : Int32) d_M_readsFile_35 (by decide) ?_
        cases h
        exact r_zret C hr d_M_readsFile_36 (Or.inl rfl)
      · rw [if_neg c8] at h
        refine r_iconst C (1 : Int32) d_M_readsFile_31 (by decide) ?_
        refine r_goto C 36 d_M_readsFile_32 (by decide) ?_
        cases h
        exact r_zret C hr d_M_readsFile_36 (Or.inr rfl)
theorem c_M_readsFile (l : Launch) (E : gE) (base : Nat) (h0 : Nat) (p1 : Int32) (p2 : Int32) (L : gL) (V : gV) {z : Int32 × gV} (h : D_M_readsFile h0 p1 p2 L V = some z) : g_Met l E base base y_M_readsFile b_M_readsFile 3 (some .boolean) rm_M_readsFile [tR (some h0), tI p1, tI p2] L V (some (tI z.1)) L z.2 :=
  r_enter R_M (by decide) rfl [tR (some h0), tI p1, tI p2] [(0, tR (some h0)), (1, tI p1), (2, tI p2)] rfl (Nat.le_of_ble_eq_true rfl) (fun p e s m args below meth c C hr hnm => t_M_readsFile_0 C hr h0 p1 p2 V h)
def rm_M_readsPart : Room := { frames := 1, cells := 0, slots := 0, locals := 24 }
def D_M_readsPart_31 (L : gL) (v0 : Nat) (v1 : Int32) (v2 : Int32) (v3 : Int32) (V : gV) : Option (Int32 × gV) :=
  Option.bind ((L).2 4 v0) fun n4 =>
    g_b2 (D_M_more v0 v1 v2 v3 L V) fun r1 V2 =>
    (if r1 = 0 then
    some ((0 : Int32), V2)
  else
    some ((1 : Int32), V2))
def D_M_readsPart (h0 : Nat) (p1 : Int32) (p2 : Int32) (p3 : Int32) (L : gL) (V : gV) : Option (Int32 × gV) :=
  Option.bind (g_wr L V 4 h0 0 (tI (0 : Int32))) fun V1 =>
    Option.bind ((L).2 4 h0) fun n9 =>
    g_b2 (D_M_isStep h0 p1 L V1) fun r2 V3 =>
    (if r2 = 0 then
    some ((0 : Int32), V3)
  else
    (if p2 < 0 then
    some ((0 : Int32), V3)
  else
    (if p1 ≤ p2 then
    some ((0 : Int32), V3)
  else
    (if p3 = 0 then
    D_M_readsPart_31 L  h0 p1 p2 p3 V3
  else
    (if p3 = (1 : Int32) then
    D_M_readsPart_31 L  h0 p1 p2 p3 V3
  else
    some ((0 : Int32), V3))))))
set_option maxHeartbeats 4000000 in
set_option maxRecDepth 100000 in
theorem t_M_readsPart_31 (C : gC E base p s m args meth c b_M_readsPart R_M 4) (hr : meth.sig.returnType = (some .boolean)) {z : Int32 × gV} (v0 : Nat) (v1 : Int32) (v2 : Int32) (v3 : Int32) (V : gV) (h : D_M_readsPart_31 L  v0 v1 v2 v3 V = some z) : vW E base base 4 p l e rm_M_readsPart s m args below meth c 0 0 (g_MQ E base base below args s 0 0 L z.2 (some (tI z.1))) L V 31 [(0, tR (some v0)), (1, tI v1), (2, tI v2), (3, tI v3)] [] := by
  unfold D_M_readsPart_31 at h
  refine r_aload_n (x := (some v0)) C d_M_readsPart_31 rfl rfl ?_
  refine r_iload_n (x := v1) C d_M_readsPart_32 rfl rfl ?_
  refine r_iload_n (x := v2) C d_M_readsPart_33 rfl rfl ?_
  refine r_iload_n (x := v3) C d_M_readsPart_34 rfl rfl ?_
  replace h := g_ob h; obtain ⟨n4, e_n4, h⟩ := h
  replace h := g_o2 h; obtain ⟨r1, V2, e_r1, h⟩ := h
  refine r_callV (As := [tI v1, tI v2, tI v3]) C k_M_89 w_258 w_259 w_256 ⟨_, _, rfl⟩ (c_M_more l E base v0 v1 v2 v3 L V e_r1) d_M_readsPart_35 e_n4 rfl ⟨Nat.le_of_ble_eq_true rfl, Nat.le_of_ble_eq_true rfl⟩ (Nat.le_of_ble_eq_true rfl) (Nat.le_of_ble_eq_true rfl) (Nat.le_of_ble_eq_true rfl) rfl ?_
  refine r_if_eq C 45 d_M_readsPart_38 (by decide) (fun c3 => ?_) (fun c3 => ?_)
  · rw [if_pos c3] at h
    refine r_iconst C (0 : Int32) d_M_readsPart_45 (by decide) ?_
    cases h
    exact r_zret C hr d_M_readsPart_46 (Or.inl rfl)
  · rw [if_neg c3] at h
    refine r_iconst C (1 : Int32) d_M_readsPart_41 (by decide) ?_
    refine r_goto C 46 d_M_readsPart_42 (by decide) ?_
    cases h
    exact r_zret C hr d_M_readsPart_46 (Or.inr rfl)
set_option maxHeartbeats 4000000 in
set_option maxRecDepth 100000 in
theorem t_M_readsPart_0 (C : gC E base p s m args meth c b_M_readsPart R_M 4) (hr : meth.sig.returnType = (some .boolean)) {z : Int32 × gV} (h0 : Nat) (p1 : Int32) (p2 : Int32) (p3 : Int32) (V : gV) (h : D_M_readsPart h0 p1 p2 p3 L V = some z) : vW E base base 4 p l e rm_M_readsPart s m args below meth c 0 0 (g_MQ E base base below args s 0 0 L z.2 (some (tI z.1))) L V 0 [(0, tR (some h0)), (1, tI p1), (2, tI p2), (3, tI p3)] [] := by
  unfold D_M_readsPart at h
  refine r_aload_n (x := (some h0)) C d_M_readsPart_0 rfl rfl ?_
  refine r_iconst C (0 : Int32) d_M_readsPart_1 (by decide) ?_
  replace h := g_ob h; obtain ⟨V1, e_V1, h⟩ := h
  refine r_put C f_M_72 d_M_readsPart_2 e_V1 (g_nI (0 : Int32)).1 (g_nI (0 : Int32)).2 ?_
  refine r_aload_n (x := (some h0)) C d_M_readsPart_5 rfl rfl ?_
  refine r_iload_n (x := p1) C d_M_readsPart_6 rfl rfl ?_
  replace h := g_ob h; obtain ⟨n9, e_n9, h⟩ := h
  replace h := g_o2 h; obtain ⟨r2, V3, e_r2, h⟩ := h
  refine r_callV (As := [tI p1]) C k_M_86 w_260 w_261 w_254 ⟨_, _, rfl⟩ (c_M_isStep l E base base h0 p1 L V1 e_r2) d_M_readsPart_7 e_n9 rfl ⟨Nat.le_of_ble_eq_true rfl, Nat.le_of_ble_eq_true rfl⟩ (Nat.le_of_ble_eq_true rfl) (Nat.le_of_ble_eq_true rfl) (Nat.le_of_ble_eq_true rfl) rfl ?_
  refine r_if_eq C 45 d_M_readsPart_10 (by decide) (fun c8 => ?_) (fun c8 => ?_)
  · rw [if_pos c8] at h
    refine r_iconst C (0 : Int32) d_M_readsPart_45 (by decide) ?_
    cases h
    exact r_zret C hr d_M_readsPart_46 (Or.inl rfl)
  · rw [if_neg c8] at h
    refine r_iload_n (x := p2) C d_M_readsPart_13 rfl rfl ?_
    refine r_if_lt C 45 d_M_readsPart_14 (by decide) (fun c7 => ?_) (fun c7 => ?_)
    · rw [if_pos c7] at h
      refine r_iconst C (0 : Int32) d_M_readsPart_45 (by decide) ?_
      cases h
      exact r_zret C hr d_M_readsPart_46 (Or.inl rfl)
    · rw [if_neg c7] at h
      refine r_iload_n (x := p2) C d_M_readsPart_17 rfl rfl ?_
      refine r_iload_n (x := p1) C d_M_readsPart_18 rfl rfl ?_
      refine r_icmp_ge C 45 d_M_readsPart_19 (by decide) (fun c6 => ?_) (fun c6 => ?_)
      · rw [if_pos c6] at h
        refine r_iconst C (0 : Int32) d_M_readsPart_45 (by decide) ?_
        cases h
        exact r_zret C hr d_M_readsPart_46 (Or.inl rfl)
      · rw [if_neg c6] at h
        refine r_iload_n (x := p3) C d_M_readsPart_22 rfl rfl ?_
        refine r_if_eq C 31 d_M_readsPart_23 (by decide) (fun c5 => ?_) (fun c5 => ?_)
        · rw [if_pos c5] at h
          exact t_M_readsPart_31 C hr  h0 p1 p2 p3 V3 h
        · rw [if_neg c5] at h
          refine r_iload_n (x := p3) C d_M_readsPart_26 rfl rfl ?_
          refine r_iconst C (1 : Int32) d_M_readsPart_27 (by decide) ?_
          refine r_icmp_ne C 45 d_M_readsPart_28 (by decide) (fun c4 => ?_) (fun c4 => ?_)
          · rw [if_neg c4] at h
            refine r_iconst C (0 : Int32) d_M_readsPart_45 (by decide) ?_
            cases h
            exact r_zret C hr d_M_readsPart_46 (Or.inl rfl)
          · rw [if_pos c4] at h
            exact t_M_readsPart_31 C hr  h0 p1 p2 p3 V3 h
theorem c_M_readsPart (l : Launch) (E : gE) (base : Nat) (h0 : Nat) (p1 : Int32) (p2 : Int32) (p3 : Int32) (L : gL) (V : gV) {z : Int32 × gV} (h : D_M_readsPart h0 p1 p2 p3 L V = some z) : g_Met l E base base y_M_readsPart b_M_readsPart 4 (some .boolean) rm_M_readsPart [tR (some h0), tI p1, tI p2, tI p3] L V (some (tI z.1)) L z.2 :=
  r_enter R_M (by decide) rfl [tR (some h0), tI p1, tI p2, tI p3] [(0, tR (some h0)), (1, tI p1), (2, tI p2), (3, tI p3)] rfl (Nat.le_of_ble_eq_true rfl) (fun p e s m args below meth c C hr hnm => t_M_readsPart_0 C hr h0 p1 p2 p3 V h)
def rm_M_force : Room := { frames := 1, cells := 0, slots := 0, locals := 21 }
def D_M_force (h0 : Nat) (p1 : Int32) (L : gL) (V : gV) : Option (Int32 × gV) :=
  Option.bind (g_wr L V 4 h0 0 (tI (0 : Int32))) fun V1 =>
    Option.bind ((L).2 4 h0) fun n12 =>
    g_b2 (D_M_isStep h0 p1 L V1) fun r2 V3 =>
    (if r2 = 0 then
    some ((0 : Int32), V3)
  else
    Option.bind (g_rR L V3 4 h0 7) fun x4 =>
    Option.bind x4 fun a5 =>
    Option.bind (g_aI L V3 102 a5 p1) fun x6 =>
    (if x6 = 0 then
    Option.bind (g_rR L V3 4 h0 7) fun x7 =>
    Option.bind x7 fun a8 =>
    Option.bind (g_wa L V3 102 a8 p1 (tI (1 : Int32))) fun V9 =>
    some ((1 : Int32), V9)
  else
    some ((0 : Int32), V3)))
set_option maxHeartbeats 4000000 in
set_option maxRecDepth 100000 in
theorem t_M_force_0 (C : gC E base p s m args meth c b_M_force R_M 2) (hr : meth.sig.returnType = (some .boolean)) {z : Int32 × gV} (h0 : Nat) (p1 : Int32) (V : gV) (h : D_M_force h0 p1 L V = some z) : vW E base base 2 p l e rm_M_force s m args below meth c 0 0 (g_MQ E base base below args s 0 0 L z.2 (some (tI z.1))) L V 0 [(0, tR (some h0)), (1, tI p1)] [] := by
  unfold D_M_force at h
  refine r_aload_n (x := (some h0)) C d_M_force_0 rfl rfl ?_
  refine r_iconst C (0 : Int32) d_M_force_1 (by decide) ?_
  replace h := g_ob h; obtain ⟨V1, e_V1, h⟩ := h
  refine r_put C f_M_72 d_M_force_2 e_V1 (g_nI (0 : Int32)).1 (g_nI (0 : Int32)).2 ?_
  refine r_aload_n (x := (some h0)) C d_M_force_5 rfl rfl ?_
  refine r_iload_n (x := p1) C d_M_force_6 rfl rfl ?_
  replace h := g_ob h; obtain ⟨n12, e_n12, h⟩ := h
  replace h := g_o2 h; obtain ⟨r2, V3, e_r2, h⟩ := h
  refine r_callV (As := [tI p1]) C k_M_86 w_260 w_261 w_254 ⟨_, _, rfl⟩ (c_M_isStep l E base base h0 p1 L V1 e_r2) d_M_force_7 e_n12 rfl ⟨Nat.le_of_ble_eq_true rfl, Nat.le_of_ble_eq_true rfl⟩ (Nat.le_of_ble_eq_true rfl) (Nat.le_of_ble_eq_true rfl) (Nat.le_of_ble_eq_true rfl) rfl ?_
  refine r_if_eq C 22 d_M_force_10 (by decide) (fun c11 => ?_) (fun c11 => ?_)
  · rw [if_pos c11] at h
    refine r_iconst C (0 : Int32) d_M_force_22 (by decide) ?_
    cases h
    exact r_zret C hr d_M_force_23 (Or.inl rfl)
  · rw [if_neg c11] at h
    refine r_aload_n (x := (some h0)) C d_M_force_13 rfl rfl ?_
    replace h := g_ob h; obtain ⟨x4, e_x4, h⟩ := h
    refine r_getR C f_M_23 d_M_force_14 e_x4 ?_
    refine r_iload_n (x := p1) C d_M_force_17 rfl rfl ?_
    replace h := g_ob h; obtain ⟨a5, rfl, h⟩ := h
    replace h := g_ob h; obtain ⟨x6, e_x6, h⟩ := h
    refine r_zald C ak_102 d_M_force_18 e_x6 ?_
    refine r_if_eq C 24 d_M_force_19 (by decide) (fun c10 => ?_) (fun c10 => ?_)
    · rw [if_pos c10] at h
      refine r_aload_n (x := (some h0)) C d_M_force_24 rfl rfl ?_
      replace h := g_ob h; obtain ⟨x7, e_x7, h⟩ := h
      refine r_getR C f_M_23 d_M_force_25 e_x7 ?_
      refine r_iload_n (x := p1) C d_M_force_28 rfl rfl ?_
      refine r_iconst C (1 : Int32) d_M_force_29 (by decide) ?_
      replace h := g_ob h; obtain ⟨a8, rfl, h⟩ := h
      replace h := g_ob h; obtain ⟨V9, e_V9, h⟩ := h
      refine r_zast C ak_102 d_M_force_30 (Or.inr rfl) e_V9 ?_
      refine r_iconst C (1 : Int32) d_M_force_31 (by decide) ?_
      cases h
      exact r_zret C hr d_M_force_32 (Or.inr rfl)
    · rw [if_neg c10] at h
      refine r_iconst C (0 : Int32) d_M_force_22 (by decide) ?_
      cases h
      exact r_zret C hr d_M_force_23 (Or.inl rfl)
theorem c_M_force (l : Launch) (E : gE) (base : Nat) (h0 : Nat) (p1 : Int32) (L : gL) (V : gV) {z : Int32 × gV} (h : D_M_force h0 p1 L V = some z) : g_Met l E base base y_M_force b_M_force 2 (some .boolean) rm_M_force [tR (some h0), tI p1] L V (some (tI z.1)) L z.2 :=
  r_enter R_M (by decide) rfl [tR (some h0), tI p1] [(0, tR (some h0)), (1, tI p1)] rfl (Nat.le_of_ble_eq_true rfl) (fun p e s m args below meth c C hr hnm => t_M_force_0 C hr h0 p1 V h)
def rm_M_record4 : Room := { frames := 0, cells := 0, slots := 0, locals := 0 }
def D_M_record4 (p0 : Int32) (p1 : Int32) (L : gL) (V : gV) : Option (Int32 × gV) :=
  some (((4 : Int32) * p0) + p1, V)
set_option maxHeartbeats 4000000 in
set_option maxRecDepth 100000 in
theorem t_M_record4_0 (C : gC E bA p s m args meth c b_M_record4 R_M 2) (hr : meth.sig.returnType = (some .int)) {z : Int32 × gV} (p0 : Int32) (p1 : Int32) (V : gV) (h : D_M_record4 p0 p1 L V = some z) : vW E base bA 2 p l e rm_M_record4 s m args below meth c 0 0 (g_MQ E base bA below args s 0 0 L z.2 (some (tI z.1))) L V 0 [(0, tI p0), (1, tI p1)] [] := by
  unfold D_M_record4 at h
  refine r_iconst C (4 : Int32) d_M_record4_0 (by decide) ?_
  refine r_iload_n (x := p0) C d_M_record4_1 rfl rfl ?_
  refine r_imul C d_M_record4_2 ?_
  refine r_iload_n (x := p1) C d_M_record4_3 rfl rfl ?_
  refine r_iadd C d_M_record4_4 ?_
  cases h
  exact r_iret C hr d_M_record4_5
theorem c_M_record4 (l : Launch) (E : gE) (base bA : Nat) (p0 : Int32) (p1 : Int32) (L : gL) (V : gV) {z : Int32 × gV} (h : D_M_record4 p0 p1 L V = some z) : g_Met l E base bA y_M_record4 b_M_record4 2 (some .int) rm_M_record4 [tI p0, tI p1] L V (some (tI z.1)) L z.2 :=
  r_enter R_M (by decide) rfl [tI p0, tI p1] [(0, tI p0), (1, tI p1)] rfl (Nat.le_of_ble_eq_true rfl) (fun p e s m args below meth c C hr hnm => t_M_record4_0 C hr p0 p1 V h)
def rm_M_isFileRead : Room := { frames := 0, cells := 0, slots := 0, locals := 0 }
def D_M_isFileRead (h0 : Nat) (p1 : Int32) (p2 : Int32) (L : gL) (V : gV) : Option (Int32 × gV) :=
  Option.bind (g_rR L V 4 h0 11) fun x1 =>
    Option.bind x1 fun a2 =>
    Option.bind (g_aI L V 100 a2 (((6 : Int32) * p1) + p2)) fun x3 =>
    (if x3 = (2 : Int32) then
    some ((1 : Int32), V)
  else
    some ((0 : Int32), V))
set_option maxHeartbeats 4000000 in
set_option maxRecDepth 100000 in
theorem t_M_isFileRead_0 (C : gC E bA p s m args meth c b_M_isFileRead R_M 3) (hr : meth.sig.returnType = (some .boolean)) {z : Int32 × gV} (h0 : Nat) (p1 : Int32) (p2 : Int32) (V : gV) (h : D_M_isFileRead h0 p1 p2 L V = some z) : vW E base bA 3 p l e rm_M_isFileRead s m args below meth c 0 0 (g_MQ E base bA below args s 0 0 L z.2 (some (tI z.1))) L V 0 [(0, tR (some h0)), (1, tI p1), (2, tI p2)] [] := by
  unfold D_M_isFileRead at h
  refine r_aload_n (x := (some h0)) C d_M_isFileRead_0 rfl rfl ?_
  replace h := g_ob h; obtain ⟨x1, e_x1, h⟩ := h
  refine r_getR C f_M_36 d_M_isFileRead_1 e_x1 ?_
  refine r_bipush C (6 : Int32) d_M_isFileRead_4 (by decide) ?_
  refine r_iload_n (x := p1) C d_M_isFileRead_6 rfl rfl ?_
  refine r_imul C d_M_isFileRead_7 ?_
  refine r_iload_n (x := p2) C d_M_isFileRead_8 rfl rfl ?_
  refine r_iadd C d_M_isFileRead_9 ?_
  replace h := g_ob h; obtain ⟨a2, rfl, h⟩ := h
  replace h := g_ob h; obtain ⟨x3, e_x3, h⟩ := h
  refine r_iald C ak_100 d_M_isFileRead_10 e_x3 ?_
  refine r_iconst C (2 : Int32) d_M_isFileRead_11 (by decide) ?_
  refine r_icmp_ne C 19 d_M_isFileRead_12 (by decide) (fun c4 => ?_) (fun c4 => ?_)
  · rw [if_neg c4] at h
    refine r_iconst C (0 : Int32) d_M_isFileRead_19 (by decide) ?_
    cases h
    exact r_zret C hr d_M_isFileRead_20 (Or.inl rfl)
  · rw [if_pos c4] at h
    refine r_iconst C (1 : Int32) d_M_isFileRead_15 (by decide) ?_
    refine r_goto C 20 d_M_isFileRead_16 (by decide) ?_
    cases h
    exact r_zret C hr d_M_isFileRead_20 (Or.inr rfl)
theorem c_M_isFileRead (l : Launch) (E : gE) (base bA : Nat) (h0 : Nat) (p1 : Int32) (p2 : Int32) (L : gL) (V : gV) {z : Int32 × gV} (h : D_M_isFileRead h0 p1 p2 L V = some z) : g_Met l E base bA y_M_isFileRead b_M_isFileRead 3 (some .boolean) rm_M_isFileRead [tR (some h0), tI p1, tI p2] L V (some (tI z.1)) L z.2 :=
  r_enter R_M (by decide) rfl [tR (some h0), tI p1, tI p2] [(0, tR (some h0)), (1, tI p1), (2, tI p2)] rfl (Nat.le_of_ble_eq_true rfl) (fun p e s m args below meth c C hr hnm => t_M_isFileRead_0 C hr h0 p1 p2 V h)
def rm_M_partOf : Room := { frames := 1, cells := 0, slots := 0, locals := 21 }
def D_M_partOf (h0 : Nat) (p1 : Int32) (p2 : Int32) (L : gL) (V : gV) : Option (Int64 × gV) :=
  (if p2 = 0 then
    Option.bind (g_rR L V 4 h0 14) fun x6 =>
    g_b2 (D_M_record4 p1 (0 : Int32) L V) fun r7 V8 =>
    Option.bind x6 fun a9 =>
    Option.bind (g_aJ L V8 101 a9 r7) fun x10 =>
    Option.bind (g_rR L V8 4 h0 4) fun x11 =>
    Option.bind x11 fun a12 =>
    Option.bind (g_aJ L V8 101 a12 p1) fun x13 =>
    some (x10 &&& x13, V8)
  else
    Option.bind (g_rR L V 4 h0 14) fun x1 =>
    g_b2 (D_M_record4 p1 (0 : Int32) L V) fun r2 V3 =>
    Option.bind x1 fun a4 =>
    Option.bind (g_aJ L V3 101 a4 r2) fun x5 =>
    some (x5, V3))
set_option maxHeartbeats 4000000 in
set_option maxRecDepth 100000 in
theorem t_M_partOf_0 (C : gC E bA p s m args meth c b_M_partOf R_M 3) (hr : meth.sig.returnType = (some .long)) {z : Int64 × gV} (h0 : Nat) (p1 : Int32) (p2 : Int32) (V : gV) (h : D_M_partOf h0 p1 p2 L V = some z) : vW E base bA 3 p l e rm_M_partOf s m args below meth c 0 0 (g_MQ E base bA below args s 0 0 L z.2 (some (tJ z.1))) L V 0 [(0, tR (some h0)), (1, tI p1), (2, tI p2)] [] := by
  unfold D_M_partOf at h
  refine r_iload_n (x := p2) C d_M_partOf_0 rfl rfl ?_
  refine r_if_ne C 24 d_M_partOf_1 (by decide) (fun c14 => ?_) (fun c14 => ?_)
  · rw [if_neg c14] at h
    refine r_aload_n (x := (some h0)) C d_M_partOf_24 rfl rfl ?_
    replace h := g_ob h; obtain ⟨x1, e_x1, h⟩ := h
    refine r_getR C f_M_45 d_M_partOf_25 e_x1 ?_
    refine r_iload_n (x := p1) C d_M_partOf_28 rfl rfl ?_
    refine r_iconst C (0 : Int32) d_M_partOf_29 (by decide) ?_
    replace h := g_o2 h; obtain ⟨r2, V3, e_r2, h⟩ := h
    refine r_callS (As := [tI p1, tI (0 : Int32)]) C k_M_93 w_264 w_262 (c_M_record4 l E base bA p1 (0 : Int32) L V e_r2) d_M_partOf_30 rfl ⟨Nat.le_of_ble_eq_true rfl, Nat.le_of_ble_eq_true rfl⟩ (Nat.le_of_ble_eq_true rfl) (Nat.le_of_ble_eq_true rfl) (Nat.le_of_ble_eq_true rfl) rfl ?_
    replace h := g_ob h; obtain ⟨a4, rfl, h⟩ := h
    replace h := g_ob h; obtain ⟨x5, e_x5, h⟩ := h
    refine r_lald C ak_101 d_M_partOf_33 e_x5 ?_
    cases h
    exact r_lret C hr d_M_partOf_34
  · rw [if_pos c14] at h
    refine r_aload_n (x := (some h0)) C d_M_partOf_4 rfl rfl ?_
    replace h := g_ob h; obtain ⟨x6, e_x6, h⟩ := h
    refine r_getR C f_M_45 d_M_partOf_5 e_x6 ?_
    refine r_iload_n (x := p1) C d_M_partOf_8 rfl rfl ?_
    refine r_iconst C (0 : Int32) d_M_partOf_9 (by decide) ?_
    replace h := g_o2 h; obtain ⟨r7, V8, e_r7, h⟩ := h
    refine r_callS (As := [tI p1, tI (0 : Int32)]) C k_M_93 w_264 w_262 (c_M_record4 l E base bA p1 (0 : Int32) L V e_r7) d_M_partOf_10 rfl ⟨Nat.le_of_ble_eq_true rfl, Nat.le_of_ble_eq_true rfl⟩ (Nat.le_of_ble_eq_true rfl) (Nat.le_of_ble_eq_true rfl) (Nat.le_of_ble_eq_true rfl) rfl ?_
    replace h := g_ob h; obtain ⟨a9, rfl, h⟩ := h
    replace h := g_ob h; obtain ⟨x10, e_x10, h⟩ := h
    refine r_lald C ak_101 d_M_partOf_13 e_x10 ?_
    refine r_aload_n (x := (some h0)) C d_M_partOf_14 rfl rfl ?_
    replace h := g_ob h; obtain ⟨x11, e_x11, h⟩ := h
    refine r_getR C f_M_13 d_M_partOf_15 e_x11 ?_
    refine r_iload_n (x := p1) C d_M_partOf_18 rfl rfl ?_
    replace h := g_ob h; obtain ⟨a12, rfl, h⟩ := h
    replace h := g_ob h; obtain ⟨x13, e_x13, h⟩ := h
    refine r_lald C ak_101 d_M_partOf_19 e_x13 ?_
    refine r_land C d_M_partOf_20 ?_
    refine r_goto C 34 d_M_partOf_21 (by decide) ?_
    cases h
    exact r_lret C hr d_M_partOf_34
theorem c_M_partOf (l : Launch) (E : gE) (base bA : Nat) (h0 : Nat) (p1 : Int32) (p2 : Int32) (L : gL) (V : gV) {z : Int64 × gV} (h : D_M_partOf h0 p1 p2 L V = some z) : g_Met l E base bA y_M_partOf b_M_partOf 3 (some .long) rm_M_partOf [tR (some h0), tI p1, tI p2] L V (some (tJ z.1)) L z.2 :=
  r_enter R_M (by decide) rfl [tR (some h0), tI p1, tI p2] [(0, tR (some h0)), (1, tI p1), (2, tI p2)] rfl (Nat.le_of_ble_eq_true rfl) (fun p e s m args below meth c C hr hnm => t_M_partOf_0 C hr h0 p1 p2 V h)
def rm_M_valueNow : Room := { frames := 2, cells := 0, slots := 0, locals := 43 }
def D_M_valueNow (h0 : Nat) (p1 : Int32) (p2 : Int32) (L : gL) (V : gV) : Option (Int64 × gV) :=
  Option.bind (g_rR L V 4 h0 10) fun x1 =>
    Option.bind x1 fun a2 =>
    Option.bind (g_aI L V 100 a2 (((6 : Int32) * p1) + p2)) fun x3 =>
    Option.bind ((L).2 4 h0) fun n20 =>
    g_b2 (D_M_isFileRead h0 p1 p2 L V) fun r4 V5 =>
    (if r4 = 0 then
    Option.bind (g_rR L V5 4 h0 11) fun x6 =>
    Option.bind x6 fun a7 =>
    Option.bind (g_aI L V5 100 a7 (((6 : Int32) * p1) + p2)) fun x8 =>
    Option.bind ((L).2 4 h0) fun n11 =>
    g_b2 (D_M_partOf h0 x3 x8 L V5) fun r9 V10 =>
    some (r9, V10)
  else
    Option.bind (g_rR L V5 4 h0 6) fun x12 =>
    Option.bind x12 fun a13 =>
    Option.bind (g_aI L V5 102 a13 x3) fun x14 =>
    (if x14 = 0 then
    some ((0 : Int64), V5)
  else
    Option.bind (g_rR L V5 4 h0 3) fun x15 =>
    Option.bind x15 fun a16 =>
    Option.bind (g_aJ L V5 101 a16 x3) fun x17 =>
    some (x17, V5)))
set_option maxHeartbeats 4000000 in
set_option maxRecDepth 100000 in
theorem t_M_valueNow_0 (C : gC E bA p s m args meth c b_M_valueNow R_M 4) (hr : meth.sig.returnType = (some .long)) {z : Int64 × gV} (h0 : Nat) (p1 : Int32) (p2 : Int32) (V : gV) (h : D_M_valueNow h0 p1 p2 L V = some z) : vW E base bA 4 p l e rm_M_valueNow s m args below meth c 0 0 (g_MQ E base bA below args s 0 0 L z.2 (some (tJ z.1))) L V 0 [(0, tR (some h0)), (1, tI p1), (2, tI p2)] [] := by
  unfold D_M_valueNow at h
  refine r_aload_n (x := (some h0)) C d_M_valueNow_0 rfl rfl ?_
  replace h := g_ob h; obtain ⟨x1, e_x1, h⟩ := h
  refine r_getR C f_M_33 d_M_valueNow_1 e_x1 ?_
  refine r_bipush C (6 : Int32) d_M_valueNow_4 (by decide) ?_
  refine r_iload_n (x := p1) C d_M_valueNow_6 rfl rfl ?_
  refine r_imul C d_M_valueNow_7 ?_
  refine r_iload_n (x := p2) C d_M_valueNow_8 rfl rfl ?_
  refine r_iadd C d_M_valueNow_9 ?_
  replace h := g_ob h; obtain ⟨a2, rfl, h⟩ := h
  replace h := g_ob h; obtain ⟨x3, e_x3, h⟩ := h
  refine r_iald C ak_100 d_M_valueNow_10 e_x3 ?_
  refine r_istore_n (lv' := [(3, tI x3), (0, tR (some h0)), (1, tI p1), (2, tI p2)]) C d_M_valueNow_11 rfl (by decide) rfl ?_
  refine r_aload_n (x := (some h0)) C d_M_valueNow_12 rfl rfl ?_
  refine r_iload_n (x := p1) C d_M_valueNow_13 rfl rfl ?_
  refine r_iload_n (x := p2) C d_M_valueNow_14 rfl rfl ?_
  replace h := g_ob h; obtain ⟨n20, e_n20, h⟩ := h
  replace h := g_o2 h; obtain ⟨r4, V5, e_r4, h⟩ := h
  refine r_callV (As := [tI p1, tI p2]) C k_M_97 w_271 w_272 w_265 ⟨_, _, rfl⟩ (c_M_isFileRead l E base bA h0 p1 p2 L V e_r4) d_M_valueNow_15 e_n20 rfl ⟨Nat.le_of_ble_eq_true rfl, Nat.le_of_ble_eq_true rfl⟩ (Nat.le_of_ble_eq_true rfl) (Nat.le_of_ble_eq_true rfl) (Nat.le_of_ble_eq_true rfl) rfl ?_
  refine r_if_eq C 43 d_M_valueNow_18 (by decide) (fun c19 => ?_) (fun c19 => ?_)
  · rw [if_pos c19] at h
    refine r_aload_n (x := (some h0)) C d_M_valueNow_43 rfl rfl ?_
    refine r_iload_n (x := x3) C d_M_valueNow_44 rfl rfl ?_
    refine r_aload_n (x := (some h0)) C d_M_valueNow_45 rfl rfl ?_
    replace h := g_ob h; obtain ⟨x6, e_x6, h⟩ := h
    refine r_getR C f_M_36 d_M_valueNow_46 e_x6 ?_
    refine r_bipush C (6 : Int32) d_M_valueNow_49 (by decide) ?_
    refine r_iload_n (x := p1) C d_M_valueNow_51 rfl rfl ?_
    refine r_imul C d_M_valueNow_52 ?_
    refine r_iload_n (x := p2) C d_M_valueNow_53 rfl rfl ?_
    refine r_iadd C d_M_valueNow_54 ?_
    replace h := g_ob h; obtain ⟨a7, rfl, h⟩ := h
    replace h := g_ob h; obtain ⟨x8, e_x8, h⟩ := h
    refine r_iald C ak_100 d_M_valueNow_55 e_x8 ?_
    replace h := g_ob h; obtain ⟨n11, e_n11, h⟩ := h
    replace h := g_o2 h; obtain ⟨r9, V10, e_r9, h⟩ := h
    refine r_callV (As := [tI x3, tI x8]) C k_M_101 w_269 w_270 w_267 ⟨_, _, rfl⟩ (c_M_partOf l E base bA h0 x3 x8 L V5 e_r9) d_M_valueNow_56 e_n11 rfl ⟨Nat.le_of_ble_eq_true rfl, Nat.le_of_ble_eq_true rfl⟩ (Nat.le_of_ble_eq_true rfl) (Nat.le_of_ble_eq_true rfl) (Nat.le_of_ble_eq_true rfl) rfl ?_
    cases h
    exact r_lret C hr d_M_valueNow_59
  · rw [if_neg c19] at h
    refine r_aload_n (x := (some h0)) C d_M_valueNow_21 rfl rfl ?_
    replace h := g_ob h; obtain ⟨x12, e_x12, h⟩ := h
    refine r_getR C f_M_19 d_M_valueNow_22 e_x12 ?_
    refine r_iload_n (x := x3) C d_M_valueNow_25 rfl rfl ?_
    replace h := g_ob h; obtain ⟨a13, rfl, h⟩ := h
    replace h := g_ob h; obtain ⟨x14, e_x14, h⟩ := h
    refine r_zald C ak_102 d_M_valueNow_26 e_x14 ?_
    refine r_if_eq C 39 d_M_valueNow_27 (by decide) (fun c18 => ?_) (fun c18 => ?_)
    · rw [if_pos c18] at h
      refine r_lconst C (0 : Int64) d_M_valueNow_39 (by decide) ?_
      refine r_goto C 59 d_M_valueNow_40 (by decide) ?_
      cases h
      exact r_lret C hr d_M_valueNow_59
    · rw [if_neg c18] at h
      refine r_aload_n (x := (some h0)) C d_M_valueNow_30 rfl rfl ?_
      replace h := g_ob h; obtain ⟨x15, e_x15, h⟩ := h
      refine r_getR C f_M_7 d_M_valueNow_31 e_x15 ?_
      refine r_iload_n (x := x3) C d_M_valueNow_34 rfl rfl ?_
      replace h := g_ob h; obtain ⟨a16, rfl, h⟩ := h
      replace h := g_ob h; obtain ⟨x17, e_x17, h⟩ := h
      refine r_lald C ak_101 d_M_valueNow_35 e_x17 ?_
      refine r_goto C 59 d_M_valueNow_36 (by decide) ?_
      cases h
      exact r_lret C hr d_M_valueNow_59
theorem c_M_valueNow (l : Launch) (E : gE) (base bA : Nat) (h0 : Nat) (p1 : Int32) (p2 : Int32) (L : gL) (V : gV) {z : Int64 × gV} (h : D_M_valueNow h0 p1 p2 L V = some z) : g_Met l E base bA y_M_valueNow b_M_valueNow 4 (some .long) rm_M_valueNow [tR (some h0), tI p1, tI p2] L V (some (tJ z.1)) L z.2 :=
  r_enter R_M (by decide) rfl [tR (some h0), tI p1, tI p2] [(0, tR (some h0)), (1, tI p1), (2, tI p2)] rfl (Nat.le_of_ble_eq_true rfl) (fun p e s m args below meth c C hr hnm => t_M_valueNow_0 C hr h0 p1 p2 V h)
def rm_M_thereNow : Room := { frames := 1, cells := 0, slots := 0, locals := 22 }
def D_M_thereNow_28 (L : gL)  (V : gV) : Option (Int32 × gV) :=
  some ((1 : Int32), V)
def D_M_thereNow (h0 : Nat) (p1 : Int32) (p2 : Int32) (L : gL) (V : gV) : Option (Int32 × gV) :=
  Option.bind ((L).2 4 h0) fun n11 =>
    g_b2 (D_M_isFileRead h0 p1 p2 L V) fun r1 V2 =>
    (if r1 = 0 then
    D_M_thereNow_28 L   V2
  else
    Option.bind (g_rR L V2 4 h0 6) fun x3 =>
    Option.bind (g_rR L V2 4 h0 10) fun x4 =>
    Option.bind x4 fun a5 =>
    Option.bind (g_aI L V2 100 a5 (((6 : Int32) * p1) + p2)) fun x6 =>
    Option.bind x3 fun a7 =>
    Option.bind (g_aI L V2 102 a7 x6) fun x8 =>
    (if x8 = 0 then
    some ((0 : Int32), V2)
  else
    D_M_thereNow_28 L   V2))
set_option maxHeartbeats 4000000 in
set_option maxRecDepth 100000 in
theorem t_M_thereNow_28 (C : gC E bA p s m args meth c b_M_thereNow R_M 3) (hr : meth.sig.returnType = (some .boolean)) {z : Int32 × gV}  (V : gV) (h : D_M_thereNow_28 L   V = some z) : vW E base bA 3 p l e rm_M_thereNow s m args below meth c 0 0 (g_MQ E base bA below args s 0 0 L z.2 (some (tI z.1))) L V 28 [] [] := by
  unfold D_M_thereNow_28 at h
  refine r_iconst C (1 : Int32) d_M_thereNow_28 (by decide) ?_
  refine r_goto C 33 d_M_thereNow_29 (by decide) ?_
  cases h
  exact r_zret C hr d_M_thereNow_33 (Or.inr rfl)
set_option maxHeartbeats 4000000 in
set_option maxRecDepth 100000 in
theorem t_M_thereNow_0 (C : gC E bA p s m args meth c b_M_thereNow R_M 3) (hr : meth.sig.returnType = (some .boolean)) {z : Int32 × gV} (h0 : Nat) (p1 : Int32) (p2 : Int32) (V : gV) (h : D_M_thereNow h0 p1 p2 L V = some z) : vW E base bA 3 p l e rm_M_thereNow s m args below meth c 0 0 (g_MQ E base bA below args s 0 0 L z.2 (some (tI z.1))) L V 0 [(0, tR (some h0)), (1, tI p1), (2, tI p2)] [] := by
  unfold D_M_thereNow at h
  refine r_aload_n (x := (some h0)) C d_M_thereNow_0 rfl rfl ?_
  refine r_iload_n (x := p1) C d_M_thereNow_1 rfl rfl ?_
  refine r_iload_n (x := p2) C d_M_thereNow_2 rfl rfl ?_
  replace h := g_ob h; obtain ⟨n11, e_n11, h⟩ := h
  replace h := g_o2 h; obtain ⟨r1, V2, e_r1, h⟩ := h
  refine r_callV (As := [tI p1, tI p2]) C k_M_97 w_271 w_272 w_265 ⟨_, _, rfl⟩ (c_M_isFileRead l E base bA h0 p1 p2 L V e_r1) d_M_thereNow_3 e_n11 rfl ⟨Nat.le_of_ble_eq_true rfl, Nat.le_of_ble_eq_true rfl⟩ (Nat.le_of_ble_eq_true rfl) (Nat.le_of_ble_eq_true rfl) (Nat.le_of_ble_eq_true rfl) rfl ?_
  refine r_if_eq C 28 d_M_thereNow_6 (by decide) (fun c10 => ?_) (fun c10 => ?_)
  · rw [if_pos c10] at h
    refine r_lv [] rfl ?_
    exact t_M_thereNow_28 C hr   V2 h
  · rw [if_neg c10] at h
    refine r_aload_n (x := (some h0)) C d_M_thereNow_9 rfl rfl ?_
    replace h := g_ob h; obtain ⟨x3, e_x3, h⟩ := h
    refine r_getR C f_M_19 d_M_thereNow_10 e_x3 ?_
    refine r_aload_n (x := (some h0)) C d_M_thereNow_13 rfl rfl ?_
    replace h := g_ob h; obtain ⟨x4, e_x4, h⟩ := h
    refine r_getR C f_M_33 d_M_thereNow_14 e_x4 ?_
    refine r_bipush C (6 : Int32) d_M_thereNow_17 (by decide) ?_
    refine r_iload_n (x := p1) C d_M_thereNow_19 rfl rfl ?_
    refine r_imul C d_M_thereNow_20 ?_
    refine r_iload_n (x := p2) C d_M_thereNow_21 rfl rfl ?_
    refine r_iadd C d_M_thereNow_22 ?_
    replace h := g_ob h; obtain ⟨a5, rfl, h⟩ := h
    replace h := g_ob h; obtain ⟨x6, e_x6, h⟩ := h
    refine r_iald C ak_100 d_M_thereNow_23 e_x6 ?_
    replace h := g_ob h; obtain ⟨a7, rfl, h⟩ := h
    replace h := g_ob h; obtain ⟨x8, e_x8, h⟩ := h
    refine r_zald C ak_102 d_M_thereNow_24 e_x8 ?_
    refine r_if_eq C 32 d_M_thereNow_25 (by decide) (fun c9 => ?_) (fun c9 => ?_)
    · rw [if_pos c9] at h
      refine r_iconst C (0 : Int32) d_M_thereNow_32 (by decide) ?_
      cases h
      exact r_zret C hr d_M_thereNow_33 (Or.inl rfl)
    · rw [if_neg c9] at h
      refine r_lv [] rfl ?_
      exact t_M_thereNow_28 C hr   V2 h
theorem c_M_thereNow (l : Launch) (E : gE) (base bA : Nat) (h0 : Nat) (p1 : Int32) (p2 : Int32) (L : gL) (V : gV) {z : Int32 × gV} (h : D_M_thereNow h0 p1 p2 L V = some z) : g_Met l E base bA y_M_thereNow b_M_thereNow 3 (some .boolean) rm_M_thereNow [tR (some h0), tI p1, tI p2] L V (some (tI z.1)) L z.2 :=
  r_enter R_M (by decide) rfl [tR (some h0), tI p1, tI p2] [(0, tR (some h0)), (1, tI p1), (2, tI p2)] rfl (Nat.le_of_ble_eq_true rfl) (fun p e s m args below meth c C hr hnm => t_M_thereNow_0 C hr h0 p1 p2 V h)
def rm_M_isAsWas : Room := { frames := 3, cells := 0, slots := 0, locals := 66 }
def D_M_isAsWas (h0 : Nat) (p1 : Int32) (p2 : Int32) (p3 : Int32) (L : gL) (V : gV) : Option (Int32 × gV) :=
  g_b2 (D_M_record4 p1 p2 L V) fun r1 V2 =>
    Option.bind (g_rR L V2 4 h0 16) fun x3 =>
    Option.bind x3 fun a4 =>
    Option.bind (g_aI L V2 102 a4 (((6 : Int32) * r1) + p3)) fun x5 =>
    Option.bind ((L).2 4 h0) fun n16 =>
    g_b2 (D_M_thereNow h0 p1 p3 L V2) fun r6 V7 =>
    (if x5 = r6 then
    Option.bind (g_rR L V7 4 h0 15) fun x8 =>
    Option.bind x8 fun a9 =>
    Option.bind (g_aJ L V7 101 a9 (((6 : Int32) * r1) + p3)) fun x10 =>
    Option.bind ((L).2 4 h0) fun n14 =>
    g_b2 (D_M_valueNow h0 p1 p3 L V7) fun r11 V12 =>
    (if (lg_cmp x10 r11) = 0 then
    some ((1 : Int32), V12)
  else
    some ((0 : Int32), V12))
  else
    some ((0 : Int32), V7))
set_option maxHeartbeats 4000000 in
set_option maxRecDepth 100000 in
theorem t_M_isAsWas_0 (C : gC E bA p s m args meth c b_M_isAsWas R_M 5) (hr : meth.sig.returnType = (some .boolean)) {z : Int32 × gV} (h0 : Nat) (p1 : Int32) (p2 : Int32) (p3 : Int32) (V : gV) (h : D_M_isAsWas h0 p1 p2 p3 L V = some z) : vW E base bA 5 p l e rm_M_isAsWas s m args below meth c 0 0 (g_MQ E base bA below args s 0 0 L z.2 (some (tI z.1))) L V 0 [(0, tR (some h0)), (1, tI p1), (2, tI p2), (3, tI p3)] [] := by
  unfold D_M_isAsWas at h
  refine r_bipush C (6 : Int32) d_M_isAsWas_0 (by decide) ?_
  refine r_iload_n (x := p1) C d_M_isAsWas_2 rfl rfl ?_
  refine r_iload_n (x := p2) C d_M_isAsWas_3 rfl rfl ?_
  replace h := g_o2 h; obtain ⟨r1, V2, e_r1, h⟩ := h
  refine r_callS (As := [tI p1, tI p2]) C k_M_93 w_264 w_262 (c_M_record4 l E base bA p1 p2 L V e_r1) d_M_isAsWas_4 rfl ⟨Nat.le_of_ble_eq_true rfl, Nat.le_of_ble_eq_true rfl⟩ (Nat.le_of_ble_eq_true rfl) (Nat.le_of_ble_eq_true rfl) (Nat.le_of_ble_eq_true rfl) rfl ?_
  refine r_imul C d_M_isAsWas_7 ?_
  refine r_iload_n (x := p3) C d_M_isAsWas_8 rfl rfl ?_
  refine r_iadd C d_M_isAsWas_9 ?_
  refine r_istore (lv' := [(4, tI (((6 : Int32) * r1) + p3)), (0, tR (some h0)), (1, tI p1), (2, tI p2), (3, tI p3)]) C d_M_isAsWas_10 (by decide) rfl ?_
  refine r_aload_n (x := (some h0)) C d_M_isAsWas_12 rfl rfl ?_
  replace h := g_ob h; obtain ⟨x3, e_x3, h⟩ := h
  refine r_getR C f_M_51 d_M_isAsWas_13 e_x3 ?_
  refine r_iload (x := ((6 : Int32) * r1) + p3) C d_M_isAsWas_16 rfl ?_
  replace h := g_ob h; obtain ⟨a4, rfl, h⟩ := h
  replace h := g_ob h; obtain ⟨x5, e_x5, h⟩ := h
  refine r_zald C ak_102 d_M_isAsWas_18 e_x5 ?_
  refine r_aload_n (x := (some h0)) C d_M_isAsWas_19 rfl rfl ?_
  refine r_iload_n (x := p1) C d_M_isAsWas_20 rfl rfl ?_
  refine r_iload_n (x := p3) C d_M_isAsWas_21 rfl rfl ?_
  replace h := g_ob h; obtain ⟨n16, e_n16, h⟩ := h
  replace h := g_o2 h; obtain ⟨r6, V7, e_r6, h⟩ := h
  refine r_callV (As := [tI p1, tI p3]) C k_M_105 w_279 w_280 w_273 ⟨_, _, rfl⟩ (c_M_thereNow l E base bA h0 p1 p3 L V2 e_r6) d_M_isAsWas_22 e_n16 rfl ⟨Nat.le_of_ble_eq_true rfl, Nat.le_of_ble_eq_true rfl⟩ (Nat.le_of_ble_eq_true rfl) (Nat.le_of_ble_eq_true rfl) (Nat.le_of_ble_eq_true rfl) rfl ?_
  refine r_icmp_ne C 49 d_M_isAsWas_25 (by decide) (fun c15 => ?_) (fun c15 => ?_)
  · rw [if_neg c15] at h
    refine r_iconst C (0 : Int32) d_M_isAsWas_49 (by decide) ?_
    cases h
    exact r_zret C hr d_M_isAsWas_50 (Or.inl rfl)
  · rw [if_pos c15] at h
    refine r_aload_n (x := (some h0)) C d_M_isAsWas_28 rfl rfl ?_
    replace h := g_ob h; obtain ⟨x8, e_x8, h⟩ := h
    refine r_getR C f_M_48 d_M_isAsWas_29 e_x8 ?_
    refine r_iload (x := ((6 : Int32) * r1) + p3) C d_M_isAsWas_32 rfl ?_
    replace h := g_ob h; obtain ⟨a9, rfl, h⟩ := h
    replace h := g_ob h; obtain ⟨x10, e_x10, h⟩ := h
    refine r_lald C ak_101 d_M_isAsWas_34 e_x10 ?_
    refine r_aload_n (x := (some h0)) C d_M_isAsWas_35 rfl rfl ?_
    refine r_iload_n (x := p1) C d_M_isAsWas_36 rfl rfl ?_
    refine r_iload_n (x := p3) C d_M_isAsWas_37 rfl rfl ?_
    replace h := g_ob h; obtain ⟨n14, e_n14, h⟩ := h
    replace h := g_o2 h; obtain ⟨r11, V12, e_r11, h⟩ := h
    refine r_callV (As := [tI p1, tI p3]) C k_M_108 w_277 w_278 w_275 ⟨_, _, rfl⟩ (c_M_valueNow l E base bA h0 p1 p3 L V7 e_r11) d_M_isAsWas_38 e_n14 rfl ⟨Nat.le_of_ble_eq_true rfl, Nat.le_of_ble_eq_true rfl⟩ (Nat.le_of_ble_eq_true rfl) (Nat.le_of_ble_eq_true rfl) (Nat.le_of_ble_eq_true rfl) rfl ?_
    refine r_lcmp C d_M_isAsWas_41 ?_
    refine r_if_ne C 49 d_M_isAsWas_42 (by decide) (fun c13 => ?_) (fun c13 => ?_)
    · rw [if_neg c13] at h
      refine r_iconst C (0 : Int32) d_M_isAsWas_49 (by decide) ?_
      cases h
      exact r_zret C hr d_M_isAsWas_50 (Or.inl rfl)
    · rw [if_pos c13] at h
      refine r_iconst C (1 : Int32) d_M_isAsWas_45 (by decide) ?_
      refine r_goto C 50 d_M_isAsWas_46 (by decide) ?_
      cases h
      exact r_zret C hr d_M_isAsWas_50 (Or.inr rfl)
theorem c_M_isAsWas (l : Launch) (E : gE) (base bA : Nat) (h0 : Nat) (p1 : Int32) (p2 : Int32) (p3 : Int32) (L : gL) (V : gV) {z : Int32 × gV} (h : D_M_isAsWas h0 p1 p2 p3 L V = some z) : g_Met l E base bA y_M_isAsWas b_M_isAsWas 5 (some .boolean) rm_M_isAsWas [tR (some h0), tI p1, tI p2, tI p3] L V (some (tI z.1)) L z.2 :=
  r_enter R_M (by decide) rfl [tR (some h0), tI p1, tI p2, tI p3] [(0, tR (some h0)), (1, tI p1), (2, tI p2), (3, tI p3)] rfl (Nat.le_of_ble_eq_true rfl) (fun p e s m args below meth c C hr hnm => t_M_isAsWas_0 C hr h0 p1 p2 p3 V h)
def rm_M_matching : Room := { frames := 4, cells := 0, slots := 0, locals := 90 }
def D_M_matching_17 (L : gL) (K2 : Nat → Int32 → Int32 → gV → Option (Int32 × gV)) : Nat → Nat → Int32 → Int32 → Int32 → Int32 → gV → Option (Int32 × gV)
  | 0, _, _, _, _, _, _ => none
  | n + 1, v0, v1, v2, v3, v4, V =>
  Option.bind (g_rR L V 4 v0 9) fun x1 =>
    Option.bind x1 fun a2 =>
    Option.bind (g_aI L V 100 a2 v1) fun x3 =>
    (if x3 ≤ v4 then
    (if v3 = 0 then
    K2 v0 v1 (v2 + (1 : Int32)) V
  else
    some (v2, V))
  else
    (if v3 = 0 then
    D_M_matching_17 L K2 n v0 v1 v2 (0 : Int32) (v4 + (1 : Int32)) V
  else
    Option.bind ((L).2 4 v0) fun n8 =>
    g_b2 (D_M_isAsWas v0 v1 v2 v4 L V) fun r5 V6 =>
    (if r5 = 0 then
    D_M_matching_17 L K2 n v0 v1 v2 (0 : Int32) (v4 + (1 : Int32)) V6
  else
    D_M_matching_17 L K2 n v0 v1 v2 (1 : Int32) (v4 + (1 : Int32)) V6)))
def D_M_matching_2 (L : gL) : Nat → Nat → Int32 → Int32 → gV → Option (Int32 × gV)
  | 0, _, _, _, _ => none
  | n + 1, v0, v1, v2, V =>
  Option.bind (g_rR L V 4 v0 12) fun x1 =>
    Option.bind x1 fun a2 =>
    Option.bind (g_aI L V 100 a2 v1) fun x3 =>
    (if x3 ≤ v2 then
    some ((-1 : Int32), V)
  else
    D_M_matching_17 L (D_M_matching_2 L  n) 1000 v0 v1 v2 (1 : Int32) (0 : Int32) V)
def D_M_matching (h0 : Nat) (p1 : Int32) (L : gL) (V : gV) : Option (Int32 × gV) :=
  D_M_matching_2 L  1000 h0 p1 (0 : Int32) V
set_option maxHeartbeats 4000000 in
set_option maxRecDepth 100000 in
theorem t_M_matching_17 (C : gC E bA p s m args meth c b_M_matching R_M 5) (hr : meth.sig.returnType = (some .int)) {z : Int32 × gV} (K2 : Nat → Int32 → Int32 → gV → Option (Int32 × gV)) (hK2 : ∀ (v0 : Nat) (v1 : Int32) (v2 : Int32) (V : gV), K2 v0 v1 v2 V = some z → vW E base bA 5 p l e rm_M_matching s m args below meth c 0 0 (g_MQ E base bA below args s 0 0 L z.2 (some (tI z.1))) L V 2 [(0, tR (some v0)), (1, tI v1), (2, tI v2)] []) : ∀ (n : Nat) (v0 : Nat) (v1 : Int32) (v2 : Int32) (v3 : Int32) (v4 : Int32) (V : gV), D_M_matching_17 L K2 n v0 v1 v2 v3 v4 V = some z → vW E base bA 5 p l e rm_M_matching s m args below meth c 0 0 (g_MQ E base bA below args s 0 0 L z.2 (some (tI z.1))) L V 17 [(0, tR (some v0)), (1, tI v1), (2, tI v2), (3, tI v3), (4, tI v4)] [] := by
  intro n
  induction n with
  | zero =>
    intro v0 v1 v2 v3 v4 V h
    rw [D_M_matching_17] at h
    cases h
  | succ n ih =>
    intro v0 v1 v2 v3 v4 V h
    rw [D_M_matching_17] at h
    refine r_iload (x := v4) C d_M_matching_17 rfl ?_
    refine r_aload_n (x := (some v0)) C d_M_matching_19 rfl rfl ?_
    replace h := g_ob h; obtain ⟨x1, e_x1, h⟩ := h
    refine r_getR C f_M_30 d_M_matching_20 e_x1 ?_
    refine r_iload_n (x := v1) C d_M_matching_23 rfl rfl ?_
    replace h := g_ob h; obtain ⟨a2, rfl, h⟩ := h
    replace h := g_ob h; obtain ⟨x3, e_x3, h⟩ := h
    refine r_iald C ak_100 d_M_matching_24 e_x3 ?_
    refine r_icmp_ge C 55 d_M_matching_25 (by decide) (fun c10 => ?_) (fun c10 => ?_)
    · rw [if_pos c10] at h
      refine r_iload_n (x := v3) C d_M_matching_55 rfl rfl ?_
      refine r_if_eq C 61 d_M_matching_56 (by decide) (fun c4 => ?_) (fun c4 => ?_)
      · rw [if_pos c4] at h
        refine r_iinc (x := v2) (v := v2 + (1 : Int32)) (lv' := [(2, tI (v2 + (1 : Int32))), (0, tR (some v0)), (1, tI v1), (3, tI v3), (4, tI v4)]) C d_M_matching_61 rfl rfl (by decide) rfl ?_
        refine r_goto C 2 d_M_matching_64 (by decide) ?_
        refine r_lv [1, 2, 0] rfl ?_
        exact hK2 v0 v1 (v2 + (1 : Int32)) V h
      · rw [if_neg c4] at h
        refine r_iload_n (x := v2) C d_M_matching_59 rfl rfl ?_
        cases h
        exact r_iret C hr d_M_matching_60
    · rw [if_neg c10] at h
      refine r_iload_n (x := v3) C d_M_matching_28 rfl rfl ?_
      refine r_if_eq C 47 d_M_matching_29 (by decide) (fun c9 => ?_) (fun c9 => ?_)
      · rw [if_pos c9] at h
        refine r_iconst C (0 : Int32) d_M_matching_47 (by decide) ?_
        refine r_istore_n (lv' := [(3, tI (0 : Int32)), (0, tR (some v0)), (1, tI v1), (2, tI v2), (4, tI v4)]) C d_M_matching_48 rfl (by decide) rfl ?_
        refine r_iinc (x := v4) (v := v4 + (1 : Int32)) (lv' := [(4, tI (v4 + (1 : Int32))), (3, tI (0 : Int32)), (0, tR (some v0)), (1, tI v1), (2, tI v2)]) C d_M_matching_49 rfl rfl (by decide) rfl ?_
        refine r_goto C 17 d_M_matching_52 (by decide) ?_
        refine r_lv [2, 3, 4, 1, 0] rfl ?_
        exact ih v0 v1 v2 (0 : Int32) (v4 + (1 : Int32)) V h
      · rw [if_neg c9] at h
        refine r_aload_n (x := (some v0)) C d_M_matching_32 rfl rfl ?_
        refine r_iload_n (x := v1) C d_M_matching_33 rfl rfl ?_
        refine r_iload_n (x := v2) C d_M_matching_34 rfl rfl ?_
        refine r_iload (x := v4) C d_M_matching_35 rfl ?_
        replace h := g_ob h; obtain ⟨n8, e_n8, h⟩ := h
        replace h := g_o2 h; obtain ⟨r5, V6, e_r5, h⟩ := h
        refine r_callV (As := [tI v1, tI v2, tI v4]) C k_M_111 w_283 w_284 w_281 ⟨_, _, rfl⟩ (c_M_isAsWas l E base bA v0 v1 v2 v4 L V e_r5) d_M_matching_37 e_n8 rfl ⟨Nat.le_of_ble_eq_true rfl, Nat.le_of_ble_eq_true rfl⟩ (Nat.le_of_ble_eq_true rfl) (Nat.le_of_ble_eq_true rfl) (Nat.le_of_ble_eq_true rfl) rfl ?_
        refine r_if_eq C 47 d_M_matching_40 (by decide) (fun c7 => ?_) (fun c7 => ?_)
        · rw [if_pos c7] at h
          refine r_iconst C (0 : Int32) d_M_matching_47 (by decide) ?_
          refine r_istore_n (lv' := [(3, tI (0 : Int32)), (0, tR (some v0)), (1, tI v1), (2, tI v2), (4, tI v4)]) C d_M_matching_48 rfl (by decide) rfl ?_
          refine r_iinc (x := v4) (v := v4 + (1 : Int32)) (lv' := [(4, tI (v4 + (1 : Int32))), (3, tI (0 : Int32)), (0, tR (some v0)), (1, tI v1), (2, tI v2)]) C d_M_matching_49 rfl rfl (by decide) rfl ?_
          refine r_goto C 17 d_M_matching_52 (by decide) ?_
          refine r_lv [2, 3, 4, 1, 0] rfl ?_
          exact ih v0 v1 v2 (0 : Int32) (v4 + (1 : Int32)) V6 h
        · rw [if_neg c7] at h
          refine r_iconst C (1 : Int32) d_M_matching_43 (by decide) ?_
          refine r_goto C 48 d_M_matching_44 (by decide) ?_
          refine r_istore_n (lv' := [(3, tI (1 : Int32)), (0, tR (some v0)), (1, tI v1), (2, tI v2), (4, tI v4)]) C d_M_matching_48 rfl (by decide) rfl ?_
          refine r_iinc (x := v4) (v := v4 + (1 : Int32)) (lv' := [(4, tI (v4 + (1 : Int32))), (3, tI (1 : Int32)), (0, tR (some v0)), (1, tI v1), (2, tI v2)]) C d_M_matching_49 rfl rfl (by decide) rfl ?_
          refine r_goto C 17 d_M_matching_52 (by decide) ?_
          refine r_lv [2, 3, 4, 1, 0] rfl ?_
          exact ih v0 v1 v2 (1 : Int32) (v4 + (1 : Int32)) V6 h
set_option maxHeartbeats 4000000 in
set_option maxRecDepth 100000 in
theorem t_M_matching_2 (C : gC E bA p s m args meth c b_M_matching R_M 5) (hr : meth.sig.returnType = (some .int)) {z : Int32 × gV} : ∀ (n : Nat) (v0 : Nat) (v1 : Int32) (v2 : Int32) (V : gV), D_M_matching_2 L  n v0 v1 v2 V = some z → vW E base bA 5 p l e rm_M_matching s m args below meth c 0 0 (g_MQ E base bA below args s 0 0 L z.2 (some (tI z.1))) L V 2 [(0, tR (some v0)), (1, tI v1), (2, tI v2)] [] := by
  intro n
  induction n with
  | zero =>
    intro v0 v1 v2 V h
    rw [D_M_matching_2] at h
    cases h
  | succ n ih =>
    intro v0 v1 v2 V h
    rw [D_M_matching_2] at h
    refine r_iload_n (x := v2) C d_M_matching_2 rfl rfl ?_
    refine r_aload_n (x := (some v0)) C d_M_matching_3 rfl rfl ?_
    replace h := g_ob h; obtain ⟨x1, e_x1, h⟩ := h
    refine r_getR C f_M_39 d_M_matching_4 e_x1 ?_
    refine r_iload_n (x := v1) C d_M_matching_7 rfl rfl ?_
    replace h := g_ob h; obtain ⟨a2, rfl, h⟩ := h
    replace h := g_ob h; obtain ⟨x3, e_x3, h⟩ := h
    refine r_iald C ak_100 d_M_matching_8 e_x3 ?_
    refine r_icmp_ge C 67 d_M_matching_9 (by decide) (fun c4 => ?_) (fun c4 => ?_)
    · rw [if_pos c4] at h
      refine r_iconst C (-1 : Int32) d_M_matching_67 (by decide) ?_
      cases h
      exact r_iret C hr d_M_matching_68
    · rw [if_neg c4] at h
      refine r_iconst C (1 : Int32) d_M_matching_12 (by decide) ?_
      refine r_istore_n (lv' := [(3, tI (1 : Int32)), (0, tR (some v0)), (1, tI v1), (2, tI v2)]) C d_M_matching_13 rfl (by decide) rfl ?_
      refine r_iconst C (0 : Int32) d_M_matching_14 (by decide) ?_
      refine r_istore (lv' := [(4, tI (0 : Int32)), (3, tI (1 : Int32)), (0, tR (some v0)), (1, tI v1), (2, tI v2)]) C d_M_matching_15 (by decide) rfl ?_
      refine r_lv [2, 3, 4, 1, 0] rfl ?_
      exact t_M_matching_17 C hr (D_M_matching_2 L  n) ih 1000 v0 v1 v2 (1 : Int32) (0 : Int32) V h
set_option maxHeartbeats 4000000 in
set_option maxRecDepth 100000 in
theorem t_M_matching_0 (C : gC E bA p s m args meth c b_M_matching R_M 5) (hr : meth.sig.returnType = (some .int)) {z : Int32 × gV} (h0 : Nat) (p1 : Int32) (V : gV) (h : D_M_matching h0 p1 L V = some z) : vW E base bA 5 p l e rm_M_matching s m args below meth c 0 0 (g_MQ E base bA below args s 0 0 L z.2 (some (tI z.1))) L V 0 [(0, tR (some h0)), (1, tI p1)] [] := by
  unfold D_M_matching at h
  refine r_iconst C (0 : Int32) d_M_matching_0 (by decide) ?_
  refine r_istore_n (lv' := [(2, tI (0 : Int32)), (0, tR (some h0)), (1, tI p1)]) C d_M_matching_1 rfl (by decide) rfl ?_
  refine r_lv [1, 2, 0] rfl ?_
  exact t_M_matching_2 C hr  1000 h0 p1 (0 : Int32) V h
theorem c_M_matching (l : Launch) (E : gE) (base bA : Nat) (h0 : Nat) (p1 : Int32) (L : gL) (V : gV) {z : Int32 × gV} (h : D_M_matching h0 p1 L V = some z) : g_Met l E base bA y_M_matching b_M_matching 5 (some .int) rm_M_matching [tR (some h0), tI p1] L V (some (tI z.1)) L z.2 :=
  r_enter R_M (by decide) rfl [tR (some h0), tI p1] [(0, tR (some h0)), (1, tI p1)] rfl (Nat.le_of_ble_eq_true rfl) (fun p e s m args below meth c C hr hnm => t_M_matching_0 C hr h0 p1 V h)
def rm_M_copy : Room := { frames := 1, cells := 0, slots := 0, locals := 21 }
def D_M_copy_43 (L : gL) : Nat → Nat → Int32 → Int32 → Int32 → Int32 → gV → Option (Unit × gV)
  | 0, _, _, _, _, _, _ => none
  | n + 1, v0, v1, v2, v3, v4, V =>
  (if (6 : Int32) ≤ v4 then
    some ((), V)
  else
    Option.bind (g_rR L V 4 v0 15) fun x1 =>
    g_b2 (D_M_record4 v1 v3 L V) fun r2 V3 =>
    Option.bind (g_rR L V3 4 v0 15) fun x4 =>
    g_b2 (D_M_record4 v1 v2 L V3) fun r5 V6 =>
    Option.bind x4 fun a7 =>
    Option.bind (g_aJ L V6 101 a7 (((6 : Int32) * r5) + v4)) fun x8 =>
    Option.bind x1 fun a9 =>
    Option.bind (g_wa L V6 101 a9 (((6 : Int32) * r2) + v4) (tJ x8)) fun V10 =>
    Option.bind (g_rR L V10 4 v0 16) fun x11 =>
    g_b2 (D_M_record4 v1 v3 L V10) fun r12 V13 =>
    Option.bind (g_rR L V13 4 v0 16) fun x14 =>
    g_b2 (D_M_record4 v1 v2 L V13) fun r15 V16 =>
    Option.bind x14 fun a17 =>
    Option.bind (g_aI L V16 102 a17 (((6 : Int32) * r15) + v4)) fun x18 =>
    Option.bind x11 fun a19 =>
    Option.bind (g_bz x18) fun _ =>
    Option.bind (g_wa L V16 102 a19 (((6 : Int32) * r12) + v4) (tI x18)) fun V20 =>
    D_M_copy_43 L  n v0 v1 v2 v3 (v4 + (1 : Int32)) V20)
def D_M_copy (h0 : Nat) (p1 : Int32) (p2 : Int32) (p3 : Int32) (L : gL) (V : gV) : Option (Unit × gV) :=
  Option.bind (g_rR L V 4 h0 14) fun x1 =>
    g_b2 (D_M_record4 p1 p3 L V) fun r2 V3 =>
    Option.bind (g_rR L V3 4 h0 14) fun x4 =>
    g_b2 (D_M_record4 p1 p2 L V3) fun r5 V6 =>
    Option.bind x4 fun a7 =>
    Option.bind (g_aJ L V6 101 a7 r5) fun x8 =>
    Option.bind x1 fun a9 =>
    Option.bind (g_wa L V6 101 a9 r2 (tJ x8)) fun V10 =>
    Option.bind (g_rR L V10 4 h0 13) fun x11 =>
    g_b2 (D_M_record4 p1 p3 L V10) fun r12 V13 =>
    Option.bind (g_rR L V13 4 h0 13) fun x14 =>
    g_b2 (D_M_record4 p1 p2 L V13) fun r15 V16 =>
    Option.bind x14 fun a17 =>
    Option.bind (g_aI L V16 100 a17 r15) fun x18 =>
    Option.bind x11 fun a19 =>
    Option.bind (g_wa L V16 100 a19 r12 (tI x18)) fun V20 =>
    D_M_copy_43 L  1000 h0 p1 p2 p3 (0 : Int32) V20
set_option maxHeartbeats 4000000 in
set_option maxRecDepth 100000 in
theorem t_M_copy_43 (C : gC E base p s m args meth c b_M_copy R_M 5) (hr : meth.sig.returnType = none) {z : Unit × gV} : ∀ (n : Nat) (v0 : Nat) (v1 : Int32) (v2 : Int32) (v3 : Int32) (v4 : Int32) (V : gV), D_M_copy_43 L  n v0 v1 v2 v3 v4 V = some z → vW E base base 5 p l e rm_M_copy s m args below meth c 0 0 (g_MQ E base base below args s 0 0 L z.2 none) L V 43 [(0, tR (some v0)), (1, tI v1), (2, tI v2), (3, tI v3), (4, tI v4)] [] := by
  intro n
  induction n with
  | zero =>
    intro v0 v1 v2 v3 v4 V h
    rw [D_M_copy_43] at h
    cases h
  | succ n ih =>
    intro v0 v1 v2 v3 v4 V h
    rw [D_M_copy_43] at h
    refine r_iload (x := v4) C d_M_copy_43 rfl ?_
    refine r_bipush C (6 : Int32) d_M_copy_45 (by decide) ?_
    refine r_icmp_ge C 120 d_M_copy_47 (by decide) (fun c22 => ?_) (fun c22 => ?_)
    · rw [if_pos c22] at h
      cases h
      exact r_vret C hr d_M_copy_120
    · rw [if_neg c22] at h
      refine r_aload_n (x := (some v0)) C d_M_copy_50 rfl rfl ?_
      replace h := g_ob h; obtain ⟨x1, e_x1, h⟩ := h
      refine r_getR C f_M_48 d_M_copy_51 e_x1 ?_
      refine r_bipush C (6 : Int32) d_M_copy_54 (by decide) ?_
      refine r_iload_n (x := v1) C d_M_copy_56 rfl rfl ?_
      refine r_iload_n (x := v3) C d_M_copy_57 rfl rfl ?_
      replace h := g_o2 h; obtain ⟨r2, V3, e_r2, h⟩ := h
      refine r_callS (As := [tI v1, tI v3]) C k_M_93 w_264 w_262 (c_M_record4 l E base base v1 v3 L V e_r2) d_M_copy_58 rfl ⟨Nat.le_of_ble_eq_true rfl, Nat.le_of_ble_eq_true rfl⟩ (Nat.le_of_ble_eq_true rfl) (Nat.le_of_ble_eq_true rfl) (Nat.le_of_ble_eq_true rfl) rfl ?_
      refine r_imul C d_M_copy_61 ?_
      refine r_iload (x := v4) C d_M_copy_62 rfl ?_
      refine r_iadd C d_M_copy_64 ?_
      refine r_aload_n (x := (some v0)) C d_M_copy_65 rfl rfl ?_
      replace h := g_ob h; obtain ⟨x4, e_x4, h⟩ := h
      refine r_getR C f_M_48 d_M_copy_66 e_x4 ?_
      refine r_bipush C (6 : Int32) d_M_copy_69 (by decide) ?_
      refine r_iload_n (x := v1) C d_M_copy_71 rfl rfl ?_
      refine r_iload_n (x := v2) C d_M_copy_72 rfl rfl ?_
      replace h := g_o2 h; obtain ⟨r5, V6, e_r5, h⟩ := h
      refine r_callS (As := [tI v1, tI v2]) C k_M_93 w_264 w_262 (c_M_record4 l E base base v1 v2 L V3 e_r5) d_M_copy_73 rfl ⟨Nat.le_of_ble_eq_true rfl, Nat.le_of_ble_eq_true rfl⟩ (Nat.le_of_ble_eq_true rfl) (Nat.le_of_ble_eq_true rfl) (Nat.le_of_ble_eq_true rfl) rfl ?_
      refine r_imul C d_M_copy_76 ?_
      refine r_iload (x := v4) C d_M_copy_77 rfl ?_
      refine r_iadd C d_M_copy_79 ?_
      replace h := g_ob h; obtain ⟨a7, rfl, h⟩ := h
      replace h := g_ob h; obtain ⟨x8, e_x8, h⟩ := h
      refine r_lald C ak_101 d_M_copy_80 e_x8 ?_
      replace h := g_ob h; obtain ⟨a9, rfl, h⟩ := h
      replace h := g_ob h; obtain ⟨V10, e_V10, h⟩ := h
      refine r_last C ak_101 d_M_copy_81 e_V10 ?_
      refine r_aload_n (x := (some v0)) C d_M_copy_82 rfl rfl ?_
      replace h := g_ob h; obtain ⟨x11, e_x11, h⟩ := h
      refine r_getR C f_M_51 d_M_copy_83 e_x11 ?_
      refine r_bipush C (6 : Int32) d_M_copy_86 (by decide) ?_
      refine r_iload_n (x := v1) C d_M_copy_88 rfl rfl ?_
      refine r_iload_n (x := v3) C d_M_copy_89 rfl rfl ?_
      replace h := g_o2 h; obtain ⟨r12, V13, e_r12, h⟩ := h
      refine r_callS (As := [tI v1, tI v3]) C k_M_93 w_264 w_262 (c_M_record4 l E base base v1 v3 L V10 e_r12) d_M_copy_90 rfl ⟨Nat.le_of_ble_eq_true rfl, Nat.le_of_ble_eq_true rfl⟩ (Nat.le_of_ble_eq_true rfl) (Nat.le_of_ble_eq_true rfl) (Nat.le_of_ble_eq_true rfl) rfl ?_
      refine r_imul C d_M_copy_93 ?_
      refine r_iload (x := v4) C d_M_copy_94 rfl ?_
      refine r_iadd C d_M_copy_96 ?_
      refine r_aload_n (x := (some v0)) C d_M_copy_97 rfl rfl ?_
      replace h := g_ob h; obtain ⟨x14, e_x14, h⟩ := h
      refine r_getR C f_M_51 d_M_copy_98 e_x14 ?_
      refine r_bipush C (6 : Int32) d_M_copy_101 (by decide) ?_
      refine r_iload_n (x := v1) C d_M_copy_103 rfl rfl ?_
      refine r_iload_n (x := v2) C d_M_copy_104 rfl rfl ?_
      replace h := g_o2 h; obtain ⟨r15, V16, e_r15, h⟩ := h
      refine r_callS (As := [tI v1, tI v2]) C k_M_93 w_264 w_262 (c_M_record4 l E base base v1 v2 L V13 e_r15) d_M_copy_105 rfl ⟨Nat.le_of_ble_eq_true rfl, Nat.le_of_ble_eq_true rfl⟩ (Nat.le_of_ble_eq_true rfl) (Nat.le_of_ble_eq_true rfl) (Nat.le_of_ble_eq_true rfl) rfl ?_
      refine r_imul C d_M_copy_108 ?_
      refine r_iload (x := v4) C d_M_copy_109 rfl ?_
      refine r_iadd C d_M_copy_111 ?_
      replace h := g_ob h; obtain ⟨a17, rfl, h⟩ := h
      replace h := g_ob h; obtain ⟨x18, e_x18, h⟩ := h
      refine r_zald C ak_102 d_M_copy_112 e_x18 ?_
      replace h := g_ob h; obtain ⟨a19, rfl, h⟩ := h
      replace h := g_ob h; obtain ⟨u21, e_u21, h⟩ := h
      replace h := g_ob h; obtain ⟨V20, e_V20, h⟩ := h
      refine r_zast C ak_102 d_M_copy_113 (g_bz_spec e_u21) e_V20 ?_
      refine r_iinc (x := v4) (v := v4 + (1 : Int32)) (lv' := [(4, tI (v4 + (1 : Int32))), (0, tR (some v0)), (1, tI v1), (2, tI v2), (3, tI v3)]) C d_M_copy_114 rfl rfl (by decide) rfl ?_
      refine r_goto C 43 d_M_copy_117 (by decide) ?_
      refine r_lv [1, 2, 3, 4, 0] rfl ?_
      exact ih v0 v1 v2 v3 (v4 + (1 : Int32)) V20 h
set_option maxHeartbeats 4000000 in
set_option maxRecDepth 100000 in
theorem t_M_copy_0 (C : gC E base p s m args meth c b_M_copy R_M 5) (hr : meth.sig.returnType = none) {z : Unit × gV} (h0 : Nat) (p1 : Int32) (p2 : Int32) (p3 : Int32) (V : gV) (h : D_M_copy h0 p1 p2 p3 L V = some z) : vW E base base 5 p l e rm_M_copy s m args below meth c 0 0 (g_MQ E base base below args s 0 0 L z.2 none) L V 0 [(0, tR (some h0)), (1, tI p1), (2, tI p2), (3, tI p3)] [] := by
  unfold D_M_copy at h
  refine r_aload_n (x := (some h0)) C d_M_copy_0 rfl rfl ?_
  replace h := g_ob h; obtain ⟨x1, e_x1, h⟩ := h
  refine r_getR C f_M_45 d_M_copy_1 e_x1 ?_
  refine r_iload_n (x := p1) C d_M_copy_4 rfl rfl ?_
  refine r_iload_n (x := p3) C d_M_copy_5 rfl rfl ?_
  replace h := g_o2 h; obtain ⟨r2, V3, e_r2, h⟩ := h
  refine r_callS (As := [tI p1, tI p3]) C k_M_93 w_264 w_262 (c_M_record4 l E base base p1 p3 L V e_r2) d_M_copy_6 rfl ⟨Nat.le_of_ble_eq_true rfl, Nat.le_of_ble_eq_true rfl⟩ (Nat.le_of_ble_eq_true rfl) (Nat.le_of_ble_eq_true rfl) (Nat.le_of_ble_eq_true rfl) rfl ?_
  refine r_aload_n (x := (some h0)) C d_M_copy_9 rfl rfl ?_
  replace h := g_ob h; obtain ⟨x4, e_x4, h⟩ := h
  refine r_getR C f_M_45 d_M_copy_10 e_x4 ?_
  refine r_iload_n (x := p1) C d_M_copy_13 rfl rfl ?_
  refine r_iload_n (x := p2) C d_M_copy_14 rfl rfl ?_
  replace h := g_o2 h; obtain ⟨r5, V6, e_r5, h⟩ := h
  refine r_callS (As := [tI p1, tI p2]) C k_M_93 w_264 w_262 (c_M_record4 l E base base p1 p2 L V3 e_r5) d_M_copy_15 rfl ⟨Nat.le_of_ble_eq_true rfl, Nat.le_of_ble_eq_true rfl⟩ (Nat.le_of_ble_eq_true rfl) (Nat.le_of_ble_eq_true rfl) (Nat.le_of_ble_eq_true rfl) rfl ?_
  replace h := g_ob h; obtain ⟨a7, rfl, h⟩ := h
  replace h := g_ob h; obtain ⟨x8, e_x8, h⟩ := h
  refine r_lald C ak_101 d_M_copy_18 e_x8 ?_
  replace h := g_ob h; obtain ⟨a9, rfl, h⟩ := h
  replace h := g_ob h; obtain ⟨V10, e_V10, h⟩ := h
  refine r_last C ak_101 d_M_copy_19 e_V10 ?_
  refine r_aload_n (x := (some h0)) C d_M_copy_20 rfl rfl ?_
  replace h := g_ob h; obtain ⟨x11, e_x11, h⟩ := h
  refine r_getR C f_M_42 d_M_copy_21 e_x11 ?_
  refine r_iload_n (x := p1) C d_M_copy_24 rfl rfl ?_
  refine r_iload_n (x := p3) C d_M_copy_25 rfl rfl ?_
  replace h := g_o2 h; obtain ⟨r12, V13, e_r12, h⟩ := h
  refine r_callS (As := [tI p1, tI p3]) C k_M_93 w_264 w_262 (c_M_record4 l E base base p1 p3 L V10 e_r12) d_M_copy_26 rfl ⟨Nat.le_of_ble_eq_true rfl, Nat.le_of_ble_eq_true rfl⟩ (Nat.le_of_ble_eq_true rfl) (Nat.le_of_ble_eq_true rfl) (Nat.le_of_ble_eq_true rfl) rfl ?_
  refine r_aload_n (x := (some h0)) C d_M_copy_29 rfl rfl ?_
  replace h := g_ob h; obtain ⟨x14, e_x14, h⟩ := h
  refine r_getR C f_M_42 d_M_copy_30 e_x14 ?_
  refine r_iload_n (x := p1) C d_M_copy_33 rfl rfl ?_
  refine r_iload_n (x := p2) C d_M_copy_34 rfl rfl ?_
  replace h := g_o2 h; obtain ⟨r15, V16, e_r15, h⟩ := h
  refine r_callS (As := [tI p1, tI p2]) C k_M_93 w_264 w_262 (c_M_record4 l E base base p1 p2 L V13 e_r15) d_M_copy_35 rfl ⟨Nat.le_of_ble_eq_true rfl, Nat.le_of_ble_eq_true rfl⟩ (Nat.le_of_ble_eq_true rfl) (Nat.le_of_ble_eq_true rfl) (Nat.le_of_ble_eq_true rfl) rfl ?_
  replace h := g_ob h; obtain ⟨a17, rfl, h⟩ := h
  replace h := g_ob h; obtain ⟨x18, e_x18, h⟩ := h
  refine r_iald C ak_100 d_M_copy_38 e_x18 ?_
  replace h := g_ob h; obtain ⟨a19, rfl, h⟩ := h
  replace h := g_ob h; obtain ⟨V20, e_V20, h⟩ := h
  refine r_iast C ak_100 d_M_copy_39 e_V20 ?_
  refine r_iconst C (0 : Int32) d_M_copy_40 (by decide) ?_
  refine r_istore (lv' := [(4, tI (0 : Int32)), (0, tR (some h0)), (1, tI p1), (2, tI p2), (3, tI p3)]) C d_M_copy_41 (by decide) rfl ?_
  refine r_lv [1, 2, 3, 4, 0] rfl ?_
  exact t_M_copy_43 C hr  1000 h0 p1 p2 p3 (0 : Int32) V20 h
theorem c_M_copy (l : Launch) (E : gE) (base : Nat) (h0 : Nat) (p1 : Int32) (p2 : Int32) (p3 : Int32) (L : gL) (V : gV) {z : Unit × gV} (h : D_M_copy h0 p1 p2 p3 L V = some z) : g_Met l E base base y_M_copy b_M_copy 5 none rm_M_copy [tR (some h0), tI p1, tI p2, tI p3] L V none L z.2 :=
  r_enter R_M (by decide) rfl [tR (some h0), tI p1, tI p2, tI p3] [(0, tR (some h0)), (1, tI p1), (2, tI p2), (3, tI p3)] rfl (Nat.le_of_ble_eq_true rfl) (fun p e s m args below meth c C hr hnm => t_M_copy_0 C hr h0 p1 p2 p3 V h)
def rm_M_moveBack : Room := { frames := 2, cells := 0, slots := 0, locals := 45 }
def D_M_moveBack_2 (L : gL) : Nat → Nat → Int32 → Int32 → gV → Option (Unit × gV)
  | 0, _, _, _, _ => none
  | n + 1, v0, v1, v3, V =>
  (if v3 ≤ 0 then
    some ((), V)
  else
    Option.bind ((L).2 4 v0) fun n3 =>
    g_b2 (D_M_copy v0 v1 (v3 - (1 : Int32)) v3 L V) fun r1 V2 =>
    D_M_moveBack_2 L  n v0 v1 (v3 + (-1 : Int32)) V2)
def D_M_moveBack (h0 : Nat) (p1 : Int32) (p2 : Int32) (L : gL) (V : gV) : Option (Unit × gV) :=
  D_M_moveBack_2 L  1000 h0 p1 p2 V
set_option maxHeartbeats 4000000 in
set_option maxRecDepth 100000 in
theorem t_M_moveBack_2 (C : gC E base p s m args meth c b_M_moveBack R_M 4) (hr : meth.sig.returnType = none) {z : Unit × gV} : ∀ (n : Nat) (v0 : Nat) (v1 : Int32) (v3 : Int32) (V : gV), D_M_moveBack_2 L  n v0 v1 v3 V = some z → vW E base base 4 p l e rm_M_moveBack s m args below meth c 0 0 (g_MQ E base base below args s 0 0 L z.2 none) L V 2 [(0, tR (some v0)), (1, tI v1), (3, tI v3)] [] := by
  intro n
  induction n with
  | zero =>
    intro v0 v1 v3 V h
    rw [D_M_moveBack_2] at h
    cases h
  | succ n ih =>
    intro v0 v1 v3 V h
    rw [D_M_moveBack_2] at h
    refine r_iload_n (x := v3) C d_M_moveBack_2 rfl rfl ?_
    refine r_if_le C 21 d_M_moveBack_3 (by decide) (fun c4 => ?_) (fun c4 => ?_)
    · rw [if_pos c4] at h
      cases h
      exact r_vret C hr d_M_moveBack_21
    · rw [if_neg c4] at h
      refine r_aload_n (x := (some v0)) C d_M_moveBack_6 rfl rfl ?_
      refine r_iload_n (x := v1) C d_M_moveBack_7 rfl rfl ?_
      refine r_iload_n (x := v3) C d_M_moveBack_8 rfl rfl ?_
      refine r_iconst C (1 : Int32) d_M_moveBack_9 (by decide) ?_
      refine r_isub C d_M_moveBack_10 ?_
      refine r_iload_n (x := v3) C d_M_moveBack_11 rfl rfl ?_
      replace h := g_ob h; obtain ⟨n3, e_n3, h⟩ := h
      replace h := g_o2 h; obtain ⟨r1, V2, e_r1, h⟩ := h
      refine r_callV (As := [tI v1, tI (v3 - (1 : Int32)), tI v3]) C k_M_114 w_287 w_288 w_285 ⟨_, _, rfl⟩ (c_M_copy l E base v0 v1 (v3 - (1 : Int32)) v3 L V e_r1) d_M_moveBack_12 e_n3 rfl ⟨Nat.le_of_ble_eq_true rfl, Nat.le_of_ble_eq_true rfl⟩ (Nat.le_of_ble_eq_true rfl) (Nat.le_of_ble_eq_true rfl) (Nat.le_of_ble_eq_true rfl) rfl ?_
      refine r_iinc (x := v3) (v := v3 + (-1 : Int32)) (lv' := [(3, tI (v3 + (-1 : Int32))), (0, tR (some v0)), (1, tI v1)]) C d_M_moveBack_15 rfl rfl (by decide) rfl ?_
      refine r_goto C 2 d_M_moveBack_18 (by decide) ?_
      refine r_lv [1, 2, 0] rfl ?_
      exact ih v0 v1 (v3 + (-1 : Int32)) V2 h
set_option maxHeartbeats 4000000 in
set_option maxRecDepth 100000 in
theorem t_M_moveBack_0 (C : gC E base p s m args meth c b_M_moveBack R_M 4) (hr : meth.sig.returnType = none) {z : Unit × gV} (h0 : Nat) (p1 : Int32) (p2 : Int32) (V : gV) (h : D_M_moveBack h0 p1 p2 L V = some z) : vW E base base 4 p l e rm_M_moveBack s m args below meth c 0 0 (g_MQ E base base below args s 0 0 L z.2 none) L V 0 [(0, tR (some h0)), (1, tI p1), (2, tI p2)] [] := by
  unfold D_M_moveBack at h
  refine r_iload_n (x := p2) C d_M_moveBack_0 rfl rfl ?_
  refine r_istore_n (lv' := [(3, tI p2), (0, tR (some h0)), (1, tI p1), (2, tI p2)]) C d_M_moveBack_1 rfl (by decide) rfl ?_
  refine r_lv [1, 2, 0] rfl ?_
  exact t_M_moveBack_2 C hr  1000 h0 p1 p2 V h
theorem c_M_moveBack (l : Launch) (E : gE) (base : Nat) (h0 : Nat) (p1 : Int32) (p2 : Int32) (L : gL) (V : gV) {z : Unit × gV} (h : D_M_moveBack h0 p1 p2 L V = some z) : g_Met l E base base y_M_moveBack b_M_moveBack 4 none rm_M_moveBack [tR (some h0), tI p1, tI p2] L V none L z.2 :=
  r_enter R_M (by decide) rfl [tR (some h0), tI p1, tI p2] [(0, tR (some h0)), (1, tI p1), (2, tI p2)] rfl (Nat.le_of_ble_eq_true rfl) (fun p e s m args below meth c C hr hnm => t_M_moveBack_0 C hr h0 p1 p2 V h)
def rm_M_bring : Room := { frames := 3, cells := 0, slots := 0, locals := 68 }
def D_M_bring (h0 : Nat) (p1 : Int32) (p2 : Int32) (L : gL) (V : gV) : Option (Unit × gV) :=
  Option.bind ((L).2 4 h0) fun n9 =>
    g_b2 (D_M_copy h0 p1 p2 (3 : Int32) L V) fun r1 V2 =>
    Option.bind ((L).2 4 h0) fun n8 =>
    g_b2 (D_M_moveBack h0 p1 p2 L V2) fun r3 V4 =>
    Option.bind ((L).2 4 h0) fun n7 =>
    g_b2 (D_M_copy h0 p1 (3 : Int32) (0 : Int32) L V4) fun r5 V6 =>
    some ((), V6)
set_option maxHeartbeats 4000000 in
set_option maxRecDepth 100000 in
theorem t_M_bring_0 (C : gC E base p s m args meth c b_M_bring R_M 3) (hr : meth.sig.returnType = none) {z : Unit × gV} (h0 : Nat) (p1 : Int32) (p2 : Int32) (V : gV) (h : D_M_bring h0 p1 p2 L V = some z) : vW E base base 3 p l e rm_M_bring s m args below meth c 0 0 (g_MQ E base base below args s 0 0 L z.2 none) L V 0 [(0, tR (some h0)), (1, tI p1), (2, tI p2)] [] := by
  unfold D_M_bring at h
  refine r_aload_n (x := (some h0)) C d_M_bring_0 rfl rfl ?_
  refine r_iload_n (x := p1) C d_M_bring_1 rfl rfl ?_
  refine r_iload_n (x := p2) C d_M_bring_2 rfl rfl ?_
  refine r_iconst C (3 : Int32) d_M_bring_3 (by decide) ?_
  replace h := g_ob h; obtain ⟨n9, e_n9, h⟩ := h
  replace h := g_o2 h; obtain ⟨r1, V2, e_r1, h⟩ := h
  refine r_callV (As := [tI p1, tI p2, tI (3 : Int32)]) C k_M_114 w_287 w_288 w_285 ⟨_, _, rfl⟩ (c_M_copy l E base h0 p1 p2 (3 : Int32) L V e_r1) d_M_bring_4 e_n9 rfl ⟨Nat.le_of_ble_eq_true rfl, Nat.le_of_ble_eq_true rfl⟩ (Nat.le_of_ble_eq_true rfl) (Nat.le_of_ble_eq_true rfl) (Nat.le_of_ble_eq_true rfl) rfl ?_
  refine r_aload_n (x := (some h0)) C d_M_bring_7 rfl rfl ?_
  refine r_iload_n (x := p1) C d_M_bring_8 rfl rfl ?_
  refine r_iload_n (x := p2) C d_M_bring_9 rfl rfl ?_
  replace h := g_ob h; obtain ⟨n8, e_n8, h⟩ := h
  replace h := g_o2 h; obtain ⟨r3, V4, e_r3, h⟩ := h
  refine r_callV (As := [tI p1, tI p2]) C k_M_118 w_291 w_292 w_289 ⟨_, _, rfl⟩ (c_M_moveBack l E base h0 p1 p2 L V2 e_r3) d_M_bring_10 e_n8 rfl ⟨Nat.le_of_ble_eq_true rfl, Nat.le_of_ble_eq_true rfl⟩ (Nat.le_of_ble_eq_true rfl) (Nat.le_of_ble_eq_true rfl) (Nat.le_of_ble_eq_true rfl) rfl ?_
  refine r_aload_n (x := (some h0)) C d_M_bring_13 rfl rfl ?_
  refine r_iload_n (x := p1) C d_M_bring_14 rfl rfl ?_
  refine r_iconst C (3 : Int32) d_M_bring_15 (by decide) ?_
  refine r_iconst C (0 : Int32) d_M_bring_16 (by decide) ?_
  replace h := g_ob h; obtain ⟨n7, e_n7, h⟩ := h
  replace h := g_o2 h; obtain ⟨r5, V6, e_r5, h⟩ := h
  refine r_callV (As := [tI p1, tI (3 : Int32), tI (0 : Int32)]) C k_M_114 w_287 w_288 w_285 ⟨_, _, rfl⟩ (c_M_copy l E base h0 p1 (3 : Int32) (0 : Int32) L V4 e_r5) d_M_bring_17 e_n7 rfl ⟨Nat.le_of_ble_eq_true rfl, Nat.le_of_ble_eq_true rfl⟩ (Nat.le_of_ble_eq_true rfl) (Nat.le_of_ble_eq_true rfl) (Nat.le_of_ble_eq_true rfl) rfl ?_
  cases h
  exact r_vret C hr d_M_bring_20
theorem c_M_bring (l : Launch) (E : gE) (base : Nat) (h0 : Nat) (p1 : Int32) (p2 : Int32) (L : gL) (V : gV) {z : Unit × gV} (h : D_M_bring h0 p1 p2 L V = some z) : g_Met l E base base y_M_bring b_M_bring 3 none rm_M_bring [tR (some h0), tI p1, tI p2] L V none L z.2 :=
  r_enter R_M (by decide) rfl [tR (some h0), tI p1, tI p2] [(0, tR (some h0)), (1, tI p1), (2, tI p2)] rfl (Nat.le_of_ble_eq_true rfl) (fun p e s m args below meth c C hr hnm => t_M_bring_0 C hr h0 p1 p2 V h)
def rm_M_hasOutput : Room := { frames := 1, cells := 0, slots := 0, locals := 21 }
def D_M_hasOutput (h0 : Nat) (p1 : Int32) (L : gL) (V : gV) : Option (Int32 × gV) :=
  Option.bind (g_rR L V 4 h0 12) fun x1 =>
    Option.bind x1 fun a2 =>
    Option.bind (g_aI L V 100 a2 p1) fun x3 =>
    (if x3 ≤ 0 then
    some ((0 : Int32), V)
  else
    Option.bind (g_rR L V 4 h0 13) fun x4 =>
    g_b2 (D_M_record4 p1 (0 : Int32) L V) fun r5 V6 =>
    Option.bind x4 fun a7 =>
    Option.bind (g_aI L V6 100 a7 r5) fun x8 =>
    (if x8 = (-1 : Int32) then
    some ((1 : Int32), V6)
  else
    some ((0 : Int32), V6)))
set_option maxHeartbeats 4000000 in
set_option maxRecDepth 100000 in
theorem t_M_hasOutput_0 (C : gC E bA p s m args meth c b_M_hasOutput R_M 2) (hr : meth.sig.returnType = (some .boolean)) {z : Int32 × gV} (h0 : Nat) (p1 : Int32) (V : gV) (h : D_M_hasOutput h0 p1 L V = some z) : vW E base bA 2 p l e rm_M_hasOutput s m args below meth c 0 0 (g_MQ E base bA below args s 0 0 L z.2 (some (tI z.1))) L V 0 [(0, tR (some h0)), (1, tI p1)] [] := by
  unfold D_M_hasOutput at h
  refine r_aload_n (x := (some h0)) C d_M_hasOutput_0 rfl rfl ?_
  replace h := g_ob h; obtain ⟨x1, e_x1, h⟩ := h
  refine r_getR C f_M_39 d_M_hasOutput_1 e_x1 ?_
  refine r_iload_n (x := p1) C d_M_hasOutput_4 rfl rfl ?_
  replace h := g_ob h; obtain ⟨a2, rfl, h⟩ := h
  replace h := g_ob h; obtain ⟨x3, e_x3, h⟩ := h
  refine r_iald C ak_100 d_M_hasOutput_5 e_x3 ?_
  refine r_if_le C 27 d_M_hasOutput_6 (by decide) (fun c10 => ?_) (fun c10 => ?_)
  · rw [if_pos c10] at h
    refine r_iconst C (0 : Int32) d_M_hasOutput_27 (by decide) ?_
    cases h
    exact r_zret C hr d_M_hasOutput_28 (Or.inl rfl)
  · rw [if_neg c10] at h
    refine r_aload_n (x := (some h0)) C d_M_hasOutput_9 rfl rfl ?_
    replace h := g_ob h; obtain ⟨x4, e_x4, h⟩ := h
    refine r_getR C f_M_42 d_M_hasOutput_10 e_x4 ?_
    refine r_iload_n (x := p1) C d_M_hasOutput_13 rfl rfl ?_
    refine r_iconst C (0 : Int32) d_M_hasOutput_14 (by decide) ?_
    replace h := g_o2 h; obtain ⟨r5, V6, e_r5, h⟩ := h
    refine r_callS (As := [tI p1, tI (0 : Int32)]) C k_M_93 w_264 w_262 (c_M_record4 l E base bA p1 (0 : Int32) L V e_r5) d_M_hasOutput_15 rfl ⟨Nat.le_of_ble_eq_true rfl, Nat.le_of_ble_eq_true rfl⟩ (Nat.le_of_ble_eq_true rfl) (Nat.le_of_ble_eq_true rfl) (Nat.le_of_ble_eq_true rfl) rfl ?_
    replace h := g_ob h; obtain ⟨a7, rfl, h⟩ := h
    replace h := g_ob h; obtain ⟨x8, e_x8, h⟩ := h
    refine r_iald C ak_100 d_M_hasOutput_18 e_x8 ?_
    refine r_iconst C (-1 : Int32) d_M_hasOutput_19 (by decide) ?_
    refine r_icmp_ne C 27 d_M_hasOutput_20 (by decide) (fun c9 => ?_) (fun c9 => ?_)
    · rw [if_neg c9] at h
      refine r_iconst C (0 : Int32) d_M_hasOutput_27 (by decide) ?_
      cases h
      exact r_zret C hr d_M_hasOutput_28 (Or.inl rfl)
    · rw [if_pos c9] at h
      refine r_iconst C (1 : Int32) d_M_hasOutput_23 (by decide) ?_
      refine r_goto C 28 d_M_hasOutput_24 (by decide) ?_
      cases h
      exact r_zret C hr d_M_hasOutput_28 (Or.inr rfl)
theorem c_M_hasOutput (l : Launch) (E : gE) (base bA : Nat) (h0 : Nat) (p1 : Int32) (L : gL) (V : gV) {z : Int32 × gV} (h : D_M_hasOutput h0 p1 L V = some z) : g_Met l E base bA y_M_hasOutput b_M_hasOutput 2 (some .boolean) rm_M_hasOutput [tR (some h0), tI p1] L V (some (tI z.1)) L z.2 :=
  r_enter R_M (by decide) rfl [tR (some h0), tI p1] [(0, tR (some h0)), (1, tI p1)] rfl (Nat.le_of_ble_eq_true rfl) (fun p e s m args below meth c C hr hnm => t_M_hasOutput_0 C hr h0 p1 V h)
def rm_M_take : Room := { frames := 1, cells := 0, slots := 0, locals := 22 }
def D_M_take_106 (L : gL) (K7 : Nat → Int32 → Int32 → gV → Option (Unit × gV)) (K35 : Nat → Int32 → Int32 → Int32 → gV → Option (Unit × gV)) (K46 : Nat → Int32 → Int32 → Int32 → Int32 → gV → Option (Unit × gV)) (v0 : Nat) (v1 : Int32) (v2 : Int32) (v3 : Int32) (v4 : Int32) (s0 : Int32) (s1 : Option Nat) (V : gV) : Option (Unit × gV) :=
  Option.bind s1 fun a1 =>
    Option.bind (g_wa L V 102 a1 s0 (tI (1 : Int32))) fun V2 =>
    K46 v0 v1 v2 v3 (v4 + (1 : Int32)) V2
def D_M_take_46 (L : gL) (K7 : Nat → Int32 → Int32 → gV → Option (Unit × gV)) (K35 : Nat → Int32 → Int32 → Int32 → gV → Option (Unit × gV)) : Nat → Nat → Int32 → Int32 → Int32 → Int32 → gV → Option (Unit × gV)
  | 0, _, _, _, _, _, _ => none
  | n + 1, v0, v1, v2, v3, v4, V =>
  Option.bind (g_rR L V 4 v0 9) fun x1 =>
    Option.bind x1 fun a2 =>
    Option.bind (g_aI L V 100 a2 v3) fun x3 =>
    (if x3 ≤ v4 then
    K35 v0 v1 v2 (v3 + (1 : Int32)) V
  else
    Option.bind (g_rR L V 4 v0 21) fun x4 =>
    Option.bind (g_rR L V 4 v0 21) fun x5 =>
    Option.bind x5 fun a6 =>
    Option.bind (g_aI L V 102 a6 v2) fun x7 =>
    (if x7 = 0 then
    Option.bind (g_rR L V 4 v0 21) fun x8 =>
    Option.bind x8 fun a9 =>
    Option.bind (g_aI L V 102 a9 v3) fun x10 =>
    (if x10 = 0 then
    Option.bind x4 fun a11 =>
    Option.bind (g_wa L V 102 a11 v2 (tI (0 : Int32))) fun V12 =>
    D_M_take_46 L K7 K35 n v0 v1 v2 v3 (v4 + (1 : Int32)) V12
  else
    Option.bind ((L).2 4 v0) fun n24 =>
    g_b2 (D_M_isFileRead v0 v3 v4 L V) fun r13 V14 =>
    (if r13 = 0 then
    Option.bind (g_rR L V14 4 v0 10) fun x17 =>
    Option.bind x17 fun a18 =>
    Option.bind (g_aI L V14 100 a18 (((6 : Int32) * v3) + v4)) fun x19 =>
    (if x19 = v2 then
    D_M_take_106 L K7 K35 (D_M_take_46 L K7 K35 n) v0 v1 v2 v3 v4 v2 x4 V14
  else
    Option.bind x4 fun a20 =>
    Option.bind (g_wa L V14 102 a20 v2 (tI (0 : Int32))) fun V21 =>
    D_M_take_46 L K7 K35 n v0 v1 v2 v3 (v4 + (1 : Int32)) V21)
  else
    Option.bind x4 fun a15 =>
    Option.bind (g_wa L V14 102 a15 v2 (tI (0 : Int32))) fun V16 =>
    D_M_take_46 L K7 K35 n v0 v1 v2 v3 (v4 + (1 : Int32)) V16))
  else
    D_M_take_106 L K7 K35 (D_M_take_46 L K7 K35 n) v0 v1 v2 v3 v4 v2 x4 V))
def D_M_take_35 (L : gL) (K7 : Nat → Int32 → Int32 → gV → Option (Unit × gV)) : Nat → Nat → Int32 → Int32 → Int32 → gV → Option (Unit × gV)
  | 0, _, _, _, _, _ => none
  | n + 1, v0, v1, v2, v3, V =>
  Option.bind (g_rI L V 4 v0 2) fun x1 =>
    (if x1 ≤ v3 then
    K7 v0 v1 (v2 + (-1 : Int32)) V
  else
    D_M_take_46 L K7 (D_M_take_35 L K7 n) 1000 v0 v1 v2 v3 (0 : Int32) V)
def D_M_take_7 (L : gL) : Nat → Nat → Int32 → Int32 → gV → Option (Unit × gV)
  | 0, _, _, _, _ => none
  | n + 1, v0, v1, v2, V =>
  (if v2 < 0 then
    some ((), V)
  else
    Option.bind (g_rR L V 4 v0 21) fun x1 =>
    (if ((v1 >>> (v2 &&& 31)) &&& (1 : Int32)) = (1 : Int32) then
    Option.bind x1 fun a4 =>
    Option.bind (g_wa L V 102 a4 v2 (tI (1 : Int32))) fun V5 =>
    D_M_take_35 L (D_M_take_7 L  n) 1000 v0 v1 v2 (v2 + (1 : Int32)) V5
  else
    Option.bind x1 fun a2 =>
    Option.bind (g_wa L V 102 a2 v2 (tI (0 : Int32))) fun V3 =>
    D_M_take_35 L (D_M_take_7 L  n) 1000 v0 v1 v2 (v2 + (1 : Int32)) V3))
def D_M_take (h0 : Nat) (p1 : Int32) (L : gL) (V : gV) : Option (Unit × gV) :=
  Option.bind (g_rI L V 4 h0 2) fun x1 =>
    D_M_take_7 L  1000 h0 p1 (x1 - (1 : Int32)) V
set_option maxHeartbeats 4000000 in
set_option maxRecDepth 100000 in
theorem t_M_take_106 (C : gC E base p s m args meth c b_M_take R_M 5) (hr : meth.sig.returnType = none) {z : Unit × gV} (K7 : Nat → Int32 → Int32 → gV → Option (Unit × gV)) (hK7 : ∀ (v0 : Nat) (v1 : Int32) (v2 : Int32) (V : gV), K7 v0 v1 v2 V = some z → vW E base base 5 p l e rm_M_take s m args below meth c 0 0 (g_MQ E base base below args s 0 0 L z.2 none) L V 7 [(0, tR (some v0)), (1, tI v1), (2, tI v2)] []) (K35 : Nat → Int32 → Int32 → Int32 → gV → Option (Unit × gV)) (hK35 : ∀ (v0 : Nat) (v1 : Int32) (v2 : Int32) (v3 : Int32) (V : gV), K35 v0 v1 v2 v3 V = some z → vW E base base 5 p l e rm_M_take s m args below meth c 0 0 (g_MQ E base base below args s 0 0 L z.2 none) L V 35 [(0, tR (some v0)), (1, tI v1), (2, tI v2), (3, tI v3)] []) (K46 : Nat → Int32 → Int32 → Int32 → Int32 → gV → Option (Unit × gV)) (hK46 : ∀ (v0 : Nat) (v1 : Int32) (v2 : Int32) (v3 : Int32) (v4 : Int32) (V : gV), K46 v0 v1 v2 v3 v4 V = some z → vW E base base 5 p l e rm_M_take s m args below meth c 0 0 (g_MQ E base base below args s 0 0 L z.2 none) L V 46 [(0, tR (some v0)), (1, tI v1), (2, tI v2), (3, tI v3), (4, tI v4)] []) (v0 : Nat) (v1 : Int32) (v2 : Int32) (v3 : Int32) (v4 : Int32) (s0 : Int32) (s1 : Option Nat) (V : gV) (h : D_M_take_106 L K7 K35 K46 v0 v1 v2 v3 v4 s0 s1 V = some z) : vW E base base 5 p l e rm_M_take s m args below meth c 0 0 (g_MQ E base base below args s 0 0 L z.2 none) L V 106 [(0, tR (some v0)), (1, tI v1), (2, tI v2), (3, tI v3), (4, tI v4)] [tI s0, tR s1] := by
  unfold D_M_take_106 at h
  refine r_iconst C (1 : Int32) d_M_take_106 (by decide) ?_
  refine r_goto C 111 d_M_take_107 (by decide) ?_
  replace h := g_ob h; obtain ⟨a1, rfl, h⟩ := h
  replace h := g_ob h; obtain ⟨V2, e_V2, h⟩ := h
  refine r_zast C ak_102 d_M_take_111 (Or.inr rfl) e_V2 ?_
  refine r_iinc (x := v4) (v := v4 + (1 : Int32)) (lv' := [(4, tI (v4 + (1 : Int32))), (0, tR (some v0)), (1, tI v1), (2, tI v2), (3, tI v3)]) C d_M_take_112 rfl rfl (by decide) rfl ?_
  refine r_goto C 46 d_M_take_115 (by decide) ?_
  refine r_lv [1, 2, 3, 4, 0] rfl ?_
  exact hK46 v0 v1 v2 v3 (v4 + (1 : Int32)) V2 h
set_option maxHeartbeats 4000000 in
set_option maxRecDepth 100000 in
theorem t_M_take_46 (C : gC E base p s m args meth c b_M_take R_M 5) (hr : meth.sig.returnType = none) {z : Unit × gV} (K7 : Nat → Int32 → Int32 → gV → Option (Unit × gV)) (hK7 : ∀ (v0 : Nat) (v1 : Int32) (v2 : Int32) (V : gV), K7 v0 v1 v2 V = some z → vW E base base 5 p l e rm_M_take s m args below meth c 0 0 (g_MQ E base base below args s 0 0 L z.2 none) L V 7 [(0, tR (some v0)), (1, tI v1), (2, tI v2)] []) (K35 : Nat → Int32 → Int32 → Int32 → gV → Option (Unit × gV)) (hK35 : ∀ (v0 : Nat) (v1 : Int32) (v2 : Int32) (v3 : Int32) (V : gV), K35 v0 v1 v2 v3 V = some z → vW E base base 5 p l e rm_M_take s m args below meth c 0 0 (g_MQ E base base below args s 0 0 L z.2 none) L V 35 [(0, tR (some v0)), (1, tI v1), (2, tI v2), (3, tI v3)] []) : ∀ (n : Nat) (v0 : Nat) (v1 : Int32) (v2 : Int32) (v3 : Int32) (v4 : Int32) (V : gV), D_M_take_46 L K7 K35 n v0 v1 v2 v3 v4 V = some z → vW E base base 5 p l e rm_M_take s m args below meth c 0 0 (g_MQ E base base below args s 0 0 L z.2 none) L V 46 [(0, tR (some v0)), (1, tI v1), (2, tI v2), (3, tI v3), (4, tI v4)] [] := by
  intro n
  induction n with
  | zero =>
    intro v0 v1 v2 v3 v4 V h
    rw [D_M_take_46] at h
    cases h
  | succ n ih =>
    intro v0 v1 v2 v3 v4 V h
    rw [D_M_take_46] at h
    refine r_iload (x := v4) C d_M_take_46 rfl ?_
    refine r_aload_n (x := (some v0)) C d_M_take_48 rfl rfl ?_
    replace h := g_ob h; obtain ⟨x1, e_x1, h⟩ := h
    refine r_getR C f_M_30 d_M_take_49 e_x1 ?_
    refine r_iload_n (x := v3) C d_M_take_52 rfl rfl ?_
    replace h := g_ob h; obtain ⟨a2, rfl, h⟩ := h
    replace h := g_ob h; obtain ⟨x3, e_x3, h⟩ := h
    refine r_iald C ak_100 d_M_take_53 e_x3 ?_
    refine r_icmp_ge C 118 d_M_take_54 (by decide) (fun c27 => ?_) (fun c27 => ?_)
    · rw [if_pos c27] at h
      refine r_iinc (x := v3) (v := v3 + (1 : Int32)) (lv' := [(3, tI (v3 + (1 : Int32))), (0, tR (some v0)), (1, tI v1), (2, tI v2), (4, tI v4)]) C d_M_take_118 rfl rfl (by decide) rfl ?_
      refine r_goto C 35 d_M_take_121 (by decide) ?_
      refine r_lv [1, 2, 3, 0] rfl ?_
      exact hK35 v0 v1 v2 (v3 + (1 : Int32)) V h
    · rw [if_neg c27] at h
      refine r_aload_n (x := (some v0)) C d_M_take_57 rfl rfl ?_
      replace h := g_ob h; obtain ⟨x4, e_x4, h⟩ := h
      refine r_getR C f_M_66 d_M_take_58 e_x4 ?_
      refine r_iload_n (x := v2) C d_M_take_61 rfl rfl ?_
      refine r_aload_n (x := (some v0)) C d_M_take_62 rfl rfl ?_
      replace h := g_ob h; obtain ⟨x5, e_x5, h⟩ := h
      refine r_getR C f_M_66 d_M_take_63 e_x5 ?_
      refine r_iload_n (x := v2) C d_M_take_66 rfl rfl ?_
      replace h := g_ob h; obtain ⟨a6, rfl, h⟩ := h
      replace h := g_ob h; obtain ⟨x7, e_x7, h⟩ := h
      refine r_zald C ak_102 d_M_take_67 e_x7 ?_
      refine r_if_ne C 106 d_M_take_68 (by decide) (fun c26 => ?_) (fun c26 => ?_)
      · rw [if_neg c26] at h
        exact t_M_take_106 C hr K7 hK7 K35 hK35 (D_M_take_46 L K7 K35 n) ih v0 v1 v2 v3 v4 v2 x4 V h
      · rw [if_pos c26] at h
        refine r_aload_n (x := (some v0)) C d_M_take_71 rfl rfl ?_
        replace h := g_ob h; obtain ⟨x8, e_x8, h⟩ := h
        refine r_getR C f_M_66 d_M_take_72 e_x8 ?_
        refine r_iload_n (x := v3) C d_M_take_75 rfl rfl ?_
        replace h := g_ob h; obtain ⟨a9, rfl, h⟩ := h
        replace h := g_ob h; obtain ⟨x10, e_x10, h⟩ := h
        refine r_zald C ak_102 d_M_take_76 e_x10 ?_
        refine r_if_eq C 110 d_M_take_77 (by decide) (fun c25 => ?_) (fun c25 => ?_)
        · rw [if_pos c25] at h
          refine r_iconst C (0 : Int32) d_M_take_110 (by decide) ?_
          replace h := g_ob h; obtain ⟨a11, rfl, h⟩ := h
          replace h := g_ob h; obtain ⟨V12, e_V12, h⟩ := h
          refine r_zast C ak_102 d_M_take_111 (Or.inl rfl) e_V12 ?_
          refine r_iinc (x := v4) (v := v4 + (1 : Int32)) (lv' := [(4, tI (v4 + (1 : Int32))), (0, tR (some v0)), (1, tI v1), (2, tI v2), (3, tI v3)]) C d_M_take_112 rfl rfl (by decide) rfl ?_
          refine r_goto C 46 d_M_take_115 (by decide) ?_
          refine r_lv [1, 2, 3, 4, 0] rfl ?_
          exact ih v0 v1 v2 v3 (v4 + (1 : Int32)) V12 h
        · rw [if_neg c25] at h
          refine r_aload_n (x := (some v0)) C d_M_take_80 rfl rfl ?_
          refine r_iload_n (x := v3) C d_M_take_81 rfl rfl ?_
          refine r_iload (x := v4) C d_M_take_82 rfl ?_
          replace h := g_ob h; obtain ⟨n24, e_n24, h⟩ := h
          replace h := g_o2 h; obtain ⟨r13, V14, e_r13, h⟩ := h
          refine r_callV (As := [tI v3, tI v4]) C k_M_97 w_271 w_272 w_265 ⟨_, _, rfl⟩ (c_M_isFileRead l E base base v0 v3 v4 L V e_r13) d_M_take_84 e_n24 rfl ⟨Nat.le_of_ble_eq_true rfl, Nat.le_of_ble_eq_true rfl⟩ (Nat.le_of_ble_eq_true rfl) (Nat.le_of_ble_eq_true rfl) (Nat.le_of_ble_eq_true rfl) rfl ?_
          refine r_if_ne C 110 d_M_take_87 (by decide) (fun c23 => ?_) (fun c23 => ?_)
          · rw [if_neg c23] at h
            refine r_iconst C (0 : Int32) d_M_take_110 (by decide) ?_
            replace h := g_ob h; obtain ⟨a15, rfl, h⟩ := h
            replace h := g_ob h; obtain ⟨V16, e_V16, h⟩ := h
            refine r_zast C ak_102 d_M_take_111 (Or.inl rfl) e_V16 ?_
            refine r_iinc (x := v4) (v := v4 + (1 : Int32)) (lv' := [(4, tI (v4 + (1 : Int32))), (0, tR (some v0)), (1, tI v1), (2, tI v2), (3, tI v3)]) C d_M_take_112 rfl rfl (by decide) rfl ?_
            refine r_goto C 46 d_M_take_115 (by decide) ?_
            refine r_lv [1, 2, 3, 4, 0] rfl ?_
            exact ih v0 v1 v2 v3 (v4 + (1 : Int32)) V16 h
          · rw [if_pos c23] at h
            refine r_aload_n (x := (some v0)) C d_M_take_90 rfl rfl ?_
            replace h := g_ob h; obtain ⟨x17, e_x17, h⟩ := h
            refine r_getR C f_M_33 d_M_take_91 e_x17 ?_
            refine r_bipush C (6 : Int32) d_M_take_94 (by decide) ?_
            refine r_iload_n (x := v3) C d_M_take_96 rfl rfl ?_
            refine r_imul C d_M_take_97 ?_
            refine r_iload (x := v4) C d_M_take_98 rfl ?_
            refine r_iadd C d_M_take_100 ?_
            replace h := g_ob h; obtain ⟨a18, rfl, h⟩ := h
            replace h := g_ob h; obtain ⟨x19, e_x19, h⟩ := h
            refine r_iald C ak_100 d_M_take_101 e_x19 ?_
            refine r_iload_n (x := v2) C d_M_take_102 rfl rfl ?_
            refine r_icmp_ne C 110 d_M_take_103 (by decide) (fun c22 => ?_) (fun c22 => ?_)
            · rw [if_neg c22] at h
              refine r_iconst C (0 : Int32) d_M_take_110 (by decide) ?_
              replace h := g_ob h; obtain ⟨a20, rfl, h⟩ := h
              replace h := g_ob h; obtain ⟨V21, e_V21, h⟩ := h
              refine r_zast C ak_102 d_M_take_111 (Or.inl rfl) e_V21 ?_
              refine r_iinc (x := v4) (v := v4 + (1 : Int32)) (lv' := [(4, tI (v4 + (1 : Int32))), (0, tR (some v0)), (1, tI v1), (2, tI v2), (3, tI v3)]) C d_M_take_112 rfl rfl (by decide) rfl ?_
              refine r_goto C 46 d_M_take_115 (by decide) ?_
              refine r_lv [1, 2, 3, 4, 0] rfl ?_
              exact ih v0 v1 v2 v3 (v4 + (1 : Int32)) V21 h
            · rw [if_pos c22] at h
              exact t_M_take_106 C hr K7 hK7 K35 hK35 (D_M_take_46 L K7 K35 n) ih v0 v1 v2 v3 v4 v2 x4 V14 h
set_option maxHeartbeats 4000000 in
set_option maxRecDepth 100000 in
theorem t_M_take_35 (C : gC E base p s m args meth c b_M_take R_M 5) (hr : meth.sig.returnType = none) {z : Unit × gV} (K7 : Nat → Int32 → Int32 → gV → Option (Unit × gV)) (hK7 : ∀ (v0 : Nat) (v1 : Int32) (v2 : Int32) (V : gV), K7 v0 v1 v2 V = some z → vW E base base 5 p l e rm_M_take s m args below meth c 0 0 (g_MQ E base base below args s 0 0 L z.2 none) L V 7 [(0, tR (some v0)), (1, tI v1), (2, tI v2)] []) : ∀ (n : Nat) (v0 : Nat) (v1 : Int32) (v2 : Int32) (v3 : Int32) (V : gV), D_M_take_35 L K7 n v0 v1 v2 v3 V = some z → vW E base base 5 p l e rm_M_take s m args below meth c 0 0 (g_MQ E base base below args s 0 0 L z.2 none) L V 35 [(0, tR (some v0)), (1, tI v1), (2, tI v2), (3, tI v3)] [] := by
  intro n
  induction n with
  | zero =>
    intro v0 v1 v2 v3 V h
    rw [D_M_take_35] at h
    cases h
  | succ n ih =>
    intro v0 v1 v2 v3 V h
    rw [D_M_take_35] at h
    refine r_iload_n (x := v3) C d_M_take_35 rfl rfl ?_
    refine r_aload_n (x := (some v0)) C d_M_take_36 rfl rfl ?_
    replace h := g_ob h; obtain ⟨x1, e_x1, h⟩ := h
    refine r_getI C f_M_79 d_M_take_37 e_x1 ?_
    refine r_icmp_ge C 124 d_M_take_40 (by decide) (fun c2 => ?_) (fun c2 => ?_)
    · rw [if_pos c2] at h
      refine r_iinc (x := v2) (v := v2 + (-1 : Int32)) (lv' := [(2, tI (v2 + (-1 : Int32))), (0, tR (some v0)), (1, tI v1), (3, tI v3)]) C d_M_take_124 rfl rfl (by decide) rfl ?_
      refine r_goto C 7 d_M_take_127 (by decide) ?_
      refine r_lv [1, 2, 0] rfl ?_
      exact hK7 v0 v1 (v2 + (-1 : Int32)) V h
    · rw [if_neg c2] at h
      refine r_iconst C (0 : Int32) d_M_take_43 (by decide) ?_
      refine r_istore (lv' := [(4, tI (0 : Int32)), (0, tR (some v0)), (1, tI v1), (2, tI v2), (3, tI v3)]) C d_M_take_44 (by decide) rfl ?_
      refine r_lv [1, 2, 3, 4, 0] rfl ?_
      exact t_M_take_46 C hr K7 hK7 (D_M_take_35 L K7 n) ih 1000 v0 v1 v2 v3 (0 : Int32) V h
set_option maxHeartbeats 4000000 in
set_option maxRecDepth 100000 in
theorem t_M_take_7 (C : gC E base p s m args meth c b_M_take R_M 5) (hr : meth.sig.returnType = none) {z : Unit × gV} : ∀ (n : Nat) (v0 : Nat) (v1 : Int32) (v2 : Int32) (V : gV), D_M_take_7 L  n v0 v1 v2 V = some z → vW E base base 5 p l e rm_M_take s m args below meth c 0 0 (g_MQ E base base below args s 0 0 L z.2 none) L V 7 [(0, tR (some v0)), (1, tI v1), (2, tI v2)] [] := by
  intro n
  induction n with
  | zero =>
    intro v0 v1 v2 V h
    rw [D_M_take_7] at h
    cases h
  | succ n ih =>
    intro v0 v1 v2 V h
    rw [D_M_take_7] at h
    refine r_iload_n (x := v2) C d_M_take_7 rfl rfl ?_
    refine r_if_lt C 130 d_M_take_8 (by decide) (fun c7 => ?_) (fun c7 => ?_)
    · rw [if_pos c7] at h
      cases h
      exact r_vret C hr d_M_take_130
    · rw [if_neg c7] at h
      refine r_aload_n (x := (some v0)) C d_M_take_11 rfl rfl ?_
      replace h := g_ob h; obtain ⟨x1, e_x1, h⟩ := h
      refine r_getR C f_M_66 d_M_take_12 e_x1 ?_
      refine r_iload_n (x := v2) C d_M_take_15 rfl rfl ?_
      refine r_iload_n (x := v1) C d_M_take_16 rfl rfl ?_
      refine r_iload_n (x := v2) C d_M_take_17 rfl rfl ?_
      refine r_ishr C d_M_take_18 ?_
      refine r_iconst C (1 : Int32) d_M_take_19 (by decide) ?_
      refine r_iand C d_M_take_20 ?_
      refine r_iconst C (1 : Int32) d_M_take_21 (by decide) ?_
      refine r_icmp_ne C 29 d_M_take_22 (by decide) (fun c6 => ?_) (fun c6 => ?_)
      · rw [if_neg c6] at h
        refine r_iconst C (0 : Int32) d_M_take_29 (by decide) ?_
        replace h := g_ob h; obtain ⟨a2, rfl, h⟩ := h
        replace h := g_ob h; obtain ⟨V3, e_V3, h⟩ := h
        refine r_zast C ak_102 d_M_take_30 (Or.inl rfl) e_V3 ?_
        refine r_iload_n (x := v2) C d_M_take_31 rfl rfl ?_
        refine r_iconst C (1 : Int32) d_M_take_32 (by decide) ?_
        refine r_iadd C d_M_take_33 ?_
        refine r_istore_n (lv' := [(3, tI (v2 + (1 : Int32))), (0, tR (some v0)), (1, tI v1), (2, tI v2)]) C d_M_take_34 rfl (by decide) rfl ?_
        refine r_lv [1, 2, 3, 0] rfl ?_
        exact t_M_take_35 C hr (D_M_take_7 L  n) ih 1000 v0 v1 v2 (v2 + (1 : Int32)) V3 h
      · rw [if_pos c6] at h
        refine r_iconst C (1 : Int32) d_M_take_25 (by decide) ?_
        refine r_goto C 30 d_M_take_26 (by decide) ?_
        replace h := g_ob h; obtain ⟨a4, rfl, h⟩ := h
        replace h := g_ob h; obtain ⟨V5, e_V5, h⟩ := h
        refine r_zast C ak_102 d_M_take_30 (Or.inr rfl) e_V5 ?_
        refine r_iload_n (x := v2) C d_M_take_31 rfl rfl ?_
        refine r_iconst C (1 : Int32) d_M_take_32 (by decide) ?_
        refine r_iadd C d_M_take_33 ?_
        refine r_istore_n (lv' := [(3, tI (v2 + (1 : Int32))), (0, tR (some v0)), (1, tI v1), (2, tI v2)]) C d_M_take_34 rfl (by decide) rfl ?_
        refine r_lv [1, 2, 3, 0] rfl ?_
        exact t_M_take_35 C hr (D_M_take_7 L  n) ih 1000 v0 v1 v2 (v2 + (1 : Int32)) V5 h
set_option maxHeartbeats 4000000 in
set_option maxRecDepth 100000 in
theorem t_M_take_0 (C : gC E base p s m args meth c b_M_take R_M 5) (hr : meth.sig.returnType = none) {z : Unit × gV} (h0 : Nat) (p1 : Int32) (V : gV) (h : D_M_take h0 p1 L V = some z) : vW E base base 5 p l e rm_M_take s m args below meth c 0 0 (g_MQ E base base below args s 0 0 L z.2 none) L V 0 [(0, tR (some h0)), (1, tI p1)] [] := by
  unfold D_M_take at h
  refine r_aload_n (x := (some h0)) C d_M_take_0 rfl rfl ?_
  replace h := g_ob h; obtain ⟨x1, e_x1, h⟩ := h
  refine r_getI C f_M_79 d_M_take_1 e_x1 ?_
  refine r_iconst C (1 : Int32) d_M_take_4 (by decide) ?_
  refine r_isub C d_M_take_5 ?_
  refine r_istore_n (lv' := [(2, tI (x1 - (1 : Int32))), (0, tR (some h0)), (1, tI p1)]) C d_M_take_6 rfl (by decide) rfl ?_
  refine r_lv [1, 2, 0] rfl ?_
  exact t_M_take_7 C hr  1000 h0 p1 (x1 - (1 : Int32)) V h
theorem c_M_take (l : Launch) (E : gE) (base : Nat) (h0 : Nat) (p1 : Int32) (L : gL) (V : gV) {z : Unit × gV} (h : D_M_take h0 p1 L V = some z) : g_Met l E base base y_M_take b_M_take 5 none rm_M_take [tR (some h0), tI p1] L V none L z.2 :=
  r_enter R_M (by decide) rfl [tR (some h0), tI p1] [(0, tR (some h0)), (1, tI p1)] rfl (Nat.le_of_ble_eq_true rfl) (fun p e s m args below meth c C hr hnm => t_M_take_0 C hr h0 p1 V h)
def rm_M_mark : Room := { frames := 4, cells := 0, slots := 0, locals := 90 }
def D_M_mark_124 (L : gL) (K2 : Nat → Int32 → gV → Option (Unit × gV)) (K50 : Nat → Int32 → Int32 → gV → Option (Unit × gV)) (v0 : Nat) (v1 : Int32) (v2 : Int32) (s0 : Int32) (s1 : Option Nat) (V : gV) : Option (Unit × gV) :=
  Option.bind s1 fun a1 =>
    Option.bind (g_wa L V 102 a1 s0 (tI (1 : Int32))) fun V2 =>
    K50 v0 v1 (v2 + (1 : Int32)) V2
def D_M_mark_136 (L : gL) (K2 : Nat → Int32 → gV → Option (Unit × gV)) (v0 : Nat) (v1 : Int32) (V : gV) : Option (Unit × gV) :=
  Option.bind (g_rR L V 4 v0 19) fun x1 =>
    Option.bind x1 fun a2 =>
    Option.bind (g_aI L V 100 a2 (4 : Int32)) fun x3 =>
    Option.bind (g_rR L V 4 v0 22) fun x4 =>
    Option.bind x4 fun a5 =>
    Option.bind (g_aI L V 102 a5 v1) fun x6 =>
    (if x6 = 0 then
    Option.bind (g_wa L V 100 a2 (4 : Int32) (tI (x3 + (0 : Int32)))) fun V7 =>
    K2 v0 (v1 + (1 : Int32)) V7
  else
    Option.bind (g_wa L V 100 a2 (4 : Int32) (tI (x3 + (1 : Int32)))) fun V8 =>
    K2 v0 (v1 + (1 : Int32)) V8)
def D_M_mark_50 (L : gL) (K2 : Nat → Int32 → gV → Option (Unit × gV)) : Nat → Nat → Int32 → Int32 → gV → Option (Unit × gV)
  | 0, _, _, _, _ => none
  | n + 1, v0, v1, v2, V =>
  Option.bind (g_rR L V 4 v0 9) fun x1 =>
    Option.bind x1 fun a2 =>
    Option.bind (g_aI L V 100 a2 v1) fun x3 =>
    (if x3 ≤ v2 then
    D_M_mark_136 L K2 v0 v1 V
  else
    Option.bind (g_rR L V 4 v0 21) fun x4 =>
    Option.bind x4 fun a5 =>
    Option.bind (g_aI L V 102 a5 v1) fun x6 =>
    (if x6 = 0 then
    D_M_mark_136 L K2 v0 v1 V
  else
    Option.bind (g_rR L V 4 v0 22) fun x7 =>
    Option.bind (g_rR L V 4 v0 22) fun x8 =>
    Option.bind x8 fun a9 =>
    Option.bind (g_aI L V 102 a9 v1) fun x10 =>
    (if x10 = 0 then
    Option.bind ((L).2 4 v0) fun n29 =>
    g_b2 (D_M_isFileRead v0 v1 v2 L V) fun r11 V12 =>
    (if r11 = 0 then
    Option.bind (g_rR L V12 4 v0 22) fun x13 =>
    Option.bind (g_rR L V12 4 v0 10) fun x14 =>
    Option.bind x14 fun a15 =>
    Option.bind (g_aI L V12 100 a15 (((6 : Int32) * v1) + v2)) fun x16 =>
    Option.bind x13 fun a17 =>
    Option.bind (g_aI L V12 102 a17 x16) fun x18 =>
    (if x18 = 0 then
    Option.bind x7 fun a19 =>
    Option.bind (g_wa L V12 102 a19 v1 (tI (0 : Int32))) fun V20 =>
    D_M_mark_50 L K2 n v0 v1 (v2 + (1 : Int32)) V20
  else
    D_M_mark_124 L K2 (D_M_mark_50 L K2 n) v0 v1 v2 v1 x7 V12)
  else
    Option.bind ((L).2 4 v0) fun n27 =>
    g_b2 (D_M_isAsWas v0 v1 (0 : Int32) v2 L V12) fun r22 V23 =>
    (if r22 = 0 then
    D_M_mark_124 L K2 (D_M_mark_50 L K2 n) v0 v1 v2 v1 x7 V23
  else
    Option.bind x7 fun a24 =>
    Option.bind (g_wa L V23 102 a24 v1 (tI (0 : Int32))) fun V25 =>
    D_M_mark_50 L K2 n v0 v1 (v2 + (1 : Int32)) V25))
  else
    D_M_mark_124 L K2 (D_M_mark_50 L K2 n) v0 v1 v2 v1 x7 V)))
def D_M_mark_42 (L : gL) (K2 : Nat → Int32 → gV → Option (Unit × gV)) (v0 : Nat) (v1 : Int32) (s0 : Int32) (s1 : Option Nat) (V : gV) : Option (Unit × gV) :=
  Option.bind s1 fun a1 =>
    Option.bind (g_wa L V 102 a1 s0 (tI (1 : Int32))) fun V2 =>
    D_M_mark_50 L K2 1000 v0 v1 (0 : Int32) V2
def D_M_mark_2 (L : gL) : Nat → Nat → Int32 → gV → Option (Unit × gV)
  | 0, _, _, _ => none
  | n + 1, v0, v1, V =>
  Option.bind (g_rI L V 4 v0 2) fun x1 =>
    (if x1 ≤ v1 then
    some ((), V)
  else
    Option.bind (g_rR L V 4 v0 22) fun x2 =>
    Option.bind (g_rR L V 4 v0 21) fun x3 =>
    Option.bind x3 fun a4 =>
    Option.bind (g_aI L V 102 a4 v1) fun x5 =>
    (if x5 = 0 then
    Option.bind x2 fun a6 =>
    Option.bind (g_wa L V 102 a6 v1 (tI (0 : Int32))) fun V7 =>
    D_M_mark_50 L (D_M_mark_2 L  n) 1000 v0 v1 (0 : Int32) V7
  else
    Option.bind (g_rR L V 4 v0 12) fun x8 =>
    Option.bind x8 fun a9 =>
    Option.bind (g_aI L V 100 a9 v1) fun x10 =>
    (if x10 = 0 then
    D_M_mark_42 L (D_M_mark_2 L  n) v0 v1 v1 x2 V
  else
    Option.bind (g_rR L V 4 v0 7) fun x11 =>
    Option.bind x11 fun a12 =>
    Option.bind (g_aI L V 102 a12 v1) fun x13 =>
    (if x13 = 0 then
    Option.bind x2 fun a14 =>
    Option.bind (g_wa L V 102 a14 v1 (tI (0 : Int32))) fun V15 =>
    D_M_mark_50 L (D_M_mark_2 L  n) 1000 v0 v1 (0 : Int32) V15
  else
    D_M_mark_42 L (D_M_mark_2 L  n) v0 v1 v1 x2 V))))
def D_M_mark (h0 : Nat) (L : gL) (V : gV) : Option (Unit × gV) :=
  D_M_mark_2 L  1000 h0 (0 : Int32) V
set_option maxHeartbeats 4000000 in
set_option maxRecDepth 100000 in
theorem t_M_mark_124 (C : gC E base p s m args meth c b_M_mark R_M 3) (hr : meth.sig.returnType = none) {z : Unit × gV} (K2 : Nat → Int32 → gV → Option (Unit × gV)) (hK2 : ∀ (v0 : Nat) (v1 : Int32) (V : gV), K2 v0 v1 V = some z → vW E base base 3 p l e rm_M_mark s m args below meth c 0 0 (g_MQ E base base below args s 0 0 L z.2 none) L V 2 [(0, tR (some v0)), (1, tI v1)] []) (K50 : Nat → Int32 → Int32 → gV → Option (Unit × gV)) (hK50 : ∀ (v0 : Nat) (v1 : Int32) (v2 : Int32) (V : gV), K50 v0 v1 v2 V = some z → vW E base base 3 p l e rm_M_mark s m args below meth c 0 0 (g_MQ E base base below args s 0 0 L z.2 none) L V 50 [(0, tR (some v0)), (1, tI v1), (2, tI v2)] []) (v0 : Nat) (v1 : Int32) (v2 : Int32) (s0 : Int32) (s1 : Option Nat) (V : gV) (h : D_M_mark_124 L K2 K50 v0 v1 v2 s0 s1 V = some z) : vW E base base 3 p l e rm_M_mark s m args below meth c 0 0 (g_MQ E base base below args s 0 0 L z.2 none) L V 124 [(0, tR (some v0)), (1, tI v1), (2, tI v2)] [tI s0, tR s1] := by
  unfold D_M_mark_124 at h
  refine r_iconst C (1 : Int32) d_M_mark_124 (by decide) ?_
  refine r_goto C 129 d_M_mark_125 (by decide) ?_
  replace h := g_ob h; obtain ⟨a1, rfl, h⟩ := h
  replace h := g_ob h; obtain ⟨V2, e_V2, h⟩ := h
  refine r_zast C ak_102 d_M_mark_129 (Or.inr rfl) e_V2 ?_
  refine r_iinc (x := v2) (v := v2 + (1 : Int32)) (lv' := [(2, tI (v2 + (1 : Int32))), (0, tR (some v0)), (1, tI v1)]) C d_M_mark_130 rfl rfl (by decide) rfl ?_
  refine r_goto C 50 d_M_mark_133 (by decide) ?_
  refine r_lv [1, 2, 0] rfl ?_
  exact hK50 v0 v1 (v2 + (1 : Int32)) V2 h
set_option maxHeartbeats 4000000 in
set_option maxRecDepth 100000 in
theorem t_M_mark_136 (C : gC E base p s m args meth c b_M_mark R_M 3) (hr : meth.sig.returnType = none) {z : Unit × gV} (K2 : Nat → Int32 → gV → Option (Unit × gV)) (hK2 : ∀ (v0 : Nat) (v1 : Int32) (V : gV), K2 v0 v1 V = some z → vW E base base 3 p l e rm_M_mark s m args below meth c 0 0 (g_MQ E base base below args s 0 0 L z.2 none) L V 2 [(0, tR (some v0)), (1, tI v1)] []) (v0 : Nat) (v1 : Int32) (V : gV) (h : D_M_mark_136 L K2 v0 v1 V = some z) : vW E base base 3 p l e rm_M_mark s m args below meth c 0 0 (g_MQ E base base below args s 0 0 L z.2 none) L V 136 [(0, tR (some v0)), (1, tI v1)] [] := by
  unfold D_M_mark_136 at h
  refine r_aload_n (x := (some v0)) C d_M_mark_136 rfl rfl ?_
  replace h := g_ob h; obtain ⟨x1, e_x1, h⟩ := h
  refine r_getR C f_M_60 d_M_mark_137 e_x1 ?_
  refine r_iconst C (4 : Int32) d_M_mark_140 (by decide) ?_
  refine r_dup2 C d_M_mark_141 rfl rfl ?_
  replace h := g_ob h; obtain ⟨a2, rfl, h⟩ := h
  replace h := g_ob h; obtain ⟨x3, e_x3, h⟩ := h
  refine r_iald C ak_100 d_M_mark_142 e_x3 ?_
  refine r_aload_n (x := (some v0)) C d_M_mark_143 rfl rfl ?_
  replace h := g_ob h; obtain ⟨x4, e_x4, h⟩ := h
  refine r_getR C f_M_69 d_M_mark_144 e_x4 ?_
  refine r_iload_n (x := v1) C d_M_mark_147 rfl rfl ?_
  replace h := g_ob h; obtain ⟨a5, rfl, h⟩ := h
  replace h := g_ob h; obtain ⟨x6, e_x6, h⟩ := h
  refine r_zald C ak_102 d_M_mark_148 e_x6 ?_
  refine r_if_eq C 156 d_M_mark_149 (by decide) (fun c9 => ?_) (fun c9 => ?_)
  · rw [if_pos c9] at h
    refine r_iconst C (0 : Int32) d_M_mark_156 (by decide) ?_
    refine r_iadd C d_M_mark_157 ?_
    replace h := g_ob h; obtain ⟨V7, e_V7, h⟩ := h
    refine r_iast C ak_100 d_M_mark_158 e_V7 ?_
    refine r_iinc (x := v1) (v := v1 + (1 : Int32)) (lv' := [(1, tI (v1 + (1 : Int32))), (0, tR (some v0))]) C d_M_mark_159 rfl rfl (by decide) rfl ?_
    refine r_goto C 2 d_M_mark_162 (by decide) ?_
    refine r_lv [1, 0] rfl ?_
    exact hK2 v0 (v1 + (1 : Int32)) V7 h
  · rw [if_neg c9] at h
    refine r_iconst C (1 : Int32) d_M_mark_152 (by decide) ?_
    refine r_goto C 157 d_M_mark_153 (by decide) ?_
    refine r_iadd C d_M_mark_157 ?_
    replace h := g_ob h; obtain ⟨V8, e_V8, h⟩ := h
    refine r_iast C ak_100 d_M_mark_158 e_V8 ?_
    refine r_iinc (x := v1) (v := v1 + (1 : Int32)) (lv' := [(1, tI (v1 + (1 : Int32))), (0, tR (some v0))]) C d_M_mark_159 rfl rfl (by decide) rfl ?_
    refine r_goto C 2 d_M_mark_162 (by decide) ?_
    refine r_lv [1, 0] rfl ?_
    exact hK2 v0 (v1 + (1 : Int32)) V8 h
set_option maxHeartbeats 4000000 in
set_option maxRecDepth 100000 in
theorem t_M_mark_50 (C : gC E base p s m args meth c b_M_mark R_M 3) (hr : meth.sig.returnType = none) {z : Unit × gV} (K2 : Nat → Int32 → gV → Option (Unit × gV)) (hK2 : ∀ (v0 : Nat) (v1 : Int32) (V : gV), K2 v0 v1 V = some z → vW E base base 3 p l e rm_M_mark s m args below meth c 0 0 (g_MQ E base base below args s 0 0 L z.2 none) L V 2 [(0, tR (some v0)), (1, tI v1)] []) : ∀ (n : Nat) (v0 : Nat) (v1 : Int32) (v2 : Int32) (V : gV), D_M_mark_50 L K2 n v0 v1 v2 V = some z → vW E base base 3 p l e rm_M_mark s m args below meth c 0 0 (g_MQ E base base below args s 0 0 L z.2 none) L V 50 [(0, tR (some v0)), (1, tI v1), (2, tI v2)] [] := by
  intro n
  induction n with
  | zero =>
    intro v0 v1 v2 V h
    rw [D_M_mark_50] at h
    cases h
  | succ n ih =>
    intro v0 v1 v2 V h
    rw [D_M_mark_50] at h
    refine r_iload_n (x := v2) C d_M_mark_50 rfl rfl ?_
    refine r_aload_n (x := (some v0)) C d_M_mark_51 rfl rfl ?_
    replace h := g_ob h; obtain ⟨x1, e_x1, h⟩ := h
    refine r_getR C f_M_30 d_M_mark_52 e_x1 ?_
    refine r_iload_n (x := v1) C d_M_mark_55 rfl rfl ?_
    replace h := g_ob h; obtain ⟨a2, rfl, h⟩ := h
    replace h := g_ob h; obtain ⟨x3, e_x3, h⟩ := h
    refine r_iald C ak_100 d_M_mark_56 e_x3 ?_
    refine r_icmp_ge C 136 d_M_mark_57 (by decide) (fun c32 => ?_) (fun c32 => ?_)
    · rw [if_pos c32] at h
      refine r_lv [0, 1] rfl ?_
      exact t_M_mark_136 C hr K2 hK2 v0 v1 V h
    · rw [if_neg c32] at h
      refine r_aload_n (x := (some v0)) C d_M_mark_60 rfl rfl ?_
      replace h := g_ob h; obtain ⟨x4, e_x4, h⟩ := h
      refine r_getR C f_M_66 d_M_mark_61 e_x4 ?_
      refine r_iload_n (x := v1) C d_M_mark_64 rfl rfl ?_
      replace h := g_ob h; obtain ⟨a5, rfl, h⟩ := h
      replace h := g_ob h; obtain ⟨x6, e_x6, h⟩ := h
      refine r_zald C ak_102 d_M_mark_65 e_x6 ?_
      refine r_if_eq C 136 d_M_mark_66 (by decide) (fun c31 => ?_) (fun c31 => ?_)
      · rw [if_pos c31] at h
        refine r_lv [0, 1] rfl ?_
        exact t_M_mark_136 C hr K2 hK2 v0 v1 V h
      · rw [if_neg c31] at h
        refine r_aload_n (x := (some v0)) C d_M_mark_69 rfl rfl ?_
        replace h := g_ob h; obtain ⟨x7, e_x7, h⟩ := h
        refine r_getR C f_M_69 d_M_mark_70 e_x7 ?_
        refine r_iload_n (x := v1) C d_M_mark_73 rfl rfl ?_
        refine r_aload_n (x := (some v0)) C d_M_mark_74 rfl rfl ?_
        replace h := g_ob h; obtain ⟨x8, e_x8, h⟩ := h
        refine r_getR C f_M_69 d_M_mark_75 e_x8 ?_
        refine r_iload_n (x := v1) C d_M_mark_78 rfl rfl ?_
        replace h := g_ob h; obtain ⟨a9, rfl, h⟩ := h
        replace h := g_ob h; obtain ⟨x10, e_x10, h⟩ := h
        refine r_zald C ak_102 d_M_mark_79 e_x10 ?_
        refine r_if_ne C 124 d_M_mark_80 (by decide) (fun c30 => ?_) (fun c30 => ?_)
        · rw [if_neg c30] at h
          exact t_M_mark_124 C hr K2 hK2 (D_M_mark_50 L K2 n) ih v0 v1 v2 v1 x7 V h
        · rw [if_pos c30] at h
          refine r_aload_n (x := (some v0)) C d_M_mark_83 rfl rfl ?_
          refine r_iload_n (x := v1) C d_M_mark_84 rfl rfl ?_
          refine r_iload_n (x := v2) C d_M_mark_85 rfl rfl ?_
          replace h := g_ob h; obtain ⟨n29, e_n29, h⟩ := h
          replace h := g_o2 h; obtain ⟨r11, V12, e_r11, h⟩ := h
          refine r_callV (As := [tI v1, tI v2]) C k_M_97 w_271 w_272 w_265 ⟨_, _, rfl⟩ (c_M_isFileRead l E base base v0 v1 v2 L V e_r11) d_M_mark_86 e_n29 rfl ⟨Nat.le_of_ble_eq_true rfl, Nat.le_of_ble_eq_true rfl⟩ (Nat.le_of_ble_eq_true rfl) (Nat.le_of_ble_eq_true rfl) (Nat.le_of_ble_eq_true rfl) rfl ?_
          refine r_if_eq C 105 d_M_mark_89 (by decide) (fun c28 => ?_) (fun c28 => ?_)
          · rw [if_pos c28] at h
            refine r_aload_n (x := (some v0)) C d_M_mark_105 rfl rfl ?_
            replace h := g_ob h; obtain ⟨x13, e_x13, h⟩ := h
            refine r_getR C f_M_69 d_M_mark_106 e_x13 ?_
            refine r_aload_n (x := (some v0)) C d_M_mark_109 rfl rfl ?_
            replace h := g_ob h; obtain ⟨x14, e_x14, h⟩ := h
            refine r_getR C f_M_33 d_M_mark_110 e_x14 ?_
            refine r_bipush C (6 : Int32) d_M_mark_113 (by decide) ?_
            refine r_iload_n (x := v1) C d_M_mark_115 rfl rfl ?_
            refine r_imul C d_M_mark_116 ?_
            refine r_iload_n (x := v2) C d_M_mark_117 rfl rfl ?_
            refine r_iadd C d_M_mark_118 ?_
            replace h := g_ob h; obtain ⟨a15, rfl, h⟩ := h
            replace h := g_ob h; obtain ⟨x16, e_x16, h⟩ := h
            refine r_iald C ak_100 d_M_mark_119 e_x16 ?_
            replace h := g_ob h; obtain ⟨a17, rfl, h⟩ := h
            replace h := g_ob h; obtain ⟨x18, e_x18, h⟩ := h
            refine r_zald C ak_102 d_M_mark_120 e_x18 ?_
            refine r_if_eq C 128 d_M_mark_121 (by decide) (fun c21 => ?_) (fun c21 => ?_)
            · rw [if_pos c21] at h
              refine r_iconst C (0 : Int32) d_M_mark_128 (by decide) ?_
              replace h := g_ob h; obtain ⟨a19, rfl, h⟩ := h
              replace h := g_ob h; obtain ⟨V20, e_V20, h⟩ := h
              refine r_zast C ak_102 d_M_mark_129 (Or.inl rfl) e_V20 ?_
              refine r_iinc (x := v2) (v := v2 + (1 : Int32)) (lv' := [(2, tI (v2 + (1 : Int32))), (0, tR (some v0)), (1, tI v1)]) C d_M_mark_130 rfl rfl (by decide) rfl ?_
              refine r_goto C 50 d_M_mark_133 (by decide) ?_
              refine r_lv [1, 2, 0] rfl ?_
              exact ih v0 v1 (v2 + (1 : Int32)) V20 h
            · rw [if_neg c21] at h
              exact t_M_mark_124 C hr K2 hK2 (D_M_mark_50 L K2 n) ih v0 v1 v2 v1 x7 V12 h
          · rw [if_neg c28] at h
            refine r_aload_n (x := (some v0)) C d_M_mark_92 rfl rfl ?_
            refine r_iload_n (x := v1) C d_M_mark_93 rfl rfl ?_
            refine r_iconst C (0 : Int32) d_M_mark_94 (by decide) ?_
            refine r_iload_n (x := v2) C d_M_mark_95 rfl rfl ?_
            replace h := g_ob h; obtain ⟨n27, e_n27, h⟩ := h
            replace h := g_o2 h; obtain ⟨r22, V23, e_r22, h⟩ := h
            refine r_callV (As := [tI v1, tI (0 : Int32), tI v2]) C k_M_111 w_283 w_284 w_281 ⟨_, _, rfl⟩ (c_M_isAsWas l E base base v0 v1 (0 : Int32) v2 L V12 e_r22) d_M_mark_96 e_n27 rfl ⟨Nat.le_of_ble_eq_true rfl, Nat.le_of_ble_eq_true rfl⟩ (Nat.le_of_ble_eq_true rfl) (Nat.le_of_ble_eq_true rfl) (Nat.le_of_ble_eq_true rfl) rfl ?_
            refine r_if_ne C 128 d_M_mark_99 (by decide) (fun c26 => ?_) (fun c26 => ?_)
            · rw [if_neg c26] at h
              refine r_iconst C (0 : Int32) d_M_mark_128 (by decide) ?_
              replace h := g_ob h; obtain ⟨a24, rfl, h⟩ := h
              replace h := g_ob h; obtain ⟨V25, e_V25, h⟩ := h
              refine r_zast C ak_102 d_M_mark_129 (Or.inl rfl) e_V25 ?_
              refine r_iinc (x := v2) (v := v2 + (1 : Int32)) (lv' := [(2, tI (v2 + (1 : Int32))), (0, tR (some v0)), (1, tI v1)]) C d_M_mark_130 rfl rfl (by decide) rfl ?_
              refine r_goto C 50 d_M_mark_133 (by decide) ?_
              refine r_lv [1, 2, 0] rfl ?_
              exact ih v0 v1 (v2 + (1 : Int32)) V25 h
            · rw [if_pos c26] at h
              refine r_goto C 124 d_M_mark_102 (by decide) ?_
              exact t_M_mark_124 C hr K2 hK2 (D_M_mark_50 L K2 n) ih v0 v1 v2 v1 x7 V23 h
set_option maxHeartbeats 4000000 in
set_option maxRecDepth 100000 in
theorem t_M_mark_42 (C : gC E base p s m args meth c b_M_mark R_M 3) (hr : meth.sig.returnType = none) {z : Unit × gV} (K2 : Nat → Int32 → gV → Option (Unit × gV)) (hK2 : ∀ (v0 : Nat) (v1 : Int32) (V : gV), K2 v0 v1 V = some z → vW E base base 3 p l e rm_M_mark s m args below meth c 0 0 (g_MQ E base base below args s 0 0 L z.2 none) L V 2 [(0, tR (some v0)), (1, tI v1)] []) (v0 : Nat) (v1 : Int32) (s0 : Int32) (s1 : Option Nat) (V : gV) (h : D_M_mark_42 L K2 v0 v1 s0 s1 V = some z) : vW E base base 3 p l e rm_M_mark s m args below meth c 0 0 (g_MQ E base base below args s 0 0 L z.2 none) L V 42 [(0, tR (some v0)), (1, tI v1)] [tI s0, tR s1] := by
  unfold D_M_mark_42 at h
  refine r_iconst C (1 : Int32) d_M_mark_42 (by decide) ?_
  refine r_goto C 47 d_M_mark_43 (by decide) ?_
  replace h := g_ob h; obtain ⟨a1, rfl, h⟩ := h
  replace h := g_ob h; obtain ⟨V2, e_V2, h⟩ := h
  refine r_zast C ak_102 d_M_mark_47 (Or.inr rfl) e_V2 ?_
  refine r_iconst C (0 : Int32) d_M_mark_48 (by decide) ?_
  refine r_istore_n (lv' := [(2, tI (0 : Int32)), (0, tR (some v0)), (1, tI v1)]) C d_M_mark_49 rfl (by decide) rfl ?_
  refine r_lv [1, 2, 0] rfl ?_
  exact t_M_mark_50 C hr K2 hK2 1000 v0 v1 (0 : Int32) V2 h
set_option maxHeartbeats 4000000 in
set_option maxRecDepth 100000 in
theorem t_M_mark_2 (C : gC E base p s m args meth c b_M_mark R_M 3) (hr : meth.sig.returnType = none) {z : Unit × gV} : ∀ (n : Nat) (v0 : Nat) (v1 : Int32) (V : gV), D_M_mark_2 L  n v0 v1 V = some z → vW E base base 3 p l e rm_M_mark s m args below meth c 0 0 (g_MQ E base base below args s 0 0 L z.2 none) L V 2 [(0, tR (some v0)), (1, tI v1)] [] := by
  intro n
  induction n with
  | zero =>
    intro v0 v1 V h
    rw [D_M_mark_2] at h
    cases h
  | succ n ih =>
    intro v0 v1 V h
    rw [D_M_mark_2] at h
    refine r_iload_n (x := v1) C d_M_mark_2 rfl rfl ?_
    refine r_aload_n (x := (some v0)) C d_M_mark_3 rfl rfl ?_
    replace h := g_ob h; obtain ⟨x1, e_x1, h⟩ := h
    refine r_getI C f_M_79 d_M_mark_4 e_x1 ?_
    refine r_icmp_ge C 165 d_M_mark_7 (by decide) (fun c19 => ?_) (fun c19 => ?_)
    · rw [if_pos c19] at h
      cases h
      exact r_vret C hr d_M_mark_165
    · rw [if_neg c19] at h
      refine r_aload_n (x := (some v0)) C d_M_mark_10 rfl rfl ?_
      replace h := g_ob h; obtain ⟨x2, e_x2, h⟩ := h
      refine r_getR C f_M_69 d_M_mark_11 e_x2 ?_
      refine r_iload_n (x := v1) C d_M_mark_14 rfl rfl ?_
      refine r_aload_n (x := (some v0)) C d_M_mark_15 rfl rfl ?_
      replace h := g_ob h; obtain ⟨x3, e_x3, h⟩ := h
      refine r_getR C f_M_66 d_M_mark_16 e_x3 ?_
      refine r_iload_n (x := v1) C d_M_mark_19 rfl rfl ?_
      replace h := g_ob h; obtain ⟨a4, rfl, h⟩ := h
      replace h := g_ob h; obtain ⟨x5, e_x5, h⟩ := h
      refine r_zald C ak_102 d_M_mark_20 e_x5 ?_
      refine r_if_eq C 46 d_M_mark_21 (by decide) (fun c18 => ?_) (fun c18 => ?_)
      · rw [if_pos c18] at h
        refine r_iconst C (0 : Int32) d_M_mark_46 (by decide) ?_
        replace h := g_ob h; obtain ⟨a6, rfl, h⟩ := h
        replace h := g_ob h; obtain ⟨V7, e_V7, h⟩ := h
        refine r_zast C ak_102 d_M_mark_47 (Or.inl rfl) e_V7 ?_
        refine r_iconst C (0 : Int32) d_M_mark_48 (by decide) ?_
        refine r_istore_n (lv' := [(2, tI (0 : Int32)), (0, tR (some v0)), (1, tI v1)]) C d_M_mark_49 rfl (by decide) rfl ?_
        refine r_lv [1, 2, 0] rfl ?_
        exact t_M_mark_50 C hr (D_M_mark_2 L  n) ih 1000 v0 v1 (0 : Int32) V7 h
      · rw [if_neg c18] at h
        refine r_aload_n (x := (some v0)) C d_M_mark_24 rfl rfl ?_
        replace h := g_ob h; obtain ⟨x8, e_x8, h⟩ := h
        refine r_getR C f_M_39 d_M_mark_25 e_x8 ?_
        refine r_iload_n (x := v1) C d_M_mark_28 rfl rfl ?_
        replace h := g_ob h; obtain ⟨a9, rfl, h⟩ := h
        replace h := g_ob h; obtain ⟨x10, e_x10, h⟩ := h
        refine r_iald C ak_100 d_M_mark_29 e_x10 ?_
        refine r_if_eq C 42 d_M_mark_30 (by decide) (fun c17 => ?_) (fun c17 => ?_)
        · rw [if_pos c17] at h
          exact t_M_mark_42 C hr (D_M_mark_2 L  n) ih v0 v1 v1 x2 V h
        · rw [if_neg c17] at h
          refine r_aload_n (x := (some v0)) C d_M_mark_33 rfl rfl ?_
          replace h := g_ob h; obtain ⟨x11, e_x11, h⟩ := h
          refine r_getR C f_M_23 d_M_mark_34 e_x11 ?_
          refine r_iload_n (x := v1) C d_M_mark_37 rfl rfl ?_
          replace h := g_ob h; obtain ⟨a12, rfl, h⟩ := h
          replace h := g_ob h; obtain ⟨x13, e_x13, h⟩ := h
          refine r_zald C ak_102 d_M_mark_38 e_x13 ?_
          refine r_if_eq C 46 d_M_mark_39 (by decide) (fun c16 => ?_) (fun c16 => ?_)
          · rw [if_pos c16] at h
            refine r_iconst C (0 : Int32) d_M_mark_46 (by decide) ?_
            replace h := g_ob h; obtain ⟨a14, rfl, h⟩ := h
            replace h := g_ob h; obtain ⟨V15, e_V15, h⟩ := h
            refine r_zast C ak_102 d_M_mark_47 (Or.inl rfl) e_V15 ?_
            refine r_iconst C (0 : Int32) d_M_mark_48 (by decide) ?_
            refine r_istore_n (lv' := [(2, tI (0 : Int32)), (0, tR (some v0)), (1, tI v1)]) C d_M_mark_49 rfl (by decide) rfl ?_
            refine r_lv [1, 2, 0] rfl ?_
            exact t_M_mark_50 C hr (D_M_mark_2 L  n) ih 1000 v0 v1 (0 : Int32) V15 h
          · rw [if_neg c16] at h
            exact t_M_mark_42 C hr (D_M_mark_2 L  n) ih v0 v1 v1 x2 V h
set_option maxHeartbeats 4000000 in
set_option maxRecDepth 100000 in
theorem t_M_mark_0 (C : gC E base p s m args meth c b_M_mark R_M 3) (hr : meth.sig.returnType = none) {z : Unit × gV} (h0 : Nat) (V : gV) (h : D_M_mark h0 L V = some z) : vW E base base 3 p l e rm_M_mark s m args below meth c 0 0 (g_MQ E base base below args s 0 0 L z.2 none) L V 0 [(0, tR (some h0))] [] := by
  unfold D_M_mark at h
  refine r_iconst C (0 : Int32) d_M_mark_0 (by decide) ?_
  refine r_istore_n (lv' := [(1, tI (0 : Int32)), (0, tR (some h0))]) C d_M_mark_1 rfl (by decide) rfl ?_
  refine r_lv [1, 0] rfl ?_
  exact t_M_mark_2 C hr  1000 h0 (0 : Int32) V h
theorem c_M_mark (l : Launch) (E : gE) (base : Nat) (h0 : Nat) (L : gL) (V : gV) {z : Unit × gV} (h : D_M_mark h0 L V = some z) : g_Met l E base base y_M_mark b_M_mark 3 none rm_M_mark [tR (some h0)] L V none L z.2 :=
  r_enter R_M (by decide) rfl [tR (some h0)] [(0, tR (some h0))] rfl (Nat.le_of_ble_eq_true rfl) (fun p e s m args below meth c C hr hnm => t_M_mark_0 C hr h0 V h)
def rm_M_isBlocked : Room := { frames := 1, cells := 0, slots := 0, locals := 22 }
def D_M_isBlocked_73 (L : gL) (K4 : Nat → Int32 → Int32 → Int32 → gV → Option (Int32 × gV)) (v0 : Nat) (v1 : Int32) (v3 : Int32) (V : gV) : Option (Int32 × gV) :=
  K4 v0 v1 (1 : Int32) (v3 + (1 : Int32)) V
def D_M_isBlocked_4 (L : gL) : Nat → Nat → Int32 → Int32 → Int32 → gV → Option (Int32 × gV)
  | 0, _, _, _, _, _ => none
  | n + 1, v0, v1, v2, v3, V =>
  Option.bind (g_rR L V 4 v0 9) fun x1 =>
    Option.bind x1 fun a2 =>
    Option.bind (g_aI L V 100 a2 v1) fun x3 =>
    (if x3 ≤ v3 then
    Option.bind (g_bz v2) fun _ =>
    some (v2, V)
  else
    Option.bind (g_rR L V 4 v0 10) fun x5 =>
    Option.bind x5 fun a6 =>
    Option.bind (g_aI L V 100 a6 (((6 : Int32) * v1) + v3)) fun x7 =>
    (if v2 = 0 then
    Option.bind ((L).2 4 v0) fun n23 =>
    g_b2 (D_M_isFileRead v0 v1 v3 L V) fun r8 V9 =>
    (if r8 = 0 then
    Option.bind (g_rR L V9 4 v0 17) fun x10 =>
    Option.bind x10 fun a11 =>
    Option.bind (g_aI L V9 100 a11 x7) fun x12 =>
    (if x12 = (5 : Int32) then
    D_M_isBlocked_73 L (D_M_isBlocked_4 L  n) v0 v1 v3 V9
  else
    Option.bind (g_rR L V9 4 v0 17) fun x13 =>
    Option.bind x13 fun a14 =>
    Option.bind (g_aI L V9 100 a14 x7) fun x15 =>
    (if x15 = (3 : Int32) then
    D_M_isBlocked_73 L (D_M_isBlocked_4 L  n) v0 v1 v3 V9
  else
    Option.bind (g_rR L V9 4 v0 17) fun x16 =>
    Option.bind x16 fun a17 =>
    Option.bind (g_aI L V9 100 a17 x7) fun x18 =>
    (if x18 = (4 : Int32) then
    D_M_isBlocked_73 L (D_M_isBlocked_4 L  n) v0 v1 v3 V9
  else
    D_M_isBlocked_4 L  n v0 v1 (0 : Int32) (v3 + (1 : Int32)) V9)))
  else
    D_M_isBlocked_4 L  n v0 v1 (0 : Int32) (v3 + (1 : Int32)) V9)
  else
    D_M_isBlocked_73 L (D_M_isBlocked_4 L  n) v0 v1 v3 V))
def D_M_isBlocked (h0 : Nat) (p1 : Int32) (L : gL) (V : gV) : Option (Int32 × gV) :=
  D_M_isBlocked_4 L  1000 h0 p1 (0 : Int32) (0 : Int32) V
set_option maxHeartbeats 4000000 in
set_option maxRecDepth 100000 in
theorem t_M_isBlocked_73 (C : gC E bA p s m args meth c b_M_isBlocked R_M 5) (hr : meth.sig.returnType = (some .boolean)) {z : Int32 × gV} (K4 : Nat → Int32 → Int32 → Int32 → gV → Option (Int32 × gV)) (hK4 : ∀ (v0 : Nat) (v1 : Int32) (v2 : Int32) (v3 : Int32) (V : gV), K4 v0 v1 v2 v3 V = some z → vW E base bA 5 p l e rm_M_isBlocked s m args below meth c 0 0 (g_MQ E base bA below args s 0 0 L z.2 (some (tI z.1))) L V 4 [(0, tR (some v0)), (1, tI v1), (2, tI v2), (3, tI v3)] []) (v0 : Nat) (v1 : Int32) (v3 : Int32) (V : gV) (h : D_M_isBlocked_73 L K4 v0 v1 v3 V = some z) : vW E base bA 5 p l e rm_M_isBlocked s m args below meth c 0 0 (g_MQ E base bA below args s 0 0 L z.2 (some (tI z.1))) L V 73 [(0, tR (some v0)), (1, tI v1), (3, tI v3)] [] := by
  unfold D_M_isBlocked_73 at h
  refine r_iconst C (1 : Int32) d_M_isBlocked_73 (by decide) ?_
  refine r_goto C 78 d_M_isBlocked_74 (by decide) ?_
  refine r_istore_n (lv' := [(2, tI (1 : Int32)), (0, tR (some v0)), (1, tI v1), (3, tI v3)]) C d_M_isBlocked_78 rfl (by decide) rfl ?_
  refine r_iinc (x := v3) (v := v3 + (1 : Int32)) (lv' := [(3, tI (v3 + (1 : Int32))), (2, tI (1 : Int32)), (0, tR (some v0)), (1, tI v1)]) C d_M_isBlocked_79 rfl rfl (by decide) rfl ?_
  refine r_goto C 4 d_M_isBlocked_82 (by decide) ?_
  refine r_lv [2, 3, 1, 0] rfl ?_
  exact hK4 v0 v1 (1 : Int32) (v3 + (1 : Int32)) V h
set_option maxHeartbeats 4000000 in
set_option maxRecDepth 100000 in
theorem t_M_isBlocked_4 (C : gC E bA p s m args meth c b_M_isBlocked R_M 5) (hr : meth.sig.returnType = (some .boolean)) {z : Int32 × gV} : ∀ (n : Nat) (v0 : Nat) (v1 : Int32) (v2 : Int32) (v3 : Int32) (V : gV), D_M_isBlocked_4 L  n v0 v1 v2 v3 V = some z → vW E base bA 5 p l e rm_M_isBlocked s m args below meth c 0 0 (g_MQ E base bA below args s 0 0 L z.2 (some (tI z.1))) L V 4 [(0, tR (some v0)), (1, tI v1), (2, tI v2), (3, tI v3)] [] := by
  intro n
  induction n with
  | zero =>
    intro v0 v1 v2 v3 V h
    rw [D_M_isBlocked_4] at h
    cases h
  | succ n ih =>
    intro v0 v1 v2 v3 V h
    rw [D_M_isBlocked_4] at h
    refine r_iload_n (x := v3) C d_M_isBlocked_4 rfl rfl ?_
    refine r_aload_n (x := (some v0)) C d_M_isBlocked_5 rfl rfl ?_
    replace h := g_ob h; obtain ⟨x1, e_x1, h⟩ := h
    refine r_getR C f_M_30 d_M_isBlocked_6 e_x1 ?_
    refine r_iload_n (x := v1) C d_M_isBlocked_9 rfl rfl ?_
    replace h := g_ob h; obtain ⟨a2, rfl, h⟩ := h
    replace h := g_ob h; obtain ⟨x3, e_x3, h⟩ := h
    refine r_iald C ak_100 d_M_isBlocked_10 e_x3 ?_
    refine r_icmp_ge C 85 d_M_isBlocked_11 (by decide) (fun c25 => ?_) (fun c25 => ?_)
    · rw [if_pos c25] at h
      refine r_iload_n (x := v2) C d_M_isBlocked_85 rfl rfl ?_
      replace h := g_ob h; obtain ⟨u4, e_u4, h⟩ := h
      cases h
      exact r_zret C hr d_M_isBlocked_86 (g_bz_spec e_u4)
    · rw [if_neg c25] at h
      refine r_aload_n (x := (some v0)) C d_M_isBlocked_14 rfl rfl ?_
      replace h := g_ob h; obtain ⟨x5, e_x5, h⟩ := h
      refine r_getR C f_M_33 d_M_isBlocked_15 e_x5 ?_
      refine r_bipush C (6 : Int32) d_M_isBlocked_18 (by decide) ?_
      refine r_iload_n (x := v1) C d_M_isBlocked_20 rfl rfl ?_
      refine r_imul C d_M_isBlocked_21 ?_
      refine r_iload_n (x := v3) C d_M_isBlocked_22 rfl rfl ?_
      refine r_iadd C d_M_isBlocked_23 ?_
      replace h := g_ob h; obtain ⟨a6, rfl, h⟩ := h
      replace h := g_ob h; obtain ⟨x7, e_x7, h⟩ := h
      refine r_iald C ak_100 d_M_isBlocked_24 e_x7 ?_
      refine r_istore (lv' := [(4, tI x7), (0, tR (some v0)), (1, tI v1), (2, tI v2), (3, tI v3)]) C d_M_isBlocked_25 (by decide) rfl ?_
      refine r_iload_n (x := v2) C d_M_isBlocked_27 rfl rfl ?_
      refine r_if_ne C 73 d_M_isBlocked_28 (by decide) (fun c24 => ?_) (fun c24 => ?_)
      · rw [if_neg c24] at h
        refine r_lv [1, 2, 4] rfl ?_
        exact t_M_isBlocked_73 C hr (D_M_isBlocked_4 L  n) ih v0 v1 v3 V h
      · rw [if_pos c24] at h
        refine r_aload_n (x := (some v0)) C d_M_isBlocked_31 rfl rfl ?_
        refine r_iload_n (x := v1) C d_M_isBlocked_32 rfl rfl ?_
        refine r_iload_n (x := v3) C d_M_isBlocked_33 rfl rfl ?_
        replace h := g_ob h; obtain ⟨n23, e_n23, h⟩ := h
        replace h := g_o2 h; obtain ⟨r8, V9, e_r8, h⟩ := h
        refine r_callV (As := [tI v1, tI v3]) C k_M_97 w_271 w_272 w_265 ⟨_, _, rfl⟩ (c_M_isFileRead l E base bA v0 v1 v3 L V e_r8) d_M_isBlocked_34 e_n23 rfl ⟨Nat.le_of_ble_eq_true rfl, Nat.le_of_ble_eq_true rfl⟩ (Nat.le_of_ble_eq_true rfl) (Nat.le_of_ble_eq_true rfl) (Nat.le_of_ble_eq_true rfl) rfl ?_
        refine r_if_ne C 77 d_M_isBlocked_37 (by decide) (fun c22 => ?_) (fun c22 => ?_)
        · rw [if_neg c22] at h
          refine r_iconst C (0 : Int32) d_M_isBlocked_77 (by decide) ?_
          refine r_istore_n (lv' := [(2, tI (0 : Int32)), (4, tI x7), (0, tR (some v0)), (1, tI v1), (3, tI v3)]) C d_M_isBlocked_78 rfl (by decide) rfl ?_
          refine r_iinc (x := v3) (v := v3 + (1 : Int32)) (lv' := [(3, tI (v3 + (1 : Int32))), (2, tI (0 : Int32)), (4, tI x7), (0, tR (some v0)), (1, tI v1)]) C d_M_isBlocked_79 rfl rfl (by decide) rfl ?_
          refine r_goto C 4 d_M_isBlocked_82 (by decide) ?_
          refine r_lv [3, 4, 1, 0] rfl ?_
          exact ih v0 v1 (0 : Int32) (v3 + (1 : Int32)) V9 h
        · rw [if_pos c22] at h
          refine r_aload_n (x := (some v0)) C d_M_isBlocked_40 rfl rfl ?_
          replace h := g_ob h; obtain ⟨x10, e_x10, h⟩ := h
          refine r_getR C f_M_54 d_M_isBlocked_41 e_x10 ?_
          refine r_iload (x := x7) C d_M_isBlocked_44 rfl ?_
          replace h := g_ob h; obtain ⟨a11, rfl, h⟩ := h
          replace h := g_ob h; obtain ⟨x12, e_x12, h⟩ := h
          refine r_iald C ak_100 d_M_isBlocked_46 e_x12 ?_
          refine r_iconst C (5 : Int32) d_M_isBlocked_47 (by decide) ?_
          refine r_icmp_eq C 73 d_M_isBlocked_48 (by decide) (fun c21 => ?_) (fun c21 => ?_)
          · rw [if_pos c21] at h
            refine r_lv [1, 2, 4] rfl ?_
            exact t_M_isBlocked_73 C hr (D_M_isBlocked_4 L  n) ih v0 v1 v3 V9 h
          · rw [if_neg c21] at h
            refine r_aload_n (x := (some v0)) C d_M_isBlocked_51 rfl rfl ?_
            replace h := g_ob h; obtain ⟨x13, e_x13, h⟩ := h
            refine r_getR C f_M_54 d_M_isBlocked_52 e_x13 ?_
            refine r_iload (x := x7) C d_M_isBlocked_55 rfl ?_
            replace h := g_ob h; obtain ⟨a14, rfl, h⟩ := h
            replace h := g_ob h; obtain ⟨x15, e_x15, h⟩ := h
            refine r_iald C ak_100 d_M_isBlocked_57 e_x15 ?_
            refine r_iconst C (3 : Int32) d_M_isBlocked_58 (by decide) ?_
            refine r_icmp_eq C 73 d_M_isBlocked_59 (by decide) (fun c20 => ?_) (fun c20 => ?_)
            · rw [if_pos c20] at h
              refine r_lv [1, 2, 4] rfl ?_
              exact t_M_isBlocked_73 C hr (D_M_isBlocked_4 L  n) ih v0 v1 v3 V9 h
            · rw [if_neg c20] at h
              refine r_aload_n (x := (some v0)) C d_M_isBlocked_62 rfl rfl ?_
              replace h := g_ob h; obtain ⟨x16, e_x16, h⟩ := h
              refine r_getR C f_M_54 d_M_isBlocked_63 e_x16 ?_
              refine r_iload (x := x7) C d_M_isBlocked_66 rfl ?_
              replace h := g_ob h; obtain ⟨a17, rfl, h⟩ := h
              replace h := g_ob h; obtain ⟨x18, e_x18, h⟩ := h
              refine r_iald C ak_100 d_M_isBlocked_68 e_x18 ?_
              refine r_iconst C (4 : Int32) d_M_isBlocked_69 (by decide) ?_
              refine r_icmp_ne C 77 d_M_isBlocked_70 (by decide) (fun c19 => ?_) (fun c19 => ?_)
              · rw [if_neg c19] at h
                refine r_iconst C (0 : Int32) d_M_isBlocked_77 (by decide) ?_
                refine r_istore_n (lv' := [(2, tI (0 : Int32)), (4, tI x7), (0, tR (some v0)), (1, tI v1), (3, tI v3)]) C d_M_isBlocked_78 rfl (by decide) rfl ?_
                refine r_iinc (x := v3) (v := v3 + (1 : Int32)) (lv' := [(3, tI (v3 + (1 : Int32))), (2, tI (0 : Int32)), (4, tI x7), (0, tR (some v0)), (1, tI v1)]) C d_M_isBlocked_79 rfl rfl (by decide) rfl ?_
                refine r_goto C 4 d_M_isBlocked_82 (by decide) ?_
                refine r_lv [3, 4, 1, 0] rfl ?_
                exact ih v0 v1 (0 : Int32) (v3 + (1 : Int32)) V9 h
              · rw [if_pos c19] at h
                refine r_lv [1, 2, 4] rfl ?_
                exact t_M_isBlocked_73 C hr (D_M_isBlocked_4 L  n) ih v0 v1 v3 V9 h
set_option maxHeartbeats 4000000 in
set_option maxRecDepth 100000 in
theorem t_M_isBlocked_0 (C : gC E bA p s m args meth c b_M_isBlocked R_M 5) (hr : meth.sig.returnType = (some .boolean)) {z : Int32 × gV} (h0 : Nat) (p1 : Int32) (V : gV) (h : D_M_isBlocked h0 p1 L V = some z) : vW E base bA 5 p l e rm_M_isBlocked s m args below meth c 0 0 (g_MQ E base bA below args s 0 0 L z.2 (some (tI z.1))) L V 0 [(0, tR (some h0)), (1, tI p1)] [] := by
  unfold D_M_isBlocked at h
  refine r_iconst C (0 : Int32) d_M_isBlocked_0 (by decide) ?_
  refine r_istore_n (lv' := [(2, tI (0 : Int32)), (0, tR (some h0)), (1, tI p1)]) C d_M_isBlocked_1 rfl (by decide) rfl ?_
  refine r_iconst C (0 : Int32) d_M_isBlocked_2 (by decide) ?_
  refine r_istore_n (lv' := [(3, tI (0 : Int32)), (2, tI (0 : Int32)), (0, tR (some h0)), (1, tI p1)]) C d_M_isBlocked_3 rfl (by decide) rfl ?_
  refine r_lv [2, 3, 1, 0] rfl ?_
  exact t_M_isBlocked_4 C hr  1000 h0 p1 (0 : Int32) (0 : Int32) V h
theorem c_M_isBlocked (l : Launch) (E : gE) (base bA : Nat) (h0 : Nat) (p1 : Int32) (L : gL) (V : gV) {z : Int32 × gV} (h : D_M_isBlocked h0 p1 L V = some z) : g_Met l E base bA y_M_isBlocked b_M_isBlocked 5 (some .boolean) rm_M_isBlocked [tR (some h0), tI p1] L V (some (tI z.1)) L z.2 :=
  r_enter R_M (by decide) rfl [tR (some h0), tI p1] [(0, tR (some h0)), (1, tI p1)] rfl (Nat.le_of_ble_eq_true rfl) (fun p e s m args below meth c C hr hnm => t_M_isBlocked_0 C hr h0 p1 V h)
def rm_M_causeOf : Room := { frames := 4, cells := 0, slots := 0, locals := 90 }
def D_M_causeOf_24 (L : gL) : Nat → Nat → Int32 → Int32 → gV → Option (Int32 × gV)
  | 0, _, _, _, _ => none
  | n + 1, v0, v1, v2, V =>
  Option.bind ((L).2 4 v0) fun n8 =>
    g_b2 (D_M_isAsWas v0 v1 (0 : Int32) v2 L V) fun r1 V2 =>
    (if r1 = 0 then
    Option.bind ((L).2 4 v0) fun n6 =>
    g_b2 (D_M_isFileRead v0 v1 v2 L V2) fun r3 V4 =>
    (if r3 = 0 then
    some ((3 : Int32), V4)
  else
    some ((2 : Int32), V4))
  else
    D_M_causeOf_24 L  n v0 v1 (v2 + (1 : Int32)) V2)
def D_M_causeOf (h0 : Nat) (p1 : Int32) (L : gL) (V : gV) : Option (Int32 × gV) :=
  Option.bind (g_rR L V 4 h0 12) fun x1 =>
    Option.bind x1 fun a2 =>
    Option.bind (g_aI L V 100 a2 p1) fun x3 =>
    (if x3 = 0 then
    some ((0 : Int32), V)
  else
    Option.bind (g_rR L V 4 h0 7) fun x4 =>
    Option.bind x4 fun a5 =>
    Option.bind (g_aI L V 102 a5 p1) fun x6 =>
    (if x6 = 0 then
    D_M_causeOf_24 L  1000 h0 p1 (0 : Int32) V
  else
    some ((1 : Int32), V)))
set_option maxHeartbeats 4000000 in
set_option maxRecDepth 100000 in
theorem t_M_causeOf_24 (C : gC E bA p s m args meth c b_M_causeOf R_M 3) (hr : meth.sig.returnType = (some .int)) {z : Int32 × gV} : ∀ (n : Nat) (v0 : Nat) (v1 : Int32) (v2 : Int32) (V : gV), D_M_causeOf_24 L  n v0 v1 v2 V = some z → vW E base bA 3 p l e rm_M_causeOf s m args below meth c 0 0 (g_MQ E base bA below args s 0 0 L z.2 (some (tI z.1))) L V 24 [(0, tR (some v0)), (1, tI v1), (2, tI v2)] [] := by
  intro n
  induction n with
  | zero =>
    intro v0 v1 v2 V h
    rw [D_M_causeOf_24] at h
    cases h
  | succ n ih =>
    intro v0 v1 v2 V h
    rw [D_M_causeOf_24] at h
    refine r_aload_n (x := (some v0)) C d_M_causeOf_24 rfl rfl ?_
    refine r_iload_n (x := v1) C d_M_causeOf_25 rfl rfl ?_
    refine r_iconst C (0 : Int32) d_M_causeOf_26 (by decide) ?_
    refine r_iload_n (x := v2) C d_M_causeOf_27 rfl rfl ?_
    replace h := g_ob h; obtain ⟨n8, e_n8, h⟩ := h
    replace h := g_o2 h; obtain ⟨r1, V2, e_r1, h⟩ := h
    refine r_callV (As := [tI v1, tI (0 : Int32), tI v2]) C k_M_111 w_283 w_284 w_281 ⟨_, _, rfl⟩ (c_M_isAsWas l E base bA v0 v1 (0 : Int32) v2 L V e_r1) d_M_causeOf_28 e_n8 rfl ⟨Nat.le_of_ble_eq_true rfl, Nat.le_of_ble_eq_true rfl⟩ (Nat.le_of_ble_eq_true rfl) (Nat.le_of_ble_eq_true rfl) (Nat.le_of_ble_eq_true rfl) rfl ?_
    refine r_if_eq C 40 d_M_causeOf_31 (by decide) (fun c7 => ?_) (fun c7 => ?_)
    · rw [if_pos c7] at h
      refine r_aload_n (x := (some v0)) C d_M_causeOf_40 rfl rfl ?_
      refine r_iload_n (x := v1) C d_M_causeOf_41 rfl rfl ?_
      refine r_iload_n (x := v2) C d_M_causeOf_42 rfl rfl ?_
      replace h := g_ob h; obtain ⟨n6, e_n6, h⟩ := h
      replace h := g_o2 h; obtain ⟨r3, V4, e_r3, h⟩ := h
      refine r_callV (As := [tI v1, tI v2]) C k_M_97 w_271 w_272 w_265 ⟨_, _, rfl⟩ (c_M_isFileRead l E base bA v0 v1 v2 L V2 e_r3) d_M_causeOf_43 e_n6 rfl ⟨Nat.le_of_ble_eq_true rfl, Nat.le_of_ble_eq_true rfl⟩ (Nat.le_of_ble_eq_true rfl) (Nat.le_of_ble_eq_true rfl) (Nat.le_of_ble_eq_true rfl) rfl ?_
      refine r_if_eq C 53 d_M_causeOf_46 (by decide) (fun c5 => ?_) (fun c5 => ?_)
      · rw [if_pos c5] at h
        refine r_iconst C (3 : Int32) d_M_causeOf_53 (by decide) ?_
        cases h
        exact r_iret C hr d_M_causeOf_54
      · rw [if_neg c5] at h
        refine r_iconst C (2 : Int32) d_M_causeOf_49 (by decide) ?_
        refine r_goto C 54 d_M_causeOf_50 (by decide) ?_
        cases h
        exact r_iret C hr d_M_causeOf_54
    · rw [if_neg c7] at h
      refine r_iinc (x := v2) (v := v2 + (1 : Int32)) (lv' := [(2, tI (v2 + (1 : Int32))), (0, tR (some v0)), (1, tI v1)]) C d_M_causeOf_34 rfl rfl (by decide) rfl ?_
      refine r_goto C 24 d_M_causeOf_37 (by decide) ?_
      refine r_lv [1, 2, 0] rfl ?_
      exact ih v0 v1 (v2 + (1 : Int32)) V2 h
set_option maxHeartbeats 4000000 in
set_option maxRecDepth 100000 in
theorem t_M_causeOf_0 (C : gC E bA p s m args meth c b_M_causeOf R_M 3) (hr : meth.sig.returnType = (some .int)) {z : Int32 × gV} (h0 : Nat) (p1 : Int32) (V : gV) (h : D_M_causeOf h0 p1 L V = some z) : vW E base bA 3 p l e rm_M_causeOf s m args below meth c 0 0 (g_MQ E base bA below args s 0 0 L z.2 (some (tI z.1))) L V 0 [(0, tR (some h0)), (1, tI p1)] [] := by
  unfold D_M_causeOf at h
  refine r_aload_n (x := (some h0)) C d_M_causeOf_0 rfl rfl ?_
  replace h := g_ob h; obtain ⟨x1, e_x1, h⟩ := h
  refine r_getR C f_M_39 d_M_causeOf_1 e_x1 ?_
  refine r_iload_n (x := p1) C d_M_causeOf_4 rfl rfl ?_
  replace h := g_ob h; obtain ⟨a2, rfl, h⟩ := h
  replace h := g_ob h; obtain ⟨x3, e_x3, h⟩ := h
  refine r_iald C ak_100 d_M_causeOf_5 e_x3 ?_
  refine r_if_ne C 11 d_M_causeOf_6 (by decide) (fun c8 => ?_) (fun c8 => ?_)
  · rw [if_neg c8] at h
    refine r_aload_n (x := (some h0)) C d_M_causeOf_11 rfl rfl ?_
    replace h := g_ob h; obtain ⟨x4, e_x4, h⟩ := h
    refine r_getR C f_M_23 d_M_causeOf_12 e_x4 ?_
    refine r_iload_n (x := p1) C d_M_causeOf_15 rfl rfl ?_
    replace h := g_ob h; obtain ⟨a5, rfl, h⟩ := h
    replace h := g_ob h; obtain ⟨x6, e_x6, h⟩ := h
    refine r_zald C ak_102 d_M_causeOf_16 e_x6 ?_
    refine r_if_eq C 22 d_M_causeOf_17 (by decide) (fun c7 => ?_) (fun c7 => ?_)
    · rw [if_pos c7] at h
      refine r_iconst C (0 : Int32) d_M_causeOf_22 (by decide) ?_
      refine r_istore_n (lv' := [(2, tI (0 : Int32)), (0, tR (some h0)), (1, tI p1)]) C d_M_causeOf_23 rfl (by decide) rfl ?_
      refine r_lv [1, 2, 0] rfl ?_
      exact t_M_causeOf_24 C hr  1000 h0 p1 (0 : Int32) V h
    · rw [if_neg c7] at h
      refine r_iconst C (1 : Int32) d_M_causeOf_20 (by decide) ?_
      cases h
      exact r_iret C hr d_M_causeOf_21
  · rw [if_pos c8] at h
    refine r_iconst C (0 : Int32) d_M_causeOf_9 (by decide) ?_
    cases h
    exact r_iret C hr d_M_causeOf_10
theorem c_M_causeOf (l : Launch) (E : gE) (base bA : Nat) (h0 : Nat) (p1 : Int32) (L : gL) (V : gV) {z : Int32 × gV} (h : D_M_causeOf h0 p1 L V = some z) : g_Met l E base bA y_M_causeOf b_M_causeOf 3 (some .int) rm_M_causeOf [tR (some h0), tI p1] L V (some (tI z.1)) L z.2 :=
  r_enter R_M (by decide) rfl [tR (some h0), tI p1] [(0, tR (some h0)), (1, tI p1)] rfl (Nat.le_of_ble_eq_true rfl) (fun p e s m args below meth c C hr hnm => t_M_causeOf_0 C hr h0 p1 V h)
def rm_M_work : Room := { frames := 5, cells := 0, slots := 0, locals := 114 }
def D_M_work_216 (L : gL) (v0 : Nat) (v1 : Int32) (v4 : Int64) (v6 : Int32) (V : gV) : Option (Unit × gV) :=
  Option.bind (g_rR L V 4 v0 14) fun x1 =>
    g_b2 (D_M_record4 v1 (0 : Int32) L V) fun r2 V3 =>
    Option.bind x1 fun a4 =>
    Option.bind (g_wa L V3 101 a4 r2 (tJ v4)) fun V5 =>
    Option.bind (g_rR L V5 4 v0 13) fun x6 =>
    g_b2 (D_M_record4 v1 (0 : Int32) L V5) fun r7 V8 =>
    Option.bind x6 fun a9 =>
    Option.bind (g_wa L V8 100 a9 r7 (tI v6)) fun V10 =>
    some ((), V10)
def D_M_work_82 (L : gL) : Nat → Nat → Int32 → Int64 → Int32 → Int32 → gV → Option (Unit × gV)
  | 0, _, _, _, _, _, _ => none
  | n + 1, v0, v1, v4, v6, v7, V =>
  Option.bind (g_rR L V 4 v0 9) fun x1 =>
    Option.bind x1 fun a2 =>
    Option.bind (g_aI L V 100 a2 v1) fun x3 =>
    (if x3 ≤ v7 then
    (if v6 = (-1 : Int32) then
    Option.bind (g_rR L V 4 v0 5) fun x4 =>
    Option.bind x4 fun a5 =>
    Option.bind (g_aJ L V 101 a5 v1) fun x6 =>
    (if (lg_cmp x6 (0 : Int64)) = 0 then
    D_M_work_216 L  v0 v1 v4 v6 V
  else
    Option.bind (g_rR L V 4 v0 5) fun x7 =>
    Option.bind x7 fun a8 =>
    Option.bind (g_aJ L V 101 a8 v1) fun x9 =>
    (if x9 = 0 then none else
    (if (lg_cmp (v4 - v4 / x9 * x9) (0 : Int64)) = 0 then
    D_M_work_216 L  v0 v1 v4 (6 : Int32) V
  else
    D_M_work_216 L  v0 v1 v4 v6 V)))
  else
    D_M_work_216 L  v0 v1 v4 v6 V)
  else
    g_b2 (D_M_record4 v1 (0 : Int32) L V) fun r14 V15 =>
    Option.bind (g_rR L V15 4 v0 15) fun x16 =>
    Option.bind ((L).2 4 v0) fun n36 =>
    g_b2 (D_M_valueNow v0 v1 v7 L V15) fun r17 V18 =>
    Option.bind x16 fun a19 =>
    Option.bind (g_wa L V18 101 a19 (((6 : Int32) * r14) + v7) (tJ r17)) fun V20 =>
    Option.bind (g_rR L V20 4 v0 16) fun x21 =>
    Option.bind ((L).2 4 v0) fun n35 =>
    g_b2 (D_M_thereNow v0 v1 v7 L V20) fun r22 V23 =>
    Option.bind x21 fun a24 =>
    Option.bind (g_bz r22) fun _ =>
    Option.bind (g_wa L V23 102 a24 (((6 : Int32) * r14) + v7) (tI r22)) fun V25 =>
    Option.bind (g_rR L V25 4 v0 15) fun x26 =>
    Option.bind x26 fun a27 =>
    Option.bind (g_aJ L V25 101 a27 (((6 : Int32) * r14) + v7)) fun x28 =>
    (if v6 = (-1 : Int32) then
    Option.bind (g_rR L V25 4 v0 16) fun x29 =>
    Option.bind x29 fun a30 =>
    Option.bind (g_aI L V25 102 a30 (((6 : Int32) * r14) + v7)) fun x31 =>
    (if x31 = 0 then
    D_M_work_82 L  n v0 v1 (((31 : Int64) * v4) + x28) v7 (v7 + (1 : Int32)) V25
  else
    D_M_work_82 L  n v0 v1 (((31 : Int64) * v4) + x28) v6 (v7 + (1 : Int32)) V25)
  else
    D_M_work_82 L  n v0 v1 (((31 : Int64) * v4) + x28) v6 (v7 + (1 : Int32)) V25))
def D_M_work_63 (L : gL) (v0 : Nat) (v1 : Int32) (v3 : Int32) (s0 : Int32) (s1 : Int32) (s2 : Int32) (s3 : Nat) (V : gV) : Option (Unit × gV) :=
  Option.bind (g_wa L V 100 s3 s2 (tI (s1 + s0))) fun V1 =>
    Option.bind ((L).2 4 v0) fun n4 =>
    g_b2 (D_M_moveBack v0 v1 v3 L V1) fun r2 V3 =>
    D_M_work_82 L  1000 v0 v1 (17 : Int64) (-1 : Int32) (0 : Int32) V3
def D_M_work_62 (L : gL) (v0 : Nat) (v1 : Int32) (v3 : Int32) (s0 : Int32) (s1 : Int32) (s2 : Nat) (V : gV) : Option (Unit × gV) :=
  D_M_work_63 L  v0 v1 v3 (0 : Int32) s0 s1 s2 V
def D_M_work_35 (L : gL) (v0 : Nat) (v1 : Int32) (v2 : Int32) (s0 : Int32) (V : gV) : Option (Unit × gV) :=
  Option.bind (g_rR L V 4 v0 12) fun x1 =>
    Option.bind x1 fun a2 =>
    Option.bind (g_aI L V 100 a2 v1) fun x3 =>
    (if v2 = (-1 : Int32) then
    Option.bind (g_rR L V 4 v0 12) fun x4 =>
    Option.bind x4 fun a5 =>
    Option.bind (g_aI L V 100 a5 v1) fun x6 =>
    (if (3 : Int32) ≤ x6 then
    D_M_work_62 L  v0 v1 s0 x3 v1 a2 V
  else
    D_M_work_63 L  v0 v1 s0 (1 : Int32) x3 v1 a2 V)
  else
    D_M_work_62 L  v0 v1 s0 x3 v1 a2 V)
def D_M_work (h0 : Nat) (p1 : Int32) (L : gL) (V : gV) : Option (Unit × gV) :=
  Option.bind ((L).2 4 h0) fun n11 =>
    g_b2 (D_M_matching h0 p1 L V) fun r1 V2 =>
    (if r1 = (-1 : Int32) then
    Option.bind (g_rR L V2 4 h0 12) fun x3 =>
    Option.bind x3 fun a4 =>
    Option.bind (g_aI L V2 100 a4 p1) fun x5 =>
    (if (3 : Int32) ≤ x5 then
    D_M_work_35 L  h0 p1 r1 (2 : Int32) V2
  else
    Option.bind (g_rR L V2 4 h0 12) fun x6 =>
    Option.bind x6 fun a7 =>
    Option.bind (g_aI L V2 100 a7 p1) fun x8 =>
    D_M_work_35 L  h0 p1 r1 x8 V2)
  else
    D_M_work_35 L  h0 p1 r1 r1 V2)
set_option maxHeartbeats 4000000 in
set_option maxRecDepth 100000 in
theorem t_M_work_216 (C : gC E base p s m args meth c b_M_work R_M 9) (hr : meth.sig.returnType = none) {z : Unit × gV} (v0 : Nat) (v1 : Int32) (v4 : Int64) (v6 : Int32) (V : gV) (h : D_M_work_216 L  v0 v1 v4 v6 V = some z) : vW E base base 9 p l e rm_M_work s m args below meth c 0 0 (g_MQ E base base below args s 0 0 L z.2 none) L V 216 [(0, tR (some v0)), (1, tI v1), (4, tJ v4), (6, tI v6)] [] := by
  unfold D_M_work_216 at h
  refine r_aload_n (x := (some v0)) C d_M_work_216 rfl rfl ?_
  replace h := g_ob h; obtain ⟨x1, e_x1, h⟩ := h
  refine r_getR C f_M_45 d_M_work_217 e_x1 ?_
  refine r_iload_n (x := v1) C d_M_work_220 rfl rfl ?_
  refine r_iconst C (0 : Int32) d_M_work_221 (by decide) ?_
  replace h := g_o2 h; obtain ⟨r2, V3, e_r2, h⟩ := h
  refine r_callS (As := [tI v1, tI (0 : Int32)]) C k_M_93 w_264 w_262 (c_M_record4 l E base base v1 (0 : Int32) L V e_r2) d_M_work_222 rfl ⟨Nat.le_of_ble_eq_true rfl, Nat.le_of_ble_eq_true rfl⟩ (Nat.le_of_ble_eq_true rfl) (Nat.le_of_ble_eq_true rfl) (Nat.le_of_ble_eq_true rfl) rfl ?_
  refine r_lload (x := v4) C d_M_work_225 rfl ?_
  replace h := g_ob h; obtain ⟨a4, rfl, h⟩ := h
  replace h := g_ob h; obtain ⟨V5, e_V5, h⟩ := h
  refine r_last C ak_101 d_M_work_227 e_V5 ?_
  refine r_aload_n (x := (some v0)) C d_M_work_228 rfl rfl ?_
  replace h := g_ob h; obtain ⟨x6, e_x6, h⟩ := h
  refine r_getR C f_M_42 d_M_work_229 e_x6 ?_
  refine r_iload_n (x := v1) C d_M_work_232 rfl rfl ?_
  refine r_iconst C (0 : Int32) d_M_work_233 (by decide) ?_
  replace h := g_o2 h; obtain ⟨r7, V8, e_r7, h⟩ := h
  refine r_callS (As := [tI v1, tI (0 : Int32)]) C k_M_93 w_264 w_262 (c_M_record4 l E base base v1 (0 : Int32) L V5 e_r7) d_M_work_234 rfl ⟨Nat.le_of_ble_eq_true rfl, Nat.le_of_ble_eq_true rfl⟩ (Nat.le_of_ble_eq_true rfl) (Nat.le_of_ble_eq_true rfl) (Nat.le_of_ble_eq_true rfl) rfl ?_
  refine r_iload (x := v6) C d_M_work_237 rfl ?_
  replace h := g_ob h; obtain ⟨a9, rfl, h⟩ := h
  replace h := g_ob h; obtain ⟨V10, e_V10, h⟩ := h
  refine r_iast C ak_100 d_M_work_239 e_V10 ?_
  cases h
  exact r_vret C hr d_M_work_240
set_option maxHeartbeats 4000000 in
set_option maxRecDepth 100000 in
theorem t_M_work_82 (C : gC E base p s m args meth c b_M_work R_M 9) (hr : meth.sig.returnType = none) {z : Unit × gV} : ∀ (n : Nat) (v0 : Nat) (v1 : Int32) (v4 : Int64) (v6 : Int32) (v7 : Int32) (V : gV), D_M_work_82 L  n v0 v1 v4 v6 v7 V = some z → vW E base base 9 p l e rm_M_work s m args below meth c 0 0 (g_MQ E base base below args s 0 0 L z.2 none) L V 82 [(0, tR (some v0)), (1, tI v1), (4, tJ v4), (6, tI v6), (7, tI v7)] [] := by
  intro n
  induction n with
  | zero =>
    intro v0 v1 v4 v6 v7 V h
    rw [D_M_work_82] at h
    cases h
  | succ n ih =>
    intro v0 v1 v4 v6 v7 V h
    rw [D_M_work_82] at h
    refine r_iload (x := v7) C d_M_work_82 rfl ?_
    refine r_aload_n (x := (some v0)) C d_M_work_84 rfl rfl ?_
    replace h := g_ob h; obtain ⟨x1, e_x1, h⟩ := h
    refine r_getR C f_M_30 d_M_work_85 e_x1 ?_
    refine r_iload_n (x := v1) C d_M_work_88 rfl rfl ?_
    replace h := g_ob h; obtain ⟨a2, rfl, h⟩ := h
    replace h := g_ob h; obtain ⟨x3, e_x3, h⟩ := h
    refine r_iald C ak_100 d_M_work_89 e_x3 ?_
    refine r_icmp_ge C 181 d_M_work_90 (by decide) (fun c37 => ?_) (fun c37 => ?_)
    · rw [if_pos c37] at h
      refine r_iload (x := v6) C d_M_work_181 rfl ?_
      refine r_iconst C (-1 : Int32) d_M_work_183 (by decide) ?_
      refine r_icmp_ne C 216 d_M_work_184 (by decide) (fun c13 => ?_) (fun c13 => ?_)
      · rw [if_neg c13] at h
        refine r_lv [0, 1, 2, 3] rfl ?_
        exact t_M_work_216 C hr  v0 v1 v4 v6 V h
      · rw [if_pos c13] at h
        refine r_aload_n (x := (some v0)) C d_M_work_187 rfl rfl ?_
        replace h := g_ob h; obtain ⟨x4, e_x4, h⟩ := h
        refine r_getR C f_M_16 d_M_work_188 e_x4 ?_
        refine r_iload_n (x := v1) C d_M_work_191 rfl rfl ?_
        replace h := g_ob h; obtain ⟨a5, rfl, h⟩ := h
        replace h := g_ob h; obtain ⟨x6, e_x6, h⟩ := h
        refine r_lald C ak_101 d_M_work_192 e_x6 ?_
        refine r_lconst C (0 : Int64) d_M_work_193 (by decide) ?_
        refine r_lcmp C d_M_work_194 ?_
        refine r_if_eq C 216 d_M_work_195 (by decide) (fun c12 => ?_) (fun c12 => ?_)
        · rw [if_pos c12] at h
          refine r_lv [0, 1, 2, 3] rfl ?_
          exact t_M_work_216 C hr  v0 v1 v4 v6 V h
        · rw [if_neg c12] at h
          refine r_lload (x := v4) C d_M_work_198 rfl ?_
          refine r_aload_n (x := (some v0)) C d_M_work_200 rfl rfl ?_
          replace h := g_ob h; obtain ⟨x7, e_x7, h⟩ := h
          refine r_getR C f_M_16 d_M_work_201 e_x7 ?_
          refine r_iload_n (x := v1) C d_M_work_204 rfl rfl ?_
          replace h := g_ob h; obtain ⟨a8, rfl, h⟩ := h
          replace h := g_ob h; obtain ⟨x9, e_x9, h⟩ := h
          refine r_lald C ak_101 d_M_work_205 e_x9 ?_
          by_cases c11 : x9 = 0
          · rw [if_pos c11] at h; cases h
          rw [if_neg c11] at h
          refine r_lrem C d_M_work_206 c11 ?_
          refine r_lconst C (0 : Int64) d_M_work_207 (by decide) ?_
          refine r_lcmp C d_M_work_208 ?_
          refine r_if_ne C 216 d_M_work_209 (by decide) (fun c10 => ?_) (fun c10 => ?_)
          · rw [if_neg c10] at h
            refine r_lv [0, 1, 2, 3] rfl ?_
            exact t_M_work_216 C hr  v0 v1 v4 v6 V h
          · rw [if_pos c10] at h
            refine r_bipush C (6 : Int32) d_M_work_212 (by decide) ?_
            refine r_istore (lv' := [(6, tI (6 : Int32)), (0, tR (some v0)), (1, tI v1), (4, tJ v4), (7, tI v7)]) C d_M_work_214 (by decide) rfl ?_
            refine r_lv [1, 2, 3, 0] rfl ?_
            exact t_M_work_216 C hr  v0 v1 v4 (6 : Int32) V h
    · rw [if_neg c37] at h
      refine r_bipush C (6 : Int32) d_M_work_93 (by decide) ?_
      refine r_iload_n (x := v1) C d_M_work_95 rfl rfl ?_
      refine r_iconst C (0 : Int32) d_M_work_96 (by decide) ?_
      replace h := g_o2 h; obtain ⟨r14, V15, e_r14, h⟩ := h
      refine r_callS (As := [tI v1, tI (0 : Int32)]) C k_M_93 w_264 w_262 (c_M_record4 l E base base v1 (0 : Int32) L V e_r14) d_M_work_97 rfl ⟨Nat.le_of_ble_eq_true rfl, Nat.le_of_ble_eq_true rfl⟩ (Nat.le_of_ble_eq_true rfl) (Nat.le_of_ble_eq_true rfl) (Nat.le_of_ble_eq_true rfl) rfl ?_
      refine r_imul C d_M_work_100 ?_
      refine r_iload (x := v7) C d_M_work_101 rfl ?_
      refine r_iadd C d_M_work_103 ?_
      refine r_istore (lv' := [(8, tI (((6 : Int32) * r14) + v7)), (0, tR (some v0)), (1, tI v1), (4, tJ v4), (6, tI v6), (7, tI v7)]) C d_M_work_104 (by decide) rfl ?_
      refine r_aload_n (x := (some v0)) C d_M_work_106 rfl rfl ?_
      replace h := g_ob h; obtain ⟨x16, e_x16, h⟩ := h
      refine r_getR C f_M_48 d_M_work_107 e_x16 ?_
      refine r_iload (x := ((6 : Int32) * r14) + v7) C d_M_work_110 rfl ?_
      refine r_aload_n (x := (some v0)) C d_M_work_112 rfl rfl ?_
      refine r_iload_n (x := v1) C d_M_work_113 rfl rfl ?_
      refine r_iload (x := v7) C d_M_work_114 rfl ?_
      replace h := g_ob h; obtain ⟨n36, e_n36, h⟩ := h
      replace h := g_o2 h; obtain ⟨r17, V18, e_r17, h⟩ := h
      refine r_callV (As := [tI v1, tI v7]) C k_M_108 w_277 w_278 w_275 ⟨_, _, rfl⟩ (c_M_valueNow l E base base v0 v1 v7 L V15 e_r17) d_M_work_116 e_n36 rfl ⟨Nat.le_of_ble_eq_true rfl, Nat.le_of_ble_eq_true rfl⟩ (Nat.le_of_ble_eq_true rfl) (Nat.le_of_ble_eq_true rfl) (Nat.le_of_ble_eq_true rfl) rfl ?_
      replace h := g_ob h; obtain ⟨a19, rfl, h⟩ := h
      replace h := g_ob h; obtain ⟨V20, e_V20, h⟩ := h
      refine r_last C ak_101 d_M_work_119 e_V20 ?_
      refine r_aload_n (x := (some v0)) C d_M_work_120 rfl rfl ?_
      replace h := g_ob h; obtain ⟨x21, e_x21, h⟩ := h
      refine r_getR C f_M_51 d_M_work_121 e_x21 ?_
      refine r_iload (x := ((6 : Int32) * r14) + v7) C d_M_work_124 rfl ?_
      refine r_aload_n (x := (some v0)) C d_M_work_126 rfl rfl ?_
      refine r_iload_n (x := v1) C d_M_work_127 rfl rfl ?_
      refine r_iload (x := v7) C d_M_work_128 rfl ?_
      replace h := g_ob h; obtain ⟨n35, e_n35, h⟩ := h
      replace h := g_o2 h; obtain ⟨r22, V23, e_r22, h⟩ := h
      refine r_callV (As := [tI v1, tI v7]) C k_M_105 w_279 w_280 w_273 ⟨_, _, rfl⟩ (c_M_thereNow l E base base v0 v1 v7 L V20 e_r22) d_M_work_130 e_n35 rfl ⟨Nat.le_of_ble_eq_true rfl, Nat.le_of_ble_eq_true rfl⟩ (Nat.le_of_ble_eq_true rfl) (Nat.le_of_ble_eq_true rfl) (Nat.le_of_ble_eq_true rfl) rfl ?_
      replace h := g_ob h; obtain ⟨a24, rfl, h⟩ := h
      replace h := g_ob h; obtain ⟨u34, e_u34, h⟩ := h
      replace h := g_ob h; obtain ⟨V25, e_V25, h⟩ := h
      refine r_zast C ak_102 d_M_work_133 (g_bz_spec e_u34) e_V25 ?_
      refine r_ldc2 C (31 : Int64) d_M_work_134 w_298 ?_
      refine r_lload (x := v4) C d_M_work_137 rfl ?_
      refine r_lmul C d_M_work_139 ?_
      refine r_aload_n (x := (some v0)) C d_M_work_140 rfl rfl ?_
      replace h := g_ob h; obtain ⟨x26, e_x26, h⟩ := h
      refine r_getR C f_M_48 d_M_work_141 e_x26 ?_
      refine r_iload (x := ((6 : Int32) * r14) + v7) C d_M_work_144 rfl ?_
      replace h := g_ob h; obtain ⟨a27, rfl, h⟩ := h
      replace h := g_ob h; obtain ⟨x28, e_x28, h⟩ := h
      refine r_lald C ak_101 d_M_work_146 e_x28 ?_
      refine r_ladd C d_M_work_147 ?_
      refine r_lstore (lv' := [(4, tJ (((31 : Int64) * v4) + x28)), (8, tI (((6 : Int32) * r14) + v7)), (0, tR (some v0)), (1, tI v1), (6, tI v6), (7, tI v7)]) C d_M_work_148 (by decide) rfl ?_
      refine r_iload (x := v6) C d_M_work_150 rfl ?_
      refine r_iconst C (-1 : Int32) d_M_work_152 (by decide) ?_
      refine r_icmp_ne C 171 d_M_work_153 (by decide) (fun c33 => ?_) (fun c33 => ?_)
      · rw [if_neg c33] at h
        refine r_iload (x := v6) C d_M_work_171 rfl ?_
        refine r_istore (lv' := [(6, tI v6), (4, tJ (((31 : Int64) * v4) + x28)), (8, tI (((6 : Int32) * r14) + v7)), (0, tR (some v0)), (1, tI v1), (7, tI v7)]) C d_M_work_173 (by decide) rfl ?_
        refine r_iinc (x := v7) (v := v7 + (1 : Int32)) (lv' := [(7, tI (v7 + (1 : Int32))), (6, tI v6), (4, tJ (((31 : Int64) * v4) + x28)), (8, tI (((6 : Int32) * r14) + v7)), (0, tR (some v0)), (1, tI v1)]) C d_M_work_175 rfl rfl (by decide) rfl ?_
        refine r_goto C 82 d_M_work_178 (by decide) ?_
        refine r_lv [4, 5, 2, 1, 0] rfl ?_
        exact ih v0 v1 (((31 : Int64) * v4) + x28) v6 (v7 + (1 : Int32)) V25 h
      · rw [if_pos c33] at h
        refine r_aload_n (x := (some v0)) C d_M_work_156 rfl rfl ?_
        replace h := g_ob h; obtain ⟨x29, e_x29, h⟩ := h
        refine r_getR C f_M_51 d_M_work_157 e_x29 ?_
        refine r_iload (x := ((6 : Int32) * r14) + v7) C d_M_work_160 rfl ?_
        replace h := g_ob h; obtain ⟨a30, rfl, h⟩ := h
        replace h := g_ob h; obtain ⟨x31, e_x31, h⟩ := h
        refine r_zald C ak_102 d_M_work_162 e_x31 ?_
        refine r_if_ne C 171 d_M_work_163 (by decide) (fun c32 => ?_) (fun c32 => ?_)
        · rw [if_neg c32] at h
          refine r_iload (x := v6) C d_M_work_171 rfl ?_
          refine r_istore (lv' := [(6, tI v6), (4, tJ (((31 : Int64) * v4) + x28)), (8, tI (((6 : Int32) * r14) + v7)), (0, tR (some v0)), (1, tI v1), (7, tI v7)]) C d_M_work_173 (by decide) rfl ?_
          refine r_iinc (x := v7) (v := v7 + (1 : Int32)) (lv' := [(7, tI (v7 + (1 : Int32))), (6, tI v6), (4, tJ (((31 : Int64) * v4) + x28)), (8, tI (((6 : Int32) * r14) + v7)), (0, tR (some v0)), (1, tI v1)]) C d_M_work_175 rfl rfl (by decide) rfl ?_
          refine r_goto C 82 d_M_work_178 (by decide) ?_
          refine r_lv [4, 5, 2, 1, 0] rfl ?_
          exact ih v0 v1 (((31 : Int64) * v4) + x28) v6 (v7 + (1 : Int32)) V25 h
        · rw [if_pos c32] at h
          refine r_iload (x := v7) C d_M_work_166 rfl ?_
          refine r_goto C 173 d_M_work_168 (by decide) ?_
          refine r_istore (lv' := [(6, tI v7), (4, tJ (((31 : Int64) * v4) + x28)), (8, tI (((6 : Int32) * r14) + v7)), (0, tR (some v0)), (1, tI v1), (7, tI v7)]) C d_M_work_173 (by decide) rfl ?_
          refine r_iinc (x := v7) (v := v7 + (1 : Int32)) (lv' := [(7, tI (v7 + (1 : Int32))), (6, tI v7), (4, tJ (((31 : Int64) * v4) + x28)), (8, tI (((6 : Int32) * r14) + v7)), (0, tR (some v0)), (1, tI v1)]) C d_M_work_175 rfl rfl (by decide) rfl ?_
          refine r_goto C 82 d_M_work_178 (by decide) ?_
          refine r_lv [4, 5, 2, 1, 0] rfl ?_
          exact ih v0 v1 (((31 : Int64) * v4) + x28) v7 (v7 + (1 : Int32)) V25 h
set_option maxHeartbeats 4000000 in
set_option maxRecDepth 100000 in
theorem t_M_work_63 (C : gC E base p s m args meth c b_M_work R_M 9) (hr : meth.sig.returnType = none) {z : Unit × gV} (v0 : Nat) (v1 : Int32) (v3 : Int32) (s0 : Int32) (s1 : Int32) (s2 : Int32) (s3 : Nat) (V : gV) (h : D_M_work_63 L  v0 v1 v3 s0 s1 s2 s3 V = some z) : vW E base base 9 p l e rm_M_work s m args below meth c 0 0 (g_MQ E base base below args s 0 0 L z.2 none) L V 63 [(0, tR (some v0)), (1, tI v1), (3, tI v3)] [tI s0, tI s1, tI s2, tR (some s3)] := by
  unfold D_M_work_63 at h
  refine r_iadd C d_M_work_63 ?_
  replace h := g_ob h; obtain ⟨V1, e_V1, h⟩ := h
  refine r_iast C ak_100 d_M_work_64 e_V1 ?_
  refine r_aload_n (x := (some v0)) C d_M_work_65 rfl rfl ?_
  refine r_iload_n (x := v1) C d_M_work_66 rfl rfl ?_
  refine r_iload_n (x := v3) C d_M_work_67 rfl rfl ?_
  replace h := g_ob h; obtain ⟨n4, e_n4, h⟩ := h
  replace h := g_o2 h; obtain ⟨r2, V3, e_r2, h⟩ := h
  refine r_callV (As := [tI v1, tI v3]) C k_M_118 w_291 w_292 w_289 ⟨_, _, rfl⟩ (c_M_moveBack l E base v0 v1 v3 L V1 e_r2) d_M_work_68 e_n4 rfl ⟨Nat.le_of_ble_eq_true rfl, Nat.le_of_ble_eq_true rfl⟩ (Nat.le_of_ble_eq_true rfl) (Nat.le_of_ble_eq_true rfl) (Nat.le_of_ble_eq_true rfl) rfl ?_
  refine r_ldc2 C (17 : Int64) d_M_work_71 w_297 ?_
  refine r_lstore (lv' := [(4, tJ (17 : Int64)), (0, tR (some v0)), (1, tI v1), (3, tI v3)]) C d_M_work_74 (by decide) rfl ?_
  refine r_iconst C (-1 : Int32) d_M_work_76 (by decide) ?_
  refine r_istore (lv' := [(6, tI (-1 : Int32)), (4, tJ (17 : Int64)), (0, tR (some v0)), (1, tI v1), (3, tI v3)]) C d_M_work_77 (by decide) rfl ?_
  refine r_iconst C (0 : Int32) d_M_work_79 (by decide) ?_
  refine r_istore (lv' := [(7, tI (0 : Int32)), (6, tI (-1 : Int32)), (4, tJ (17 : Int64)), (0, tR (some v0)), (1, tI v1), (3, tI v3)]) C d_M_work_80 (by decide) rfl ?_
  refine r_lv [3, 4, 2, 1, 0] rfl ?_
  exact t_M_work_82 C hr  1000 v0 v1 (17 : Int64) (-1 : Int32) (0 : Int32) V3 h
set_option maxHeartbeats 4000000 in
set_option maxRecDepth 100000 in
theorem t_M_work_62 (C : gC E base p s m args meth c b_M_work R_M 9) (hr : meth.sig.returnType = none) {z : Unit × gV} (v0 : Nat) (v1 : Int32) (v3 : Int32) (s0 : Int32) (s1 : Int32) (s2 : Nat) (V : gV) (h : D_M_work_62 L  v0 v1 v3 s0 s1 s2 V = some z) : vW E base base 9 p l e rm_M_work s m args below meth c 0 0 (g_MQ E base base below args s 0 0 L z.2 none) L V 62 [(0, tR (some v0)), (1, tI v1), (3, tI v3)] [tI s0, tI s1, tR (some s2)] := by
  unfold D_M_work_62 at h
  refine r_iconst C (0 : Int32) d_M_work_62 (by decide) ?_
  exact t_M_work_63 C hr  v0 v1 v3 (0 : Int32) s0 s1 s2 V h
set_option maxHeartbeats 4000000 in
set_option maxRecDepth 100000 in
theorem t_M_work_35 (C : gC E base p s m args meth c b_M_work R_M 9) (hr : meth.sig.returnType = none) {z : Unit × gV} (v0 : Nat) (v1 : Int32) (v2 : Int32) (s0 : Int32) (V : gV) (h : D_M_work_35 L  v0 v1 v2 s0 V = some z) : vW E base base 9 p l e rm_M_work s m args below meth c 0 0 (g_MQ E base base below args s 0 0 L z.2 none) L V 35 [(0, tR (some v0)), (1, tI v1), (2, tI v2)] [tI s0] := by
  unfold D_M_work_35 at h
  refine r_istore_n (lv' := [(3, tI s0), (0, tR (some v0)), (1, tI v1), (2, tI v2)]) C d_M_work_35 rfl (by decide) rfl ?_
  refine r_aload_n (x := (some v0)) C d_M_work_36 rfl rfl ?_
  replace h := g_ob h; obtain ⟨x1, e_x1, h⟩ := h
  refine r_getR C f_M_39 d_M_work_37 e_x1 ?_
  refine r_iload_n (x := v1) C d_M_work_40 rfl rfl ?_
  refine r_dup2 C d_M_work_41 rfl rfl ?_
  replace h := g_ob h; obtain ⟨a2, rfl, h⟩ := h
  replace h := g_ob h; obtain ⟨x3, e_x3, h⟩ := h
  refine r_iald C ak_100 d_M_work_42 e_x3 ?_
  refine r_iload_n (x := v2) C d_M_work_43 rfl rfl ?_
  refine r_iconst C (-1 : Int32) d_M_work_44 (by decide) ?_
  refine r_icmp_ne C 62 d_M_work_45 (by decide) (fun c8 => ?_) (fun c8 => ?_)
  · rw [if_neg c8] at h
    refine r_lv [1, 2, 0] rfl ?_
    exact t_M_work_62 C hr  v0 v1 s0 x3 v1 a2 V h
  · rw [if_pos c8] at h
    refine r_aload_n (x := (some v0)) C d_M_work_48 rfl rfl ?_
    replace h := g_ob h; obtain ⟨x4, e_x4, h⟩ := h
    refine r_getR C f_M_39 d_M_work_49 e_x4 ?_
    refine r_iload_n (x := v1) C d_M_work_52 rfl rfl ?_
    replace h := g_ob h; obtain ⟨a5, rfl, h⟩ := h
    replace h := g_ob h; obtain ⟨x6, e_x6, h⟩ := h
    refine r_iald C ak_100 d_M_work_53 e_x6 ?_
    refine r_iconst C (3 : Int32) d_M_work_54 (by decide) ?_
    refine r_icmp_ge C 62 d_M_work_55 (by decide) (fun c7 => ?_) (fun c7 => ?_)
    · rw [if_pos c7] at h
      refine r_lv [1, 2, 0] rfl ?_
      exact t_M_work_62 C hr  v0 v1 s0 x3 v1 a2 V h
    · rw [if_neg c7] at h
      refine r_iconst C (1 : Int32) d_M_work_58 (by decide) ?_
      refine r_goto C 63 d_M_work_59 (by decide) ?_
      refine r_lv [1, 2, 0] rfl ?_
      exact t_M_work_63 C hr  v0 v1 s0 (1 : Int32) x3 v1 a2 V h
set_option maxHeartbeats 4000000 in
set_option maxRecDepth 100000 in
theorem t_M_work_0 (C : gC E base p s m args meth c b_M_work R_M 9) (hr : meth.sig.returnType = none) {z : Unit × gV} (h0 : Nat) (p1 : Int32) (V : gV) (h : D_M_work h0 p1 L V = some z) : vW E base base 9 p l e rm_M_work s m args below meth c 0 0 (g_MQ E base base below args s 0 0 L z.2 none) L V 0 [(0, tR (some h0)), (1, tI p1)] [] := by
  unfold D_M_work at h
  refine r_aload_n (x := (some h0)) C d_M_work_0 rfl rfl ?_
  refine r_iload_n (x := p1) C d_M_work_1 rfl rfl ?_
  replace h := g_ob h; obtain ⟨n11, e_n11, h⟩ := h
  replace h := g_o2 h; obtain ⟨r1, V2, e_r1, h⟩ := h
  refine r_callV (As := [tI p1]) C k_M_122 w_295 w_296 w_293 ⟨_, _, rfl⟩ (c_M_matching l E base base h0 p1 L V e_r1) d_M_work_2 e_n11 rfl ⟨Nat.le_of_ble_eq_true rfl, Nat.le_of_ble_eq_true rfl⟩ (Nat.le_of_ble_eq_true rfl) (Nat.le_of_ble_eq_true rfl) (Nat.le_of_ble_eq_true rfl) rfl ?_
  refine r_istore_n (lv' := [(2, tI r1), (0, tR (some h0)), (1, tI p1)]) C d_M_work_5 rfl (by decide) rfl ?_
  refine r_iload_n (x := r1) C d_M_work_6 rfl rfl ?_
  refine r_iconst C (-1 : Int32) d_M_work_7 (by decide) ?_
  refine r_icmp_eq C 15 d_M_work_8 (by decide) (fun c10 => ?_) (fun c10 => ?_)
  · rw [if_pos c10] at h
    refine r_aload_n (x := (some h0)) C d_M_work_15 rfl rfl ?_
    replace h := g_ob h; obtain ⟨x3, e_x3, h⟩ := h
    refine r_getR C f_M_39 d_M_work_16 e_x3 ?_
    refine r_iload_n (x := p1) C d_M_work_19 rfl rfl ?_
    replace h := g_ob h; obtain ⟨a4, rfl, h⟩ := h
    replace h := g_ob h; obtain ⟨x5, e_x5, h⟩ := h
    refine r_iald C ak_100 d_M_work_20 e_x5 ?_
    refine r_iconst C (3 : Int32) d_M_work_21 (by decide) ?_
    refine r_icmp_ge C 34 d_M_work_22 (by decide) (fun c9 => ?_) (fun c9 => ?_)
    · rw [if_pos c9] at h
      refine r_iconst C (2 : Int32) d_M_work_34 (by decide) ?_
      refine r_lv [1, 2, 0] rfl ?_
      exact t_M_work_35 C hr  h0 p1 r1 (2 : Int32) V2 h
    · rw [if_neg c9] at h
      refine r_aload_n (x := (some h0)) C d_M_work_25 rfl rfl ?_
      replace h := g_ob h; obtain ⟨x6, e_x6, h⟩ := h
      refine r_getR C f_M_39 d_M_work_26 e_x6 ?_
      refine r_iload_n (x := p1) C d_M_work_29 rfl rfl ?_
      replace h := g_ob h; obtain ⟨a7, rfl, h⟩ := h
      replace h := g_ob h; obtain ⟨x8, e_x8, h⟩ := h
      refine r_iald C ak_100 d_M_work_30 e_x8 ?_
      refine r_goto C 35 d_M_work_31 (by decide) ?_
      refine r_lv [1, 2, 0] rfl ?_
      exact t_M_work_35 C hr  h0 p1 r1 x8 V2 h
  · rw [if_neg c10] at h
    refine r_iload_n (x := r1) C d_M_work_11 rfl rfl ?_
    refine r_goto C 35 d_M_work_12 (by decide) ?_
    refine r_lv [1, 2, 0] rfl ?_
    exact t_M_work_35 C hr  h0 p1 r1 r1 V2 h
theorem c_M_work (l : Launch) (E : gE) (base : Nat) (h0 : Nat) (p1 : Int32) (L : gL) (V : gV) {z : Unit × gV} (h : D_M_work h0 p1 L V = some z) : g_Met l E base base y_M_work b_M_work 9 none rm_M_work [tR (some h0), tI p1] L V none L z.2 :=
  r_enter R_M (by decide) rfl [tR (some h0), tI p1] [(0, tR (some h0)), (1, tI p1)] rfl (Nat.le_of_ble_eq_true rfl) (fun p e s m args below meth c C hr hnm => t_M_work_0 C hr h0 p1 V h)
def rm_M_compare : Room := { frames := 2, cells := 0, slots := 0, locals := 43 }
def D_M_compare_90 (L : gL) (v0 : Nat) (v7 : Int32) (v8 : Int32) (s0 : Int32) (s1 : Int32) (s2 : Int32) (s3 : Nat) (V : gV) : Option (Unit × gV) :=
  Option.bind (g_wa L V 100 s3 s2 (tI (s1 + s0))) fun V1 =>
    Option.bind (g_rI L V1 4 v0 23) fun x2 =>
    (if v8 = 0 then
    Option.bind (g_wr L V1 4 v0 23 (tI (x2 + (0 : Int32)))) fun V3 =>
    some ((), V3)
  else
    (if v7 = 0 then
    Option.bind (g_wr L V1 4 v0 23 (tI (x2 + (0 : Int32)))) fun V4 =>
    some ((), V4)
  else
    Option.bind (g_wr L V1 4 v0 23 (tI (x2 + (1 : Int32)))) fun V5 =>
    some ((), V5)))
def D_M_compare_89 (L : gL) (v0 : Nat) (v7 : Int32) (v8 : Int32) (s0 : Int32) (s1 : Int32) (s2 : Nat) (V : gV) : Option (Unit × gV) :=
  D_M_compare_90 L  v0 v7 v8 (0 : Int32) s0 s1 s2 V
def D_M_compare_60 (L : gL) (v0 : Nat) (v1 : Int32) (v3 : Int64) (v7 : Int32) (v8 : Int32) (s0 : Int32) (s1 : Int32) (s2 : Int32) (s3 : Nat) (V : gV) : Option (Unit × gV) :=
  Option.bind (g_wa L V 100 s3 s2 (tI (s1 + s0))) fun V1 =>
    Option.bind (g_rR L V1 4 v0 19) fun x2 =>
    Option.bind x2 fun a3 =>
    Option.bind (g_aI L V1 100 a3 (2 : Int32)) fun x4 =>
    (if v8 = 0 then
    Option.bind ((L).2 4 v0) fun n8 =>
    g_b2 (D_M_partOf v0 v1 (0 : Int32) L V1) fun r5 V6 =>
    (if (lg_cmp r5 v3) = 0 then
    D_M_compare_90 L  v0 v7 v8 (1 : Int32) x4 (2 : Int32) a3 V6
  else
    D_M_compare_89 L  v0 v7 v8 x4 (2 : Int32) a3 V6)
  else
    D_M_compare_89 L  v0 v7 v8 x4 (2 : Int32) a3 V1)
def D_M_compare_41 (L : gL) (v0 : Nat) (v1 : Int32) (v3 : Int64) (v7 : Int32) (s0 : Int32) (V : gV) : Option (Unit × gV) :=
  Option.bind (g_rR L V 4 v0 19) fun x1 =>
    Option.bind x1 fun a2 =>
    Option.bind (g_aI L V 100 a2 (1 : Int32)) fun x3 =>
    (if s0 = 0 then
    D_M_compare_60 L  v0 v1 v3 v7 s0 (0 : Int32) x3 (1 : Int32) a2 V
  else
    D_M_compare_60 L  v0 v1 v3 v7 s0 (1 : Int32) x3 (1 : Int32) a2 V)
def D_M_compare_40 (L : gL) (v0 : Nat) (v1 : Int32) (v3 : Int64) (v7 : Int32) (V : gV) : Option (Unit × gV) :=
  D_M_compare_41 L  v0 v1 v3 v7 (0 : Int32) V
def D_M_compare (h0 : Nat) (p1 : Int32) (p2 : Int32) (p3 : Int64) (p5 : Int64) (p7 : Int32) (L : gL) (V : gV) : Option (Unit × gV) :=
  (if p2 = 0 then
    some ((), V)
  else
    Option.bind ((L).2 4 h0) fun n12 =>
    g_b2 (D_M_hasOutput h0 p1 L V) fun r1 V2 =>
    (if r1 = 0 then
    some ((), V2)
  else
    Option.bind ((L).2 4 h0) fun n10 =>
    g_b2 (D_M_partOf h0 p1 (1 : Int32) L V2) fun r3 V4 =>
    (if (lg_cmp r3 p5) = 0 then
    Option.bind ((L).2 4 h0) fun n8 =>
    g_b2 (D_M_partOf h0 p1 (0 : Int32) L V4) fun r5 V6 =>
    (if (lg_cmp r5 p3) = 0 then
    D_M_compare_41 L  h0 p1 p3 p7 (1 : Int32) V6
  else
    D_M_compare_40 L  h0 p1 p3 p7 V6)
  else
    D_M_compare_40 L  h0 p1 p3 p7 V4)))
set_option maxHeartbeats 4000000 in
set_option maxRecDepth 100000 in
theorem t_M_compare_90 (C : gC E base p s m args meth c b_M_compare R_M 9) (hr : meth.sig.returnType = none) {z : Unit × gV} (v0 : Nat) (v7 : Int32) (v8 : Int32) (s0 : Int32) (s1 : Int32) (s2 : Int32) (s3 : Nat) (V : gV) (h : D_M_compare_90 L  v0 v7 v8 s0 s1 s2 s3 V = some z) : vW E base base 9 p l e rm_M_compare s m args below meth c 0 0 (g_MQ E base base below args s 0 0 L z.2 none) L V 90 [(0, tR (some v0)), (7, tI v7), (8, tI v8)] [tI s0, tI s1, tI s2, tR (some s3)] := by
  unfold D_M_compare_90 at h
  refine r_iadd C d_M_compare_90 ?_
  replace h := g_ob h; obtain ⟨V1, e_V1, h⟩ := h
  refine r_iast C ak_100 d_M_compare_91 e_V1 ?_
  refine r_aload_n (x := (some v0)) C d_M_compare_92 rfl rfl ?_
  refine r_dup C d_M_compare_93 rfl ?_
  replace h := g_ob h; obtain ⟨x2, e_x2, h⟩ := h
  refine r_getI C f_M_133 d_M_compare_94 e_x2 ?_
  refine r_iload (x := v8) C d_M_compare_97 rfl ?_
  refine r_if_eq C 111 d_M_compare_99 (by decide) (fun c7 => ?_) (fun c7 => ?_)
  · rw [if_pos c7] at h
    refine r_iconst C (0 : Int32) d_M_compare_111 (by decide) ?_
    refine r_iadd C d_M_compare_112 ?_
    replace h := g_ob h; obtain ⟨V3, e_V3, h⟩ := h
    refine r_put C f_M_133 d_M_compare_113 e_V3 (g_nI (x2 + (0 : Int32))).1 (g_nI (x2 + (0 : Int32))).2 ?_
    cases h
    exact r_vret C hr d_M_compare_116
  · rw [if_neg c7] at h
    refine r_iload (x := v7) C d_M_compare_102 rfl ?_
    refine r_if_eq C 111 d_M_compare_104 (by decide) (fun c6 => ?_) (fun c6 => ?_)
    · rw [if_pos c6] at h
      refine r_iconst C (0 : Int32) d_M_compare_111 (by decide) ?_
      refine r_iadd C d_M_compare_112 ?_
      replace h := g_ob h; obtain ⟨V4, e_V4, h⟩ := h
      refine r_put C f_M_133 d_M_compare_113 e_V4 (g_nI (x2 + (0 : Int32))).1 (g_nI (x2 + (0 : Int32))).2 ?_
      cases h
      exact r_vret C hr d_M_compare_116
    · rw [if_neg c6] at h
      refine r_iconst C (1 : Int32) d_M_compare_107 (by decide) ?_
      refine r_goto C 112 d_M_compare_108 (by decide) ?_
      refine r_iadd C d_M_compare_112 ?_
      replace h := g_ob h; obtain ⟨V5, e_V5, h⟩ := h
      refine r_put C f_M_133 d_M_compare_113 e_V5 (g_nI (x2 + (1 : Int32))).1 (g_nI (x2 + (1 : Int32))).2 ?_
      cases h
      exact r_vret C hr d_M_compare_116
set_option maxHeartbeats 4000000 in
set_option maxRecDepth 100000 in
theorem t_M_compare_89 (C : gC E base p s m args meth c b_M_compare R_M 9) (hr : meth.sig.returnType = none) {z : Unit × gV} (v0 : Nat) (v7 : Int32) (v8 : Int32) (s0 : Int32) (s1 : Int32) (s2 : Nat) (V : gV) (h : D_M_compare_89 L  v0 v7 v8 s0 s1 s2 V = some z) : vW E base base 9 p l e rm_M_compare s m args below meth c 0 0 (g_MQ E base base below args s 0 0 L z.2 none) L V 89 [(0, tR (some v0)), (7, tI v7), (8, tI v8)] [tI s0, tI s1, tR (some s2)] := by
  unfold D_M_compare_89 at h
  refine r_iconst C (0 : Int32) d_M_compare_89 (by decide) ?_
  exact t_M_compare_90 C hr  v0 v7 v8 (0 : Int32) s0 s1 s2 V h
set_option maxHeartbeats 4000000 in
set_option maxRecDepth 100000 in
theorem t_M_compare_60 (C : gC E base p s m args meth c b_M_compare R_M 9) (hr : meth.sig.returnType = none) {z : Unit × gV} (v0 : Nat) (v1 : Int32) (v3 : Int64) (v7 : Int32) (v8 : Int32) (s0 : Int32) (s1 : Int32) (s2 : Int32) (s3 : Nat) (V : gV) (h : D_M_compare_60 L  v0 v1 v3 v7 v8 s0 s1 s2 s3 V = some z) : vW E base base 9 p l e rm_M_compare s m args below meth c 0 0 (g_MQ E base base below args s 0 0 L z.2 none) L V 60 [(0, tR (some v0)), (1, tI v1), (3, tJ v3), (7, tI v7), (8, tI v8)] [tI s0, tI s1, tI s2, tR (some s3)] := by
  unfold D_M_compare_60 at h
  refine r_iadd C d_M_compare_60 ?_
  replace h := g_ob h; obtain ⟨V1, e_V1, h⟩ := h
  refine r_iast C ak_100 d_M_compare_61 e_V1 ?_
  refine r_aload_n (x := (some v0)) C d_M_compare_62 rfl rfl ?_
  replace h := g_ob h; obtain ⟨x2, e_x2, h⟩ := h
  refine r_getR C f_M_60 d_M_compare_63 e_x2 ?_
  refine r_iconst C (2 : Int32) d_M_compare_66 (by decide) ?_
  refine r_dup2 C d_M_compare_67 rfl rfl ?_
  replace h := g_ob h; obtain ⟨a3, rfl, h⟩ := h
  replace h := g_ob h; obtain ⟨x4, e_x4, h⟩ := h
  refine r_iald C ak_100 d_M_compare_68 e_x4 ?_
  refine r_iload (x := v8) C d_M_compare_69 rfl ?_
  refine r_if_ne C 89 d_M_compare_71 (by decide) (fun c9 => ?_) (fun c9 => ?_)
  · rw [if_neg c9] at h
    refine r_lv [0, 3, 4] rfl ?_
    exact t_M_compare_89 C hr  v0 v7 v8 x4 (2 : Int32) a3 V1 h
  · rw [if_pos c9] at h
    refine r_aload_n (x := (some v0)) C d_M_compare_74 rfl rfl ?_
    refine r_iload_n (x := v1) C d_M_compare_75 rfl rfl ?_
    refine r_iconst C (0 : Int32) d_M_compare_76 (by decide) ?_
    replace h := g_ob h; obtain ⟨n8, e_n8, h⟩ := h
    replace h := g_o2 h; obtain ⟨r5, V6, e_r5, h⟩ := h
    refine r_callV (As := [tI v1, tI (0 : Int32)]) C k_M_101 w_269 w_270 w_267 ⟨_, _, rfl⟩ (c_M_partOf l E base base v0 v1 (0 : Int32) L V1 e_r5) d_M_compare_77 e_n8 rfl ⟨Nat.le_of_ble_eq_true rfl, Nat.le_of_ble_eq_true rfl⟩ (Nat.le_of_ble_eq_true rfl) (Nat.le_of_ble_eq_true rfl) (Nat.le_of_ble_eq_true rfl) rfl ?_
    refine r_lload_n (x := v3) C d_M_compare_80 rfl rfl ?_
    refine r_lcmp C d_M_compare_81 ?_
    refine r_if_ne C 89 d_M_compare_82 (by decide) (fun c7 => ?_) (fun c7 => ?_)
    · rw [if_neg c7] at h
      refine r_lv [0, 3, 4] rfl ?_
      exact t_M_compare_89 C hr  v0 v7 v8 x4 (2 : Int32) a3 V6 h
    · rw [if_pos c7] at h
      refine r_iconst C (1 : Int32) d_M_compare_85 (by decide) ?_
      refine r_goto C 90 d_M_compare_86 (by decide) ?_
      refine r_lv [0, 3, 4] rfl ?_
      exact t_M_compare_90 C hr  v0 v7 v8 (1 : Int32) x4 (2 : Int32) a3 V6 h
set_option maxHeartbeats 4000000 in
set_option maxRecDepth 100000 in
theorem t_M_compare_41 (C : gC E base p s m args meth c b_M_compare R_M 9) (hr : meth.sig.returnType = none) {z : Unit × gV} (v0 : Nat) (v1 : Int32) (v3 : Int64) (v7 : Int32) (s0 : Int32) (V : gV) (h : D_M_compare_41 L  v0 v1 v3 v7 s0 V = some z) : vW E base base 9 p l e rm_M_compare s m args below meth c 0 0 (g_MQ E base base below args s 0 0 L z.2 none) L V 41 [(0, tR (some v0)), (1, tI v1), (3, tJ v3), (7, tI v7)] [tI s0] := by
  unfold D_M_compare_41 at h
  refine r_istore (lv' := [(8, tI s0), (0, tR (some v0)), (1, tI v1), (3, tJ v3), (7, tI v7)]) C d_M_compare_41 (by decide) rfl ?_
  refine r_aload_n (x := (some v0)) C d_M_compare_43 rfl rfl ?_
  replace h := g_ob h; obtain ⟨x1, e_x1, h⟩ := h
  refine r_getR C f_M_60 d_M_compare_44 e_x1 ?_
  refine r_iconst C (1 : Int32) d_M_compare_47 (by decide) ?_
  refine r_dup2 C d_M_compare_48 rfl rfl ?_
  replace h := g_ob h; obtain ⟨a2, rfl, h⟩ := h
  replace h := g_ob h; obtain ⟨x3, e_x3, h⟩ := h
  refine r_iald C ak_100 d_M_compare_49 e_x3 ?_
  refine r_iload (x := s0) C d_M_compare_50 rfl ?_
  refine r_if_eq C 59 d_M_compare_52 (by decide) (fun c4 => ?_) (fun c4 => ?_)
  · rw [if_pos c4] at h
    refine r_iconst C (0 : Int32) d_M_compare_59 (by decide) ?_
    refine r_lv [1, 2, 3, 4, 0] rfl ?_
    exact t_M_compare_60 C hr  v0 v1 v3 v7 s0 (0 : Int32) x3 (1 : Int32) a2 V h
  · rw [if_neg c4] at h
    refine r_iconst C (1 : Int32) d_M_compare_55 (by decide) ?_
    refine r_goto C 60 d_M_compare_56 (by decide) ?_
    refine r_lv [1, 2, 3, 4, 0] rfl ?_
    exact t_M_compare_60 C hr  v0 v1 v3 v7 s0 (1 : Int32) x3 (1 : Int32) a2 V h
set_option maxHeartbeats 4000000 in
set_option maxRecDepth 100000 in
theorem t_M_compare_40 (C : gC E base p s m args meth c b_M_compare R_M 9) (hr : meth.sig.returnType = none) {z : Unit × gV} (v0 : Nat) (v1 : Int32) (v3 : Int64) (v7 : Int32) (V : gV) (h : D_M_compare_40 L  v0 v1 v3 v7 V = some z) : vW E base base 9 p l e rm_M_compare s m args below meth c 0 0 (g_MQ E base base below args s 0 0 L z.2 none) L V 40 [(0, tR (some v0)), (1, tI v1), (3, tJ v3), (7, tI v7)] [] := by
  unfold D_M_compare_40 at h
  refine r_iconst C (0 : Int32) d_M_compare_40 (by decide) ?_
  exact t_M_compare_41 C hr  v0 v1 v3 v7 (0 : Int32) V h
set_option maxHeartbeats 4000000 in
set_option maxRecDepth 100000 in
theorem t_M_compare_0 (C : gC E base p s m args meth c b_M_compare R_M 9) (hr : meth.sig.returnType = none) {z : Unit × gV} (h0 : Nat) (p1 : Int32) (p2 : Int32) (p3 : Int64) (p5 : Int64) (p7 : Int32) (V : gV) (h : D_M_compare h0 p1 p2 p3 p5 p7 L V = some z) : vW E base base 9 p l e rm_M_compare s m args below meth c 0 0 (g_MQ E base base below args s 0 0 L z.2 none) L V 0 [(0, tR (some h0)), (1, tI p1), (2, tI p2), (3, tJ p3), (5, tJ p5), (7, tI p7)] [] := by
  unfold D_M_compare at h
  refine r_iload_n (x := p2) C d_M_compare_0 rfl rfl ?_
  refine r_if_eq C 12 d_M_compare_1 (by decide) (fun c13 => ?_) (fun c13 => ?_)
  · rw [if_pos c13] at h
    cases h
    exact r_vret C hr d_M_compare_12
  · rw [if_neg c13] at h
    refine r_aload_n (x := (some h0)) C d_M_compare_4 rfl rfl ?_
    refine r_iload_n (x := p1) C d_M_compare_5 rfl rfl ?_
    replace h := g_ob h; obtain ⟨n12, e_n12, h⟩ := h
    replace h := g_o2 h; obtain ⟨r1, V2, e_r1, h⟩ := h
    refine r_callV (As := [tI p1]) C k_M_130 w_301 w_302 w_299 ⟨_, _, rfl⟩ (c_M_hasOutput l E base base h0 p1 L V e_r1) d_M_compare_6 e_n12 rfl ⟨Nat.le_of_ble_eq_true rfl, Nat.le_of_ble_eq_true rfl⟩ (Nat.le_of_ble_eq_true rfl) (Nat.le_of_ble_eq_true rfl) (Nat.le_of_ble_eq_true rfl) rfl ?_
    refine r_if_ne C 13 d_M_compare_9 (by decide) (fun c11 => ?_) (fun c11 => ?_)
    · rw [if_neg c11] at h
      refine r_aload_n (x := (some h0)) C d_M_compare_13 rfl rfl ?_
      refine r_iload_n (x := p1) C d_M_compare_14 rfl rfl ?_
      refine r_iconst C (1 : Int32) d_M_compare_15 (by decide) ?_
      replace h := g_ob h; obtain ⟨n10, e_n10, h⟩ := h
      replace h := g_o2 h; obtain ⟨r3, V4, e_r3, h⟩ := h
      refine r_callV (As := [tI p1, tI (1 : Int32)]) C k_M_101 w_269 w_270 w_267 ⟨_, _, rfl⟩ (c_M_partOf l E base base h0 p1 (1 : Int32) L V2 e_r3) d_M_compare_16 e_n10 rfl ⟨Nat.le_of_ble_eq_true rfl, Nat.le_of_ble_eq_true rfl⟩ (Nat.le_of_ble_eq_true rfl) (Nat.le_of_ble_eq_true rfl) (Nat.le_of_ble_eq_true rfl) rfl ?_
      refine r_lload (x := p5) C d_M_compare_19 rfl ?_
      refine r_lcmp C d_M_compare_21 ?_
      refine r_if_ne C 40 d_M_compare_22 (by decide) (fun c9 => ?_) (fun c9 => ?_)
      · rw [if_neg c9] at h
        refine r_lv [0, 1, 3, 5] rfl ?_
        exact t_M_compare_40 C hr  h0 p1 p3 p7 V4 h
      · rw [if_pos c9] at h
        refine r_aload_n (x := (some h0)) C d_M_compare_25 rfl rfl ?_
        refine r_iload_n (x := p1) C d_M_compare_26 rfl rfl ?_
        refine r_iconst C (0 : Int32) d_M_compare_27 (by decide) ?_
        replace h := g_ob h; obtain ⟨n8, e_n8, h⟩ := h
        replace h := g_o2 h; obtain ⟨r5, V6, e_r5, h⟩ := h
        refine r_callV (As := [tI p1, tI (0 : Int32)]) C k_M_101 w_269 w_270 w_267 ⟨_, _, rfl⟩ (c_M_partOf l E base base h0 p1 (0 : Int32) L V4 e_r5) d_M_compare_28 e_n8 rfl ⟨Nat.le_of_ble_eq_true rfl, Nat.le_of_ble_eq_true rfl⟩ (Nat.le_of_ble_eq_true rfl) (Nat.le_of_ble_eq_true rfl) (Nat.le_of_ble_eq_true rfl) rfl ?_
        refine r_lload_n (x := p3) C d_M_compare_31 rfl rfl ?_
        refine r_lcmp C d_M_compare_32 ?_
        refine r_if_ne C 40 d_M_compare_33 (by decide) (fun c7 => ?_) (fun c7 => ?_)
        · rw [if_neg c7] at h
          refine r_lv [0, 1, 3, 5] rfl ?_
          exact t_M_compare_40 C hr  h0 p1 p3 p7 V6 h
        · rw [if_pos c7] at h
          refine r_iconst C (1 : Int32) d_M_compare_36 (by decide) ?_
          refine r_goto C 41 d_M_compare_37 (by decide) ?_
          refine r_lv [0, 1, 3, 5] rfl ?_
          exact t_M_compare_41 C hr  h0 p1 p3 p7 (1 : Int32) V6 h
    · rw [if_pos c11] at h
      cases h
      exact r_vret C hr d_M_compare_12
theorem c_M_compare (l : Launch) (E : gE) (base : Nat) (h0 : Nat) (p1 : Int32) (p2 : Int32) (p3 : Int64) (p5 : Int64) (p7 : Int32) (L : gL) (V : gV) {z : Unit × gV} (h : D_M_compare h0 p1 p2 p3 p5 p7 L V = some z) : g_Met l E base base y_M_compare b_M_compare 9 none rm_M_compare [tR (some h0), tI p1, tI p2, tJ p3, tJ p5, tI p7] L V none L z.2 :=
  r_enter R_M (by decide) rfl [tR (some h0), tI p1, tI p2, tJ p3, tJ p5, tI p7] [(0, tR (some h0)), (1, tI p1), (2, tI p2), (3, tJ p3), (5, tJ p5), (7, tI p7)] rfl (Nat.le_of_ble_eq_true rfl) (fun p e s m args below meth c C hr hnm => t_M_compare_0 C hr h0 p1 p2 p3 p5 p7 V h)
def rm_M_go : Room := { frames := 6, cells := 0, slots := 0, locals := 142 }
def D_M_go_147 (L : gL) (v0 : Nat) (v1 : Int32) (v2 : Int32) (v3 : Int64) (v5 : Int64) (v7 : Int32) (s0 : Int32) (s1 : Int32) (s2 : Int32) (s3 : Nat) (V : gV) : Option (Int32 × gV) :=
  Option.bind (g_wa L V 100 s3 s2 (tI (s1 + s0))) fun V1 =>
    (if v7 ≤ 0 then
    some ((0 : Int32), V1)
  else
    Option.bind ((L).2 4 v0) fun n4 =>
    g_b2 (D_M_compare v0 v1 v2 v3 v5 (0 : Int32) L V1) fun r2 V3 =>
    some ((0 : Int32), V3))
def D_M_go_125 (L : gL) (v0 : Nat) (v1 : Int32) (v2 : Int32) (v3 : Int64) (v5 : Int64) (v7 : Int32) (s0 : Int32) (s1 : Int32) (s2 : Option Nat) (V : gV) : Option (Int32 × gV) :=
  Option.bind s2 fun a1 =>
    Option.bind (g_wa L V 100 a1 s1 (tI s0)) fun V2 =>
    Option.bind (g_rR L V2 4 v0 19) fun x3 =>
    Option.bind x3 fun a4 =>
    Option.bind (g_aI L V2 100 a4 (0 : Int32)) fun x5 =>
    Option.bind (g_rR L V2 4 v0 22) fun x6 =>
    Option.bind x6 fun a7 =>
    Option.bind (g_aI L V2 102 a7 v1) fun x8 =>
    (if x8 = 0 then
    D_M_go_147 L  v0 v1 v2 v3 v5 v7 (0 : Int32) x5 (0 : Int32) a4 V2
  else
    D_M_go_147 L  v0 v1 v2 v3 v5 v7 (1 : Int32) x5 (0 : Int32) a4 V2)
def D_M_go_232 (L : gL) (v0 : Nat) (v1 : Int32) (v2 : Int32) (v3 : Int64) (v5 : Int64) (s0 : Int32) (s1 : Int32) (s2 : Option Nat) (V : gV) : Option (Int32 × gV) :=
  Option.bind s2 fun a1 =>
    Option.bind (g_wa L V 100 a1 s1 (tI s0)) fun V2 =>
    Option.bind ((L).2 4 v0) fun n5 =>
    g_b2 (D_M_compare v0 v1 v2 v3 v5 (1 : Int32) L V2) fun r3 V4 =>
    some ((1 : Int32), V4)
def D_M_go_82 (L : gL) (v0 : Nat) (v1 : Int32) (v2 : Int32) (v3 : Int64) (v5 : Int64) (s0 : Int32) (V : gV) : Option (Int32 × gV) :=
  (if s0 = (-1 : Int32) then
    Option.bind (g_rR L V 4 v0 18) fun x1 =>
    Option.bind ((L).2 4 v0) fun n26 =>
    g_b2 (D_M_causeOf v0 v1 L V) fun r2 V3 =>
    Option.bind x1 fun a4 =>
    Option.bind (g_wa L V3 100 a4 v1 (tI r2)) fun V5 =>
    Option.bind (g_rR L V5 4 v0 20) fun x6 =>
    Option.bind (g_rR L V5 4 v0 18) fun x7 =>
    Option.bind x7 fun a8 =>
    Option.bind (g_aI L V5 100 a8 v1) fun x9 =>
    Option.bind x6 fun a10 =>
    Option.bind (g_aI L V5 100 a10 x9) fun x11 =>
    Option.bind (g_wa L V5 100 a10 x9 (tI (x11 + (1 : Int32)))) fun V12 =>
    Option.bind (g_rI L V12 4 v0 24) fun x13 =>
    Option.bind (g_wr L V12 4 v0 24 (tI (x13 + (1 : Int32)))) fun V14 =>
    Option.bind (g_rR L V14 4 v0 7) fun x15 =>
    Option.bind x15 fun a16 =>
    Option.bind (g_wa L V14 102 a16 v1 (tI (0 : Int32))) fun V17 =>
    Option.bind ((L).2 4 v0) fun n25 =>
    g_b2 (D_M_work v0 v1 L V17) fun r18 V19 =>
    Option.bind (g_rR L V19 4 v0 17) fun x20 =>
    Option.bind ((L).2 4 v0) fun n24 =>
    g_b2 (D_M_hasOutput v0 v1 L V19) fun r21 V22 =>
    (if r21 = 0 then
    D_M_go_232 L  v0 v1 v2 v3 v5 (3 : Int32) v1 x20 V22
  else
    D_M_go_232 L  v0 v1 v2 v3 v5 (2 : Int32) v1 x20 V22)
  else
    Option.bind ((L).2 4 v0) fun n35 =>
    g_b2 (D_M_bring v0 v1 s0 L V) fun r27 V28 =>
    Option.bind (g_rR L V28 4 v0 17) fun x29 =>
    Option.bind ((L).2 4 v0) fun n34 =>
    g_b2 (D_M_hasOutput v0 v1 L V28) fun r30 V31 =>
    (if r30 = 0 then
    D_M_go_125 L  v0 v1 v2 v3 v5 s0 (4 : Int32) v1 x29 V31
  else
    (if s0 = 0 then
    D_M_go_125 L  v0 v1 v2 v3 v5 s0 (1 : Int32) v1 x29 V31
  else
    D_M_go_125 L  v0 v1 v2 v3 v5 s0 (6 : Int32) v1 x29 V31)))
def D_M_go_62 (L : gL) (v0 : Nat) (v1 : Int32) (v2 : Int32) (v3 : Int64) (s0 : Int64) (V : gV) : Option (Int32 × gV) :=
  Option.bind (g_rR L V 4 v0 7) fun x1 =>
    Option.bind x1 fun a2 =>
    Option.bind (g_aI L V 102 a2 v1) fun x3 =>
    (if x3 = 0 then
    Option.bind ((L).2 4 v0) fun n6 =>
    g_b2 (D_M_matching v0 v1 L V) fun r4 V5 =>
    D_M_go_82 L  v0 v1 v2 v3 s0 r4 V5
  else
    D_M_go_82 L  v0 v1 v2 v3 s0 (-1 : Int32) V)
def D_M_go_47 (L : gL) (v0 : Nat) (v1 : Int32) (v2 : Int32) (s0 : Int64) (V : gV) : Option (Int32 × gV) :=
  (if v2 = 0 then
    D_M_go_62 L  v0 v1 v2 s0 (0 : Int64) V
  else
    Option.bind ((L).2 4 v0) fun n3 =>
    g_b2 (D_M_partOf v0 v1 (1 : Int32) L V) fun r1 V2 =>
    D_M_go_62 L  v0 v1 v2 s0 r1 V2)
def D_M_go (h0 : Nat) (p1 : Int32) (L : gL) (V : gV) : Option (Int32 × gV) :=
  Option.bind ((L).2 4 h0) fun n18 =>
    g_b2 (D_M_isBlocked h0 p1 L V) fun r1 V2 =>
    (if r1 = 0 then
    Option.bind ((L).2 4 h0) fun n9 =>
    g_b2 (D_M_hasOutput h0 p1 L V2) fun r3 V4 =>
    (if r3 = 0 then
    D_M_go_47 L  h0 p1 r3 (0 : Int64) V4
  else
    Option.bind ((L).2 4 h0) fun n7 =>
    g_b2 (D_M_partOf h0 p1 (0 : Int32) L V4) fun r5 V6 =>
    D_M_go_47 L  h0 p1 r3 r5 V6)
  else
    Option.bind (g_rR L V2 4 h0 17) fun x10 =>
    Option.bind x10 fun a11 =>
    Option.bind (g_wa L V2 100 a11 p1 (tI (5 : Int32))) fun V12 =>
    Option.bind (g_rR L V12 4 h0 19) fun x13 =>
    Option.bind x13 fun a14 =>
    Option.bind (g_aI L V12 100 a14 (3 : Int32)) fun x15 =>
    Option.bind (g_wa L V12 100 a14 (3 : Int32) (tI (x15 + (1 : Int32)))) fun V16 =>
    some ((0 : Int32), V16))
set_option maxHeartbeats 4000000 in
set_option maxRecDepth 100000 in
theorem t_M_go_147 (C : gC E base p s m args meth c b_M_go R_M 8) (hr : meth.sig.returnType = (some .int)) {z : Int32 × gV} (v0 : Nat) (v1 : Int32) (v2 : Int32) (v3 : Int64) (v5 : Int64) (v7 : Int32) (s0 : Int32) (s1 : Int32) (s2 : Int32) (s3 : Nat) (V : gV) (h : D_M_go_147 L  v0 v1 v2 v3 v5 v7 s0 s1 s2 s3 V = some z) : vW E base base 8 p l e rm_M_go s m args below meth c 0 0 (g_MQ E base base below args s 0 0 L z.2 (some (tI z.1))) L V 147 [(0, tR (some v0)), (1, tI v1), (2, tI v2), (3, tJ v3), (5, tJ v5), (7, tI v7)] [tI s0, tI s1, tI s2, tR (some s3)] := by
  unfold D_M_go_147 at h
  refine r_iadd C d_M_go_147 ?_
  replace h := g_ob h; obtain ⟨V1, e_V1, h⟩ := h
  refine r_iast C ak_100 d_M_go_148 e_V1 ?_
  refine r_iload (x := v7) C d_M_go_149 rfl ?_
  refine r_if_le C 164 d_M_go_151 (by decide) (fun c5 => ?_) (fun c5 => ?_)
  · rw [if_pos c5] at h
    refine r_iconst C (0 : Int32) d_M_go_164 (by decide) ?_
    cases h
    exact r_iret C hr d_M_go_165
  · rw [if_neg c5] at h
    refine r_aload_n (x := (some v0)) C d_M_go_154 rfl rfl ?_
    refine r_iload_n (x := v1) C d_M_go_155 rfl rfl ?_
    refine r_iload_n (x := v2) C d_M_go_156 rfl rfl ?_
    refine r_lload_n (x := v3) C d_M_go_157 rfl rfl ?_
    refine r_lload (x := v5) C d_M_go_158 rfl ?_
    refine r_iconst C (0 : Int32) d_M_go_160 (by decide) ?_
    replace h := g_ob h; obtain ⟨n4, e_n4, h⟩ := h
    replace h := g_o2 h; obtain ⟨r2, V3, e_r2, h⟩ := h
    refine r_callV (As := [tI v1, tI v2, tJ v3, tJ v5, tI (0 : Int32)]) C k_M_142 w_323 w_324 w_321 ⟨_, _, rfl⟩ (c_M_compare l E base v0 v1 v2 v3 v5 (0 : Int32) L V1 e_r2) d_M_go_161 e_n4 rfl ⟨Nat.le_of_ble_eq_true rfl, Nat.le_of_ble_eq_true rfl⟩ (Nat.le_of_ble_eq_true rfl) (Nat.le_of_ble_eq_true rfl) (Nat.le_of_ble_eq_true rfl) rfl ?_
    refine r_iconst C (0 : Int32) d_M_go_164 (by decide) ?_
    cases h
    exact r_iret C hr d_M_go_165
set_option maxHeartbeats 4000000 in
set_option maxRecDepth 100000 in
theorem t_M_go_125 (C : gC E base p s m args meth c b_M_go R_M 8) (hr : meth.sig.returnType = (some .int)) {z : Int32 × gV} (v0 : Nat) (v1 : Int32) (v2 : Int32) (v3 : Int64) (v5 : Int64) (v7 : Int32) (s0 : Int32) (s1 : Int32) (s2 : Option Nat) (V : gV) (h : D_M_go_125 L  v0 v1 v2 v3 v5 v7 s0 s1 s2 V = some z) : vW E base base 8 p l e rm_M_go s m args below meth c 0 0 (g_MQ E base base below args s 0 0 L z.2 (some (tI z.1))) L V 125 [(0, tR (some v0)), (1, tI v1), (2, tI v2), (3, tJ v3), (5, tJ v5), (7, tI v7)] [tI s0, tI s1, tR s2] := by
  unfold D_M_go_125 at h
  replace h := g_ob h; obtain ⟨a1, rfl, h⟩ := h
  replace h := g_ob h; obtain ⟨V2, e_V2, h⟩ := h
  refine r_iast C ak_100 d_M_go_125 e_V2 ?_
  refine r_aload_n (x := (some v0)) C d_M_go_126 rfl rfl ?_
  replace h := g_ob h; obtain ⟨x3, e_x3, h⟩ := h
  refine r_getR C f_M_60 d_M_go_127 e_x3 ?_
  refine r_iconst C (0 : Int32) d_M_go_130 (by decide) ?_
  refine r_dup2 C d_M_go_131 rfl rfl ?_
  replace h := g_ob h; obtain ⟨a4, rfl, h⟩ := h
  replace h := g_ob h; obtain ⟨x5, e_x5, h⟩ := h
  refine r_iald C ak_100 d_M_go_132 e_x5 ?_
  refine r_aload_n (x := (some v0)) C d_M_go_133 rfl rfl ?_
  replace h := g_ob h; obtain ⟨x6, e_x6, h⟩ := h
  refine r_getR C f_M_69 d_M_go_134 e_x6 ?_
  refine r_iload_n (x := v1) C d_M_go_137 rfl rfl ?_
  replace h := g_ob h; obtain ⟨a7, rfl, h⟩ := h
  replace h := g_ob h; obtain ⟨x8, e_x8, h⟩ := h
  refine r_zald C ak_102 d_M_go_138 e_x8 ?_
  refine r_if_eq C 146 d_M_go_139 (by decide) (fun c9 => ?_) (fun c9 => ?_)
  · rw [if_pos c9] at h
    refine r_iconst C (0 : Int32) d_M_go_146 (by decide) ?_
    exact t_M_go_147 C hr  v0 v1 v2 v3 v5 v7 (0 : Int32) x5 (0 : Int32) a4 V2 h
  · rw [if_neg c9] at h
    refine r_iconst C (1 : Int32) d_M_go_142 (by decide) ?_
    refine r_goto C 147 d_M_go_143 (by decide) ?_
    exact t_M_go_147 C hr  v0 v1 v2 v3 v5 v7 (1 : Int32) x5 (0 : Int32) a4 V2 h
set_option maxHeartbeats 4000000 in
set_option maxRecDepth 100000 in
theorem t_M_go_232 (C : gC E base p s m args meth c b_M_go R_M 8) (hr : meth.sig.returnType = (some .int)) {z : Int32 × gV} (v0 : Nat) (v1 : Int32) (v2 : Int32) (v3 : Int64) (v5 : Int64) (s0 : Int32) (s1 : Int32) (s2 : Option Nat) (V : gV) (h : D_M_go_232 L  v0 v1 v2 v3 v5 s0 s1 s2 V = some z) : vW E base base 8 p l e rm_M_go s m args below meth c 0 0 (g_MQ E base base below args s 0 0 L z.2 (some (tI z.1))) L V 232 [(0, tR (some v0)), (1, tI v1), (2, tI v2), (3, tJ v3), (5, tJ v5)] [tI s0, tI s1, tR s2] := by
  unfold D_M_go_232 at h
  replace h := g_ob h; obtain ⟨a1, rfl, h⟩ := h
  replace h := g_ob h; obtain ⟨V2, e_V2, h⟩ := h
  refine r_iast C ak_100 d_M_go_232 e_V2 ?_
  refine r_aload_n (x := (some v0)) C d_M_go_233 rfl rfl ?_
  refine r_iload_n (x := v1) C d_M_go_234 rfl rfl ?_
  refine r_iload_n (x := v2) C d_M_go_235 rfl rfl ?_
  refine r_lload_n (x := v3) C d_M_go_236 rfl rfl ?_
  refine r_lload (x := v5) C d_M_go_237 rfl ?_
  refine r_iconst C (1 : Int32) d_M_go_239 (by decide) ?_
  replace h := g_ob h; obtain ⟨n5, e_n5, h⟩ := h
  replace h := g_o2 h; obtain ⟨r3, V4, e_r3, h⟩ := h
  refine r_callV (As := [tI v1, tI v2, tJ v3, tJ v5, tI (1 : Int32)]) C k_M_142 w_323 w_324 w_321 ⟨_, _, rfl⟩ (c_M_compare l E base v0 v1 v2 v3 v5 (1 : Int32) L V2 e_r3) d_M_go_240 e_n5 rfl ⟨Nat.le_of_ble_eq_true rfl, Nat.le_of_ble_eq_true rfl⟩ (Nat.le_of_ble_eq_true rfl) (Nat.le_of_ble_eq_true rfl) (Nat.le_of_ble_eq_true rfl) rfl ?_
  refine r_iconst C (1 : Int32) d_M_go_243 (by decide) ?_
  cases h
  exact r_iret C hr d_M_go_244
set_option maxHeartbeats 4000000 in
set_option maxRecDepth 100000 in
theorem t_M_go_82 (C : gC E base p s m args meth c b_M_go R_M 8) (hr : meth.sig.returnType = (some .int)) {z : Int32 × gV} (v0 : Nat) (v1 : Int32) (v2 : Int32) (v3 : Int64) (v5 : Int64) (s0 : Int32) (V : gV) (h : D_M_go_82 L  v0 v1 v2 v3 v5 s0 V = some z) : vW E base base 8 p l e rm_M_go s m args below meth c 0 0 (g_MQ E base base below args s 0 0 L z.2 (some (tI z.1))) L V 82 [(0, tR (some v0)), (1, tI v1), (2, tI v2), (3, tJ v3), (5, tJ v5)] [tI s0] := by
  unfold D_M_go_82 at h
  refine r_istore (lv' := [(7, tI s0), (0, tR (some v0)), (1, tI v1), (2, tI v2), (3, tJ v3), (5, tJ v5)]) C d_M_go_82 (by decide) rfl ?_
  refine r_iload (x := s0) C d_M_go_84 rfl ?_
  refine r_iconst C (-1 : Int32) d_M_go_86 (by decide) ?_
  refine r_icmp_eq C 166 d_M_go_87 (by decide) (fun c36 => ?_) (fun c36 => ?_)
  · rw [if_pos c36] at h
    refine r_aload_n (x := (some v0)) C d_M_go_166 rfl rfl ?_
    replace h := g_ob h; obtain ⟨x1, e_x1, h⟩ := h
    refine r_getR C f_M_57 d_M_go_167 e_x1 ?_
    refine r_iload_n (x := v1) C d_M_go_170 rfl rfl ?_
    refine r_aload_n (x := (some v0)) C d_M_go_171 rfl rfl ?_
    refine r_iload_n (x := v1) C d_M_go_172 rfl rfl ?_
    replace h := g_ob h; obtain ⟨n26, e_n26, h⟩ := h
    replace h := g_o2 h; obtain ⟨r2, V3, e_r2, h⟩ := h
    refine r_callV (As := [tI v1]) C k_M_146 w_315 w_316 w_308 ⟨_, _, rfl⟩ (c_M_causeOf l E base base v0 v1 L V e_r2) d_M_go_173 e_n26 rfl ⟨Nat.le_of_ble_eq_true rfl, Nat.le_of_ble_eq_true rfl⟩ (Nat.le_of_ble_eq_true rfl) (Nat.le_of_ble_eq_true rfl) (Nat.le_of_ble_eq_true rfl) rfl ?_
    replace h := g_ob h; obtain ⟨a4, rfl, h⟩ := h
    replace h := g_ob h; obtain ⟨V5, e_V5, h⟩ := h
    refine r_iast C ak_100 d_M_go_176 e_V5 ?_
    refine r_aload_n (x := (some v0)) C d_M_go_177 rfl rfl ?_
    replace h := g_ob h; obtain ⟨x6, e_x6, h⟩ := h
    refine r_getR C f_M_63 d_M_go_178 e_x6 ?_
    refine r_aload_n (x := (some v0)) C d_M_go_181 rfl rfl ?_
    replace h := g_ob h; obtain ⟨x7, e_x7, h⟩ := h
    refine r_getR C f_M_57 d_M_go_182 e_x7 ?_
    refine r_iload_n (x := v1) C d_M_go_185 rfl rfl ?_
    replace h := g_ob h; obtain ⟨a8, rfl, h⟩ := h
    replace h := g_ob h; obtain ⟨x9, e_x9, h⟩ := h
    refine r_iald C ak_100 d_M_go_186 e_x9 ?_
    refine r_dup2 C d_M_go_187 rfl rfl ?_
    replace h := g_ob h; obtain ⟨a10, rfl, h⟩ := h
    replace h := g_ob h; obtain ⟨x11, e_x11, h⟩ := h
    refine r_iald C ak_100 d_M_go_188 e_x11 ?_
    refine r_iconst C (1 : Int32) d_M_go_189 (by decide) ?_
    refine r_iadd C d_M_go_190 ?_
    replace h := g_ob h; obtain ⟨V12, e_V12, h⟩ := h
    refine r_iast C ak_100 d_M_go_191 e_V12 ?_
    refine r_aload_n (x := (some v0)) C d_M_go_192 rfl rfl ?_
    refine r_dup C d_M_go_193 rfl ?_
    replace h := g_ob h; obtain ⟨x13, e_x13, h⟩ := h
    refine r_getI C f_M_149 d_M_go_194 e_x13 ?_
    refine r_iconst C (1 : Int32) d_M_go_197 (by decide) ?_
    refine r_iadd C d_M_go_198 ?_
    replace h := g_ob h; obtain ⟨V14, e_V14, h⟩ := h
    refine r_put C f_M_149 d_M_go_199 e_V14 (g_nI (x13 + (1 : Int32))).1 (g_nI (x13 + (1 : Int32))).2 ?_
    refine r_aload_n (x := (some v0)) C d_M_go_202 rfl rfl ?_
    replace h := g_ob h; obtain ⟨x15, e_x15, h⟩ := h
    refine r_getR C f_M_23 d_M_go_203 e_x15 ?_
    refine r_iload_n (x := v1) C d_M_go_206 rfl rfl ?_
    refine r_iconst C (0 : Int32) d_M_go_207 (by decide) ?_
    replace h := g_ob h; obtain ⟨a16, rfl, h⟩ := h
    replace h := g_ob h; obtain ⟨V17, e_V17, h⟩ := h
    refine r_zast C ak_102 d_M_go_208 (Or.inl rfl) e_V17 ?_
    refine r_aload_n (x := (some v0)) C d_M_go_209 rfl rfl ?_
    refine r_iload_n (x := v1) C d_M_go_210 rfl rfl ?_
    replace h := g_ob h; obtain ⟨n25, e_n25, h⟩ := h
    replace h := g_o2 h; obtain ⟨r18, V19, e_r18, h⟩ := h
    refine r_callV (As := [tI v1]) C k_M_152 w_313 w_314 w_311 ⟨_, _, rfl⟩ (c_M_work l E base v0 v1 L V17 e_r18) d_M_go_211 e_n25 rfl ⟨Nat.le_of_ble_eq_true rfl, Nat.le_of_ble_eq_true rfl⟩ (Nat.le_of_ble_eq_true rfl) (Nat.le_of_ble_eq_true rfl) (Nat.le_of_ble_eq_true rfl) rfl ?_
    refine r_aload_n (x := (some v0)) C d_M_go_214 rfl rfl ?_
    replace h := g_ob h; obtain ⟨x20, e_x20, h⟩ := h
    refine r_getR C f_M_54 d_M_go_215 e_x20 ?_
    refine r_iload_n (x := v1) C d_M_go_218 rfl rfl ?_
    refine r_aload_n (x := (some v0)) C d_M_go_219 rfl rfl ?_
    refine r_iload_n (x := v1) C d_M_go_220 rfl rfl ?_
    replace h := g_ob h; obtain ⟨n24, e_n24, h⟩ := h
    replace h := g_o2 h; obtain ⟨r21, V22, e_r21, h⟩ := h
    refine r_callV (As := [tI v1]) C k_M_130 w_301 w_302 w_299 ⟨_, _, rfl⟩ (c_M_hasOutput l E base base v0 v1 L V19 e_r21) d_M_go_221 e_n24 rfl ⟨Nat.le_of_ble_eq_true rfl, Nat.le_of_ble_eq_true rfl⟩ (Nat.le_of_ble_eq_true rfl) (Nat.le_of_ble_eq_true rfl) (Nat.le_of_ble_eq_true rfl) rfl ?_
    refine r_if_eq C 231 d_M_go_224 (by decide) (fun c23 => ?_) (fun c23 => ?_)
    · rw [if_pos c23] at h
      refine r_iconst C (3 : Int32) d_M_go_231 (by decide) ?_
      refine r_lv [1, 2, 3, 4, 5] rfl ?_
      exact t_M_go_232 C hr  v0 v1 v2 v3 v5 (3 : Int32) v1 x20 V22 h
    · rw [if_neg c23] at h
      refine r_iconst C (2 : Int32) d_M_go_227 (by decide) ?_
      refine r_goto C 232 d_M_go_228 (by decide) ?_
      refine r_lv [1, 2, 3, 4, 5] rfl ?_
      exact t_M_go_232 C hr  v0 v1 v2 v3 v5 (2 : Int32) v1 x20 V22 h
  · rw [if_neg c36] at h
    refine r_aload_n (x := (some v0)) C d_M_go_90 rfl rfl ?_
    refine r_iload_n (x := v1) C d_M_go_91 rfl rfl ?_
    refine r_iload (x := s0) C d_M_go_92 rfl ?_
    replace h := g_ob h; obtain ⟨n35, e_n35, h⟩ := h
    replace h := g_o2 h; obtain ⟨r27, V28, e_r27, h⟩ := h
    refine r_callV (As := [tI v1, tI s0]) C k_M_139 w_319 w_320 w_317 ⟨_, _, rfl⟩ (c_M_bring l E base v0 v1 s0 L V e_r27) d_M_go_94 e_n35 rfl ⟨Nat.le_of_ble_eq_true rfl, Nat.le_of_ble_eq_true rfl⟩ (Nat.le_of_ble_eq_true rfl) (Nat.le_of_ble_eq_true rfl) (Nat.le_of_ble_eq_true rfl) rfl ?_
    refine r_aload_n (x := (some v0)) C d_M_go_97 rfl rfl ?_
    replace h := g_ob h; obtain ⟨x29, e_x29, h⟩ := h
    refine r_getR C f_M_54 d_M_go_98 e_x29 ?_
    refine r_iload_n (x := v1) C d_M_go_101 rfl rfl ?_
    refine r_aload_n (x := (some v0)) C d_M_go_102 rfl rfl ?_
    refine r_iload_n (x := v1) C d_M_go_103 rfl rfl ?_
    replace h := g_ob h; obtain ⟨n34, e_n34, h⟩ := h
    replace h := g_o2 h; obtain ⟨r30, V31, e_r30, h⟩ := h
    refine r_callV (As := [tI v1]) C k_M_130 w_301 w_302 w_299 ⟨_, _, rfl⟩ (c_M_hasOutput l E base base v0 v1 L V28 e_r30) d_M_go_104 e_n34 rfl ⟨Nat.le_of_ble_eq_true rfl, Nat.le_of_ble_eq_true rfl⟩ (Nat.le_of_ble_eq_true rfl) (Nat.le_of_ble_eq_true rfl) (Nat.le_of_ble_eq_true rfl) rfl ?_
    refine r_if_ne C 114 d_M_go_107 (by decide) (fun c33 => ?_) (fun c33 => ?_)
    · rw [if_neg c33] at h
      refine r_iload (x := s0) C d_M_go_114 rfl ?_
      refine r_if_ne C 123 d_M_go_116 (by decide) (fun c32 => ?_) (fun c32 => ?_)
      · rw [if_neg c32] at h
        refine r_bipush C (6 : Int32) d_M_go_123 (by decide) ?_
        refine r_lv [1, 2, 3, 4, 5, 0] rfl ?_
        exact t_M_go_125 C hr  v0 v1 v2 v3 v5 s0 (6 : Int32) v1 x29 V31 h
      · rw [if_pos c32] at h
        refine r_iconst C (1 : Int32) d_M_go_119 (by decide) ?_
        refine r_goto C 125 d_M_go_120 (by decide) ?_
        refine r_lv [1, 2, 3, 4, 5, 0] rfl ?_
        exact t_M_go_125 C hr  v0 v1 v2 v3 v5 s0 (1 : Int32) v1 x29 V31 h
    · rw [if_pos c33] at h
      refine r_iconst C (4 : Int32) d_M_go_110 (by decide) ?_
      refine r_goto C 125 d_M_go_111 (by decide) ?_
      refine r_lv [1, 2, 3, 4, 5, 0] rfl ?_
      exact t_M_go_125 C hr  v0 v1 v2 v3 v5 s0 (4 : Int32) v1 x29 V31 h
set_option maxHeartbeats 4000000 in
set_option maxRecDepth 100000 in
theorem t_M_go_62 (C : gC E base p s m args meth c b_M_go R_M 8) (hr : meth.sig.returnType = (some .int)) {z : Int32 × gV} (v0 : Nat) (v1 : Int32) (v2 : Int32) (v3 : Int64) (s0 : Int64) (V : gV) (h : D_M_go_62 L  v0 v1 v2 v3 s0 V = some z) : vW E base base 8 p l e rm_M_go s m args below meth c 0 0 (g_MQ E base base below args s 0 0 L z.2 (some (tI z.1))) L V 62 [(0, tR (some v0)), (1, tI v1), (2, tI v2), (3, tJ v3)] [tJ s0] := by
  unfold D_M_go_62 at h
  refine r_lstore (lv' := [(5, tJ s0), (0, tR (some v0)), (1, tI v1), (2, tI v2), (3, tJ v3)]) C d_M_go_62 (by decide) rfl ?_
  refine r_aload_n (x := (some v0)) C d_M_go_64 rfl rfl ?_
  replace h := g_ob h; obtain ⟨x1, e_x1, h⟩ := h
  refine r_getR C f_M_23 d_M_go_65 e_x1 ?_
  refine r_iload_n (x := v1) C d_M_go_68 rfl rfl ?_
  replace h := g_ob h; obtain ⟨a2, rfl, h⟩ := h
  replace h := g_ob h; obtain ⟨x3, e_x3, h⟩ := h
  refine r_zald C ak_102 d_M_go_69 e_x3 ?_
  refine r_if_eq C 77 d_M_go_70 (by decide) (fun c7 => ?_) (fun c7 => ?_)
  · rw [if_pos c7] at h
    refine r_aload_n (x := (some v0)) C d_M_go_77 rfl rfl ?_
    refine r_iload_n (x := v1) C d_M_go_78 rfl rfl ?_
    replace h := g_ob h; obtain ⟨n6, e_n6, h⟩ := h
    replace h := g_o2 h; obtain ⟨r4, V5, e_r4, h⟩ := h
    refine r_callV (As := [tI v1]) C k_M_122 w_295 w_296 w_293 ⟨_, _, rfl⟩ (c_M_matching l E base base v0 v1 L V e_r4) d_M_go_79 e_n6 rfl ⟨Nat.le_of_ble_eq_true rfl, Nat.le_of_ble_eq_true rfl⟩ (Nat.le_of_ble_eq_true rfl) (Nat.le_of_ble_eq_true rfl) (Nat.le_of_ble_eq_true rfl) rfl ?_
    refine r_lv [1, 2, 3, 4, 0] rfl ?_
    exact t_M_go_82 C hr  v0 v1 v2 v3 s0 r4 V5 h
  · rw [if_neg c7] at h
    refine r_iconst C (-1 : Int32) d_M_go_73 (by decide) ?_
    refine r_goto C 82 d_M_go_74 (by decide) ?_
    refine r_lv [1, 2, 3, 4, 0] rfl ?_
    exact t_M_go_82 C hr  v0 v1 v2 v3 s0 (-1 : Int32) V h
set_option maxHeartbeats 4000000 in
set_option maxRecDepth 100000 in
theorem t_M_go_47 (C : gC E base p s m args meth c b_M_go R_M 8) (hr : meth.sig.returnType = (some .int)) {z : Int32 × gV} (v0 : Nat) (v1 : Int32) (v2 : Int32) (s0 : Int64) (V : gV) (h : D_M_go_47 L  v0 v1 v2 s0 V = some z) : vW E base base 8 p l e rm_M_go s m args below meth c 0 0 (g_MQ E base base below args s 0 0 L z.2 (some (tI z.1))) L V 47 [(0, tR (some v0)), (1, tI v1), (2, tI v2)] [tJ s0] := by
  unfold D_M_go_47 at h
  refine r_lstore_n (lv' := [(3, tJ s0), (0, tR (some v0)), (1, tI v1), (2, tI v2)]) C d_M_go_47 rfl (by decide) rfl ?_
  refine r_iload_n (x := v2) C d_M_go_48 rfl rfl ?_
  refine r_if_eq C 61 d_M_go_49 (by decide) (fun c4 => ?_) (fun c4 => ?_)
  · rw [if_pos c4] at h
    refine r_lconst C (0 : Int64) d_M_go_61 (by decide) ?_
    refine r_lv [1, 2, 3, 0] rfl ?_
    exact t_M_go_62 C hr  v0 v1 v2 s0 (0 : Int64) V h
  · rw [if_neg c4] at h
    refine r_aload_n (x := (some v0)) C d_M_go_52 rfl rfl ?_
    refine r_iload_n (x := v1) C d_M_go_53 rfl rfl ?_
    refine r_iconst C (1 : Int32) d_M_go_54 (by decide) ?_
    replace h := g_ob h; obtain ⟨n3, e_n3, h⟩ := h
    replace h := g_o2 h; obtain ⟨r1, V2, e_r1, h⟩ := h
    refine r_callV (As := [tI v1, tI (1 : Int32)]) C k_M_101 w_269 w_270 w_267 ⟨_, _, rfl⟩ (c_M_partOf l E base base v0 v1 (1 : Int32) L V e_r1) d_M_go_55 e_n3 rfl ⟨Nat.le_of_ble_eq_true rfl, Nat.le_of_ble_eq_true rfl⟩ (Nat.le_of_ble_eq_true rfl) (Nat.le_of_ble_eq_true rfl) (Nat.le_of_ble_eq_true rfl) rfl ?_
    refine r_goto C 62 d_M_go_58 (by decide) ?_
    refine r_lv [1, 2, 3, 0] rfl ?_
    exact t_M_go_62 C hr  v0 v1 v2 s0 r1 V2 h
set_option maxHeartbeats 4000000 in
set_option maxRecDepth 100000 in
theorem t_M_go_0 (C : gC E base p s m args meth c b_M_go R_M 8) (hr : meth.sig.returnType = (some .int)) {z : Int32 × gV} (h0 : Nat) (p1 : Int32) (V : gV) (h : D_M_go h0 p1 L V = some z) : vW E base base 8 p l e rm_M_go s m args below meth c 0 0 (g_MQ E base base below args s 0 0 L z.2 (some (tI z.1))) L V 0 [(0, tR (some h0)), (1, tI p1)] [] := by
  unfold D_M_go at h
  refine r_aload_n (x := (some h0)) C d_M_go_0 rfl rfl ?_
  refine r_iload_n (x := p1) C d_M_go_1 rfl rfl ?_
  replace h := g_ob h; obtain ⟨n18, e_n18, h⟩ := h
  replace h := g_o2 h; obtain ⟨r1, V2, e_r1, h⟩ := h
  refine r_callV (As := [tI p1]) C k_M_136 w_306 w_307 w_304 ⟨_, _, rfl⟩ (c_M_isBlocked l E base base h0 p1 L V e_r1) d_M_go_2 e_n18 rfl ⟨Nat.le_of_ble_eq_true rfl, Nat.le_of_ble_eq_true rfl⟩ (Nat.le_of_ble_eq_true rfl) (Nat.le_of_ble_eq_true rfl) (Nat.le_of_ble_eq_true rfl) rfl ?_
  refine r_if_eq C 27 d_M_go_5 (by decide) (fun c17 => ?_) (fun c17 => ?_)
  · rw [if_pos c17] at h
    refine r_aload_n (x := (some h0)) C d_M_go_27 rfl rfl ?_
    refine r_iload_n (x := p1) C d_M_go_28 rfl rfl ?_
    replace h := g_ob h; obtain ⟨n9, e_n9, h⟩ := h
    replace h := g_o2 h; obtain ⟨r3, V4, e_r3, h⟩ := h
    refine r_callV (As := [tI p1]) C k_M_130 w_301 w_302 w_299 ⟨_, _, rfl⟩ (c_M_hasOutput l E base base h0 p1 L V2 e_r3) d_M_go_29 e_n9 rfl ⟨Nat.le_of_ble_eq_true rfl, Nat.le_of_ble_eq_true rfl⟩ (Nat.le_of_ble_eq_true rfl) (Nat.le_of_ble_eq_true rfl) (Nat.le_of_ble_eq_true rfl) rfl ?_
    refine r_istore_n (lv' := [(2, tI r3), (0, tR (some h0)), (1, tI p1)]) C d_M_go_32 rfl (by decide) rfl ?_
    refine r_iload_n (x := r3) C d_M_go_33 rfl rfl ?_
    refine r_if_eq C 46 d_M_go_34 (by decide) (fun c8 => ?_) (fun c8 => ?_)
    · rw [if_pos c8] at h
      refine r_lconst C (0 : Int64) d_M_go_46 (by decide) ?_
      refine r_lv [1, 2, 0] rfl ?_
      exact t_M_go_47 C hr  h0 p1 r3 (0 : Int64) V4 h
    · rw [if_neg c8] at h
      refine r_aload_n (x := (some h0)) C d_M_go_37 rfl rfl ?_
      refine r_iload_n (x := p1) C d_M_go_38 rfl rfl ?_
      refine r_iconst C (0 : Int32) d_M_go_39 (by decide) ?_
      replace h := g_ob h; obtain ⟨n7, e_n7, h⟩ := h
      replace h := g_o2 h; obtain ⟨r5, V6, e_r5, h⟩ := h
      refine r_callV (As := [tI p1, tI (0 : Int32)]) C k_M_101 w_269 w_270 w_267 ⟨_, _, rfl⟩ (c_M_partOf l E base base h0 p1 (0 : Int32) L V4 e_r5) d_M_go_40 e_n7 rfl ⟨Nat.le_of_ble_eq_true rfl, Nat.le_of_ble_eq_true rfl⟩ (Nat.le_of_ble_eq_true rfl) (Nat.le_of_ble_eq_true rfl) (Nat.le_of_ble_eq_true rfl) rfl ?_
      refine r_goto C 47 d_M_go_43 (by decide) ?_
      refine r_lv [1, 2, 0] rfl ?_
      exact t_M_go_47 C hr  h0 p1 r3 r5 V6 h
  · rw [if_neg c17] at h
    refine r_aload_n (x := (some h0)) C d_M_go_8 rfl rfl ?_
    replace h := g_ob h; obtain ⟨x10, e_x10, h⟩ := h
    refine r_getR C f_M_54 d_M_go_9 e_x10 ?_
    refine r_iload_n (x := p1) C d_M_go_12 rfl rfl ?_
    refine r_iconst C (5 : Int32) d_M_go_13 (by decide) ?_
    replace h := g_ob h; obtain ⟨a11, rfl, h⟩ := h
    replace h := g_ob h; obtain ⟨V12, e_V12, h⟩ := h
    refine r_iast C ak_100 d_M_go_14 e_V12 ?_
    refine r_aload_n (x := (some h0)) C d_M_go_15 rfl rfl ?_
    replace h := g_ob h; obtain ⟨x13, e_x13, h⟩ := h
    refine r_getR C f_M_60 d_M_go_16 e_x13 ?_
    refine r_iconst C (3 : Int32) d_M_go_19 (by decide) ?_
    refine r_dup2 C d_M_go_20 rfl rfl ?_
    replace h := g_ob h; obtain ⟨a14, rfl, h⟩ := h
    replace h := g_ob h; obtain ⟨x15, e_x15, h⟩ := h
    refine r_iald C ak_100 d_M_go_21 e_x15 ?_
    refine r_iconst C (1 : Int32) d_M_go_22 (by decide) ?_
    refine r_iadd C d_M_go_23 ?_
    replace h := g_ob h; obtain ⟨V16, e_V16, h⟩ := h
    refine r_iast C ak_100 d_M_go_24 e_V16 ?_
    refine r_iconst C (0 : Int32) d_M_go_25 (by decide) ?_
    cases h
    exact r_iret C hr d_M_go_26
theorem c_M_go (l : Launch) (E : gE) (base : Nat) (h0 : Nat) (p1 : Int32) (L : gL) (V : gV) {z : Int32 × gV} (h : D_M_go h0 p1 L V = some z) : g_Met l E base base y_M_go b_M_go 8 (some .int) rm_M_go [tR (some h0), tI p1] L V (some (tI z.1)) L z.2 :=
  r_enter R_M (by decide) rfl [tR (some h0), tI p1] [(0, tR (some h0)), (1, tI p1)] rfl (Nat.le_of_ble_eq_true rfl) (fun p e s m args below meth c C hr hnm => t_M_go_0 C hr h0 p1 V h)
def rm_M_build : Room := { frames := 7, cells := 0, slots := 0, locals := 169 }
def D_M_build_66 (L : gL) : Nat → Nat → Int32 → Int32 → gV → Option (Int32 × gV)
  | 0, _, _, _, _ => none
  | n + 1, v0, v2, v3, V =>
  Option.bind (g_rI L V 4 v0 2) fun x1 =>
    (if x1 ≤ v3 then
    some (v2, V)
  else
    Option.bind (g_rR L V 4 v0 21) fun x2 =>
    Option.bind x2 fun a3 =>
    Option.bind (g_aI L V 102 a3 v3) fun x4 =>
    (if x4 = 0 then
    D_M_build_66 L  n v0 (v2 + (0 : Int32)) (v3 + (1 : Int32)) V
  else
    Option.bind ((L).2 4 v0) fun n7 =>
    g_b2 (D_M_go v0 v3 L V) fun r5 V6 =>
    D_M_build_66 L  n v0 (v2 + r5) (v3 + (1 : Int32)) V6))
def D_M_build_27 (L : gL) : Nat → Nat → Int32 → Int32 → gV → Option (Int32 × gV)
  | 0, _, _, _, _ => none
  | n + 1, v0, v1, v2, V =>
  (if (16 : Int32) ≤ v2 then
    Option.bind ((L).2 4 v0) fun n6 =>
    g_b2 (D_M_take v0 v1 L V) fun r1 V2 =>
    Option.bind ((L).2 4 v0) fun n5 =>
    g_b2 (D_M_mark v0 L V2) fun r3 V4 =>
    D_M_build_66 L  1000 v0 (0 : Int32) (0 : Int32) V4
  else
    Option.bind (g_rR L V 4 v0 17) fun x7 =>
    Option.bind x7 fun a8 =>
    Option.bind (g_wa L V 100 a8 v2 (tI (0 : Int32))) fun V9 =>
    Option.bind (g_rR L V9 4 v0 18) fun x10 =>
    Option.bind x10 fun a11 =>
    Option.bind (g_wa L V9 100 a11 v2 (tI (-1 : Int32))) fun V12 =>
    D_M_build_27 L  n v0 v1 (v2 + (1 : Int32)) V12)
def D_M_build_7 (L : gL) : Nat → Nat → Int32 → Int32 → gV → Option (Int32 × gV)
  | 0, _, _, _, _ => none
  | n + 1, v0, v1, v2, V =>
  (if (5 : Int32) ≤ v2 then
    D_M_build_27 L  1000 v0 v1 (0 : Int32) V
  else
    Option.bind (g_rR L V 4 v0 19) fun x1 =>
    Option.bind x1 fun a2 =>
    Option.bind (g_wa L V 100 a2 v2 (tI (0 : Int32))) fun V3 =>
    D_M_build_7 L  n v0 v1 (v2 + (1 : Int32)) V3)
def D_M_build (h0 : Nat) (p1 : Int32) (L : gL) (V : gV) : Option (Int32 × gV) :=
  Option.bind (g_wr L V 4 h0 0 (tI (0 : Int32))) fun V1 =>
    D_M_build_7 L  1000 h0 p1 (0 : Int32) V1
set_option maxHeartbeats 4000000 in
set_option maxRecDepth 100000 in
theorem t_M_build_66 (C : gC E base p s m args meth c b_M_build R_M 4) (hr : meth.sig.returnType = (some .int)) {z : Int32 × gV} : ∀ (n : Nat) (v0 : Nat) (v2 : Int32) (v3 : Int32) (V : gV), D_M_build_66 L  n v0 v2 v3 V = some z → vW E base base 4 p l e rm_M_build s m args below meth c 0 0 (g_MQ E base base below args s 0 0 L z.2 (some (tI z.1))) L V 66 [(0, tR (some v0)), (2, tI v2), (3, tI v3)] [] := by
  intro n
  induction n with
  | zero =>
    intro v0 v2 v3 V h
    rw [D_M_build_66] at h
    cases h
  | succ n ih =>
    intro v0 v2 v3 V h
    rw [D_M_build_66] at h
    refine r_iload_n (x := v3) C d_M_build_66 rfl rfl ?_
    refine r_aload_n (x := (some v0)) C d_M_build_67 rfl rfl ?_
    replace h := g_ob h; obtain ⟨x1, e_x1, h⟩ := h
    refine r_getI C f_M_79 d_M_build_68 e_x1 ?_
    refine r_icmp_ge C 101 d_M_build_71 (by decide) (fun c9 => ?_) (fun c9 => ?_)
    · rw [if_pos c9] at h
      refine r_iload_n (x := v2) C d_M_build_101 rfl rfl ?_
      cases h
      exact r_iret C hr d_M_build_102
    · rw [if_neg c9] at h
      refine r_iload_n (x := v2) C d_M_build_74 rfl rfl ?_
      refine r_aload_n (x := (some v0)) C d_M_build_75 rfl rfl ?_
      replace h := g_ob h; obtain ⟨x2, e_x2, h⟩ := h
      refine r_getR C f_M_66 d_M_build_76 e_x2 ?_
      refine r_iload_n (x := v3) C d_M_build_79 rfl rfl ?_
      replace h := g_ob h; obtain ⟨a3, rfl, h⟩ := h
      replace h := g_ob h; obtain ⟨x4, e_x4, h⟩ := h
      refine r_zald C ak_102 d_M_build_80 e_x4 ?_
      refine r_if_eq C 92 d_M_build_81 (by decide) (fun c8 => ?_) (fun c8 => ?_)
      · rw [if_pos c8] at h
        refine r_iconst C (0 : Int32) d_M_build_92 (by decide) ?_
        refine r_iadd C d_M_build_93 ?_
        refine r_istore_n (lv' := [(2, tI (v2 + (0 : Int32))), (0, tR (some v0)), (3, tI v3)]) C d_M_build_94 rfl (by decide) rfl ?_
        refine r_iinc (x := v3) (v := v3 + (1 : Int32)) (lv' := [(3, tI (v3 + (1 : Int32))), (2, tI (v2 + (0 : Int32))), (0, tR (some v0))]) C d_M_build_95 rfl rfl (by decide) rfl ?_
        refine r_goto C 66 d_M_build_98 (by decide) ?_
        refine r_lv [2, 1, 0] rfl ?_
        exact ih v0 (v2 + (0 : Int32)) (v3 + (1 : Int32)) V h
      · rw [if_neg c8] at h
        refine r_aload_n (x := (some v0)) C d_M_build_84 rfl rfl ?_
        refine r_iload_n (x := v3) C d_M_build_85 rfl rfl ?_
        replace h := g_ob h; obtain ⟨n7, e_n7, h⟩ := h
        replace h := g_o2 h; obtain ⟨r5, V6, e_r5, h⟩ := h
        refine r_callV (As := [tI v3]) C k_M_162 w_335 w_336 w_333 ⟨_, _, rfl⟩ (c_M_go l E base v0 v3 L V e_r5) d_M_build_86 e_n7 rfl ⟨Nat.le_of_ble_eq_true rfl, Nat.le_of_ble_eq_true rfl⟩ (Nat.le_of_ble_eq_true rfl) (Nat.le_of_ble_eq_true rfl) (Nat.le_of_ble_eq_true rfl) rfl ?_
        refine r_goto C 93 d_M_build_89 (by decide) ?_
        refine r_iadd C d_M_build_93 ?_
        refine r_istore_n (lv' := [(2, tI (v2 + r5)), (0, tR (some v0)), (3, tI v3)]) C d_M_build_94 rfl (by decide) rfl ?_
        refine r_iinc (x := v3) (v := v3 + (1 : Int32)) (lv' := [(3, tI (v3 + (1 : Int32))), (2, tI (v2 + r5)), (0, tR (some v0))]) C d_M_build_95 rfl rfl (by decide) rfl ?_
        refine r_goto C 66 d_M_build_98 (by decide) ?_
        refine r_lv [2, 1, 0] rfl ?_
        exact ih v0 (v2 + r5) (v3 + (1 : Int32)) V6 h
set_option maxHeartbeats 4000000 in
set_option maxRecDepth 100000 in
theorem t_M_build_27 (C : gC E base p s m args meth c b_M_build R_M 4) (hr : meth.sig.returnType = (some .int)) {z : Int32 × gV} : ∀ (n : Nat) (v0 : Nat) (v1 : Int32) (v2 : Int32) (V : gV), D_M_build_27 L  n v0 v1 v2 V = some z → vW E base base 4 p l e rm_M_build s m args below meth c 0 0 (g_MQ E base base below args s 0 0 L z.2 (some (tI z.1))) L V 27 [(0, tR (some v0)), (1, tI v1), (2, tI v2)] [] := by
  intro n
  induction n with
  | zero =>
    intro v0 v1 v2 V h
    rw [D_M_build_27] at h
    cases h
  | succ n ih =>
    intro v0 v1 v2 V h
    rw [D_M_build_27] at h
    refine r_iload_n (x := v2) C d_M_build_27 rfl rfl ?_
    refine r_bipush C (16 : Int32) d_M_build_28 (by decide) ?_
    refine r_icmp_ge C 53 d_M_build_30 (by decide) (fun c13 => ?_) (fun c13 => ?_)
    · rw [if_pos c13] at h
      refine r_aload_n (x := (some v0)) C d_M_build_53 rfl rfl ?_
      refine r_iload_n (x := v1) C d_M_build_54 rfl rfl ?_
      replace h := g_ob h; obtain ⟨n6, e_n6, h⟩ := h
      replace h := g_o2 h; obtain ⟨r1, V2, e_r1, h⟩ := h
      refine r_callV (As := [tI v1]) C k_M_156 w_331 w_332 w_325 ⟨_, _, rfl⟩ (c_M_take l E base v0 v1 L V e_r1) d_M_build_55 e_n6 rfl ⟨Nat.le_of_ble_eq_true rfl, Nat.le_of_ble_eq_true rfl⟩ (Nat.le_of_ble_eq_true rfl) (Nat.le_of_ble_eq_true rfl) (Nat.le_of_ble_eq_true rfl) rfl ?_
      refine r_aload_n (x := (some v0)) C d_M_build_58 rfl rfl ?_
      replace h := g_ob h; obtain ⟨n5, e_n5, h⟩ := h
      replace h := g_o2 h; obtain ⟨r3, V4, e_r3, h⟩ := h
      refine r_callV (As := []) C k_M_159 w_329 w_330 w_327 ⟨_, _, rfl⟩ (c_M_mark l E base v0 L V2 e_r3) d_M_build_59 e_n5 rfl ⟨Nat.le_of_ble_eq_true rfl, Nat.le_of_ble_eq_true rfl⟩ (Nat.le_of_ble_eq_true rfl) (Nat.le_of_ble_eq_true rfl) (Nat.le_of_ble_eq_true rfl) rfl ?_
      refine r_iconst C (0 : Int32) d_M_build_62 (by decide) ?_
      refine r_istore_n (lv' := [(2, tI (0 : Int32)), (0, tR (some v0)), (1, tI v1)]) C d_M_build_63 rfl (by decide) rfl ?_
      refine r_iconst C (0 : Int32) d_M_build_64 (by decide) ?_
      refine r_istore_n (lv' := [(3, tI (0 : Int32)), (2, tI (0 : Int32)), (0, tR (some v0)), (1, tI v1)]) C d_M_build_65 rfl (by decide) rfl ?_
      refine r_lv [2, 1, 0] rfl ?_
      exact t_M_build_66 C hr  1000 v0 (0 : Int32) (0 : Int32) V4 h
    · rw [if_neg c13] at h
      refine r_aload_n (x := (some v0)) C d_M_build_33 rfl rfl ?_
      replace h := g_ob h; obtain ⟨x7, e_x7, h⟩ := h
      refine r_getR C f_M_54 d_M_build_34 e_x7 ?_
      refine r_iload_n (x := v2) C d_M_build_37 rfl rfl ?_
      refine r_iconst C (0 : Int32) d_M_build_38 (by decide) ?_
      replace h := g_ob h; obtain ⟨a8, rfl, h⟩ := h
      replace h := g_ob h; obtain ⟨V9, e_V9, h⟩ := h
      refine r_iast C ak_100 d_M_build_39 e_V9 ?_
      refine r_aload_n (x := (some v0)) C d_M_build_40 rfl rfl ?_
      replace h := g_ob h; obtain ⟨x10, e_x10, h⟩ := h
      refine r_getR C f_M_57 d_M_build_41 e_x10 ?_
      refine r_iload_n (x := v2) C d_M_build_44 rfl rfl ?_
      refine r_iconst C (-1 : Int32) d_M_build_45 (by decide) ?_
      replace h := g_ob h; obtain ⟨a11, rfl, h⟩ := h
      replace h := g_ob h; obtain ⟨V12, e_V12, h⟩ := h
      refine r_iast C ak_100 d_M_build_46 e_V12 ?_
      refine r_iinc (x := v2) (v := v2 + (1 : Int32)) (lv' := [(2, tI (v2 + (1 : Int32))), (0, tR (some v0)), (1, tI v1)]) C d_M_build_47 rfl rfl (by decide) rfl ?_
      refine r_goto C 27 d_M_build_50 (by decide) ?_
      refine r_lv [1, 2, 0] rfl ?_
      exact ih v0 v1 (v2 + (1 : Int32)) V12 h
set_option maxHeartbeats 4000000 in
set_option maxRecDepth 100000 in
theorem t_M_build_7 (C : gC E base p s m args meth c b_M_build R_M 4) (hr : meth.sig.returnType = (some .int)) {z : Int32 × gV} : ∀ (n : Nat) (v0 : Nat) (v1 : Int32) (v2 : Int32) (V : gV), D_M_build_7 L  n v0 v1 v2 V = some z → vW E base base 4 p l e rm_M_build s m args below meth c 0 0 (g_MQ E base base below args s 0 0 L z.2 (some (tI z.1))) L V 7 [(0, tR (some v0)), (1, tI v1), (2, tI v2)] [] := by
  intro n
  induction n with
  | zero =>
    intro v0 v1 v2 V h
    rw [D_M_build_7] at h
    cases h
  | succ n ih =>
    intro v0 v1 v2 V h
    rw [D_M_build_7] at h
    refine r_iload_n (x := v2) C d_M_build_7 rfl rfl ?_
    refine r_iconst C (5 : Int32) d_M_build_8 (by decide) ?_
    refine r_icmp_ge C 25 d_M_build_9 (by decide) (fun c4 => ?_) (fun c4 => ?_)
    · rw [if_pos c4] at h
      refine r_iconst C (0 : Int32) d_M_build_25 (by decide) ?_
      refine r_istore_n (lv' := [(2, tI (0 : Int32)), (0, tR (some v0)), (1, tI v1)]) C d_M_build_26 rfl (by decide) rfl ?_
      refine r_lv [1, 2, 0] rfl ?_
      exact t_M_build_27 C hr  1000 v0 v1 (0 : Int32) V h
    · rw [if_neg c4] at h
      refine r_aload_n (x := (some v0)) C d_M_build_12 rfl rfl ?_
      replace h := g_ob h; obtain ⟨x1, e_x1, h⟩ := h
      refine r_getR C f_M_60 d_M_build_13 e_x1 ?_
      refine r_iload_n (x := v2) C d_M_build_16 rfl rfl ?_
      refine r_iconst C (0 : Int32) d_M_build_17 (by decide) ?_
      replace h := g_ob h; obtain ⟨a2, rfl, h⟩ := h
      replace h := g_ob h; obtain ⟨V3, e_V3, h⟩ := h
      refine r_iast C ak_100 d_M_build_18 e_V3 ?_
      refine r_iinc (x := v2) (v := v2 + (1 : Int32)) (lv' := [(2, tI (v2 + (1 : Int32))), (0, tR (some v0)), (1, tI v1)]) C d_M_build_19 rfl rfl (by decide) rfl ?_
      refine r_goto C 7 d_M_build_22 (by decide) ?_
      refine r_lv [1, 2, 0] rfl ?_
      exact ih v0 v1 (v2 + (1 : Int32)) V3 h
set_option maxHeartbeats 4000000 in
set_option maxRecDepth 100000 in
theorem t_M_build_0 (C : gC E base p s m args meth c b_M_build R_M 4) (hr : meth.sig.returnType = (some .int)) {z : Int32 × gV} (h0 : Nat) (p1 : Int32) (V : gV) (h : D_M_build h0 p1 L V = some z) : vW E base base 4 p l e rm_M_build s m args below meth c 0 0 (g_MQ E base base below args s 0 0 L z.2 (some (tI z.1))) L V 0 [(0, tR (some h0)), (1, tI p1)] [] := by
  unfold D_M_build at h
  refine r_aload_n (x := (some h0)) C d_M_build_0 rfl rfl ?_
  refine r_iconst C (0 : Int32) d_M_build_1 (by decide) ?_
  replace h := g_ob h; obtain ⟨V1, e_V1, h⟩ := h
  refine r_put C f_M_72 d_M_build_2 e_V1 (g_nI (0 : Int32)).1 (g_nI (0 : Int32)).2 ?_
  refine r_iconst C (0 : Int32) d_M_build_5 (by decide) ?_
  refine r_istore_n (lv' := [(2, tI (0 : Int32)), (0, tR (some h0)), (1, tI p1)]) C d_M_build_6 rfl (by decide) rfl ?_
  refine r_lv [1, 2, 0] rfl ?_
  exact t_M_build_7 C hr  1000 h0 p1 (0 : Int32) V1 h
theorem c_M_build (l : Launch) (E : gE) (base : Nat) (h0 : Nat) (p1 : Int32) (L : gL) (V : gV) {z : Int32 × gV} (h : D_M_build h0 p1 L V = some z) : g_Met l E base base y_M_build b_M_build 4 (some .int) rm_M_build [tR (some h0), tI p1] L V (some (tI z.1)) L z.2 :=
  r_enter R_M (by decide) rfl [tR (some h0), tI p1] [(0, tR (some h0)), (1, tI p1)] rfl (Nat.le_of_ble_eq_true rfl) (fun p e s m args below meth c C hr hnm => t_M_build_0 C hr h0 p1 V h)
def rm_M_state : Room := { frames := 1, cells := 0, slots := 0, locals := 21 }
def D_M_state (h0 : Nat) (p1 : Int32) (L : gL) (V : gV) : Option (Int32 × gV) :=
  Option.bind (g_wr L V 4 h0 0 (tI (0 : Int32))) fun V1 =>
    Option.bind ((L).2 4 h0) fun n8 =>
    g_b2 (D_M_isStep h0 p1 L V1) fun r2 V3 =>
    (if r2 = 0 then
    some ((0 : Int32), V3)
  else
    Option.bind (g_rR L V3 4 h0 17) fun x4 =>
    Option.bind x4 fun a5 =>
    Option.bind (g_aI L V3 100 a5 p1) fun x6 =>
    some (x6, V3))
set_option maxHeartbeats 4000000 in
set_option maxRecDepth 100000 in
theorem t_M_state_0 (C : gC E base p s m args meth c b_M_state R_M 2) (hr : meth.sig.returnType = (some .int)) {z : Int32 × gV} (h0 : Nat) (p1 : Int32) (V : gV) (h : D_M_state h0 p1 L V = some z) : vW E base base 2 p l e rm_M_state s m args below meth c 0 0 (g_MQ E base base below args s 0 0 L z.2 (some (tI z.1))) L V 0 [(0, tR (some h0)), (1, tI p1)] [] := by
  unfold D_M_state at h
  refine r_aload_n (x := (some h0)) C d_M_state_0 rfl rfl ?_
  refine r_iconst C (0 : Int32) d_M_state_1 (by decide) ?_
  replace h := g_ob h; obtain ⟨V1, e_V1, h⟩ := h
  refine r_put C f_M_72 d_M_state_2 e_V1 (g_nI (0 : Int32)).1 (g_nI (0 : Int32)).2 ?_
  refine r_aload_n (x := (some h0)) C d_M_state_5 rfl rfl ?_
  refine r_iload_n (x := p1) C d_M_state_6 rfl rfl ?_
  replace h := g_ob h; obtain ⟨n8, e_n8, h⟩ := h
  replace h := g_o2 h; obtain ⟨r2, V3, e_r2, h⟩ := h
  refine r_callV (As := [tI p1]) C k_M_86 w_260 w_261 w_254 ⟨_, _, rfl⟩ (c_M_isStep l E base base h0 p1 L V1 e_r2) d_M_state_7 e_n8 rfl ⟨Nat.le_of_ble_eq_true rfl, Nat.le_of_ble_eq_true rfl⟩ (Nat.le_of_ble_eq_true rfl) (Nat.le_of_ble_eq_true rfl) (Nat.le_of_ble_eq_true rfl) rfl ?_
  refine r_if_eq C 22 d_M_state_10 (by decide) (fun c7 => ?_) (fun c7 => ?_)
  · rw [if_pos c7] at h
    refine r_iconst C (0 : Int32) d_M_state_22 (by decide) ?_
    cases h
    exact r_iret C hr d_M_state_23
  · rw [if_neg c7] at h
    refine r_aload_n (x := (some h0)) C d_M_state_13 rfl rfl ?_
    replace h := g_ob h; obtain ⟨x4, e_x4, h⟩ := h
    refine r_getR C f_M_54 d_M_state_14 e_x4 ?_
    refine r_iload_n (x := p1) C d_M_state_17 rfl rfl ?_
    replace h := g_ob h; obtain ⟨a5, rfl, h⟩ := h
    replace h := g_ob h; obtain ⟨x6, e_x6, h⟩ := h
    refine r_iald C ak_100 d_M_state_18 e_x6 ?_
    refine r_goto C 23 d_M_state_19 (by decide) ?_
    cases h
    exact r_iret C hr d_M_state_23
theorem c_M_state (l : Launch) (E : gE) (base : Nat) (h0 : Nat) (p1 : Int32) (L : gL) (V : gV) {z : Int32 × gV} (h : D_M_state h0 p1 L V = some z) : g_Met l E base base y_M_state b_M_state 2 (some .int) rm_M_state [tR (some h0), tI p1] L V (some (tI z.1)) L z.2 :=
  r_enter R_M (by decide) rfl [tR (some h0), tI p1] [(0, tR (some h0)), (1, tI p1)] rfl (Nat.le_of_ble_eq_true rfl) (fun p e s m args below meth c C hr hnm => t_M_state_0 C hr h0 p1 V h)
def rm_M_cause : Room := { frames := 1, cells := 0, slots := 0, locals := 21 }
def D_M_cause_33 (L : gL) (v0 : Nat) (v1 : Int32) (V : gV) : Option (Int32 × gV) :=
  Option.bind (g_rR L V 4 v0 18) fun x1 =>
    Option.bind x1 fun a2 =>
    Option.bind (g_aI L V 100 a2 v1) fun x3 =>
    some (x3, V)
def D_M_cause (h0 : Nat) (p1 : Int32) (L : gL) (V : gV) : Option (Int32 × gV) :=
  Option.bind (g_wr L V 4 h0 0 (tI (0 : Int32))) fun V1 =>
    Option.bind ((L).2 4 h0) fun n13 =>
    g_b2 (D_M_isStep h0 p1 L V1) fun r2 V3 =>
    (if r2 = 0 then
    some ((-1 : Int32), V3)
  else
    Option.bind (g_rR L V3 4 h0 17) fun x4 =>
    Option.bind x4 fun a5 =>
    Option.bind (g_aI L V3 100 a5 p1) fun x6 =>
    (if x6 = (2 : Int32) then
    D_M_cause_33 L  h0 p1 V3
  else
    Option.bind (g_rR L V3 4 h0 17) fun x7 =>
    Option.bind x7 fun a8 =>
    Option.bind (g_aI L V3 100 a8 p1) fun x9 =>
    (if x9 = (3 : Int32) then
    D_M_cause_33 L  h0 p1 V3
  else
    some ((-1 : Int32), V3))))
set_option maxHeartbeats 4000000 in
set_option maxRecDepth 100000 in
theorem t_M_cause_33 (C : gC E base p s m args meth c b_M_cause R_M 2) (hr : meth.sig.returnType = (some .int)) {z : Int32 × gV} (v0 : Nat) (v1 : Int32) (V : gV) (h : D_M_cause_33 L  v0 v1 V = some z) : vW E base base 2 p l e rm_M_cause s m args below meth c 0 0 (g_MQ E base base below args s 0 0 L z.2 (some (tI z.1))) L V 33 [(0, tR (some v0)), (1, tI v1)] [] := by
  unfold D_M_cause_33 at h
  refine r_aload_n (x := (some v0)) C d_M_cause_33 rfl rfl ?_
  replace h := g_ob h; obtain ⟨x1, e_x1, h⟩ := h
  refine r_getR C f_M_57 d_M_cause_34 e_x1 ?_
  refine r_iload_n (x := v1) C d_M_cause_37 rfl rfl ?_
  replace h := g_ob h; obtain ⟨a2, rfl, h⟩ := h
  replace h := g_ob h; obtain ⟨x3, e_x3, h⟩ := h
  refine r_iald C ak_100 d_M_cause_38 e_x3 ?_
  refine r_goto C 43 d_M_cause_39 (by decide) ?_
  cases h
  exact r_iret C hr d_M_cause_43
set_option maxHeartbeats 4000000 in
set_option maxRecDepth 100000 in
theorem t_M_cause_0 (C : gC E base p s m args meth c b_M_cause R_M 2) (hr : meth.sig.returnType = (some .int)) {z : Int32 × gV} (h0 : Nat) (p1 : Int32) (V : gV) (h : D_M_cause h0 p1 L V = some z) : vW E base base 2 p l e rm_M_cause s m args below meth c 0 0 (g_MQ E base base below args s 0 0 L z.2 (some (tI z.1))) L V 0 [(0, tR (some h0)), (1, tI p1)] [] := by
  unfold D_M_cause at h
  refine r_aload_n (x := (some h0)) C d_M_cause_0 rfl rfl ?_
  refine r_iconst C (0 : Int32) d_M_cause_1 (by decide) ?_
  replace h := g_ob h; obtain ⟨V1, e_V1, h⟩ := h
  refine r_put C f_M_72 d_M_cause_2 e_V1 (g_nI (0 : Int32)).1 (g_nI (0 : Int32)).2 ?_
  refine r_aload_n (x := (some h0)) C d_M_cause_5 rfl rfl ?_
  refine r_iload_n (x := p1) C d_M_cause_6 rfl rfl ?_
  replace h := g_ob h; obtain ⟨n13, e_n13, h⟩ := h
  replace h := g_o2 h; obtain ⟨r2, V3, e_r2, h⟩ := h
  refine r_callV (As := [tI p1]) C k_M_86 w_260 w_261 w_254 ⟨_, _, rfl⟩ (c_M_isStep l E base base h0 p1 L V1 e_r2) d_M_cause_7 e_n13 rfl ⟨Nat.le_of_ble_eq_true rfl, Nat.le_of_ble_eq_true rfl⟩ (Nat.le_of_ble_eq_true rfl) (Nat.le_of_ble_eq_true rfl) (Nat.le_of_ble_eq_true rfl) rfl ?_
  refine r_if_eq C 42 d_M_cause_10 (by decide) (fun c12 => ?_) (fun c12 => ?_)
  · rw [if_pos c12] at h
    refine r_iconst C (-1 : Int32) d_M_cause_42 (by decide) ?_
    cases h
    exact r_iret C hr d_M_cause_43
  · rw [if_neg c12] at h
    refine r_aload_n (x := (some h0)) C d_M_cause_13 rfl rfl ?_
    replace h := g_ob h; obtain ⟨x4, e_x4, h⟩ := h
    refine r_getR C f_M_54 d_M_cause_14 e_x4 ?_
    refine r_iload_n (x := p1) C d_M_cause_17 rfl rfl ?_
    replace h := g_ob h; obtain ⟨a5, rfl, h⟩ := h
    replace h := g_ob h; obtain ⟨x6, e_x6, h⟩ := h
    refine r_iald C ak_100 d_M_cause_18 e_x6 ?_
    refine r_iconst C (2 : Int32) d_M_cause_19 (by decide) ?_
    refine r_icmp_eq C 33 d_M_cause_20 (by decide) (fun c11 => ?_) (fun c11 => ?_)
    · rw [if_pos c11] at h
      exact t_M_cause_33 C hr  h0 p1 V3 h
    · rw [if_neg c11] at h
      refine r_aload_n (x := (some h0)) C d_M_cause_23 rfl rfl ?_
      replace h := g_ob h; obtain ⟨x7, e_x7, h⟩ := h
      refine r_getR C f_M_54 d_M_cause_24 e_x7 ?_
      refine r_iload_n (x := p1) C d_M_cause_27 rfl rfl ?_
      replace h := g_ob h; obtain ⟨a8, rfl, h⟩ := h
      replace h := g_ob h; obtain ⟨x9, e_x9, h⟩ := h
      refine r_iald C ak_100 d_M_cause_28 e_x9 ?_
      refine r_iconst C (3 : Int32) d_M_cause_29 (by decide) ?_
      refine r_icmp_ne C 42 d_M_cause_30 (by decide) (fun c10 => ?_) (fun c10 => ?_)
      · rw [if_neg c10] at h
        refine r_iconst C (-1 : Int32) d_M_cause_42 (by decide) ?_
        cases h
        exact r_iret C hr d_M_cause_43
      · rw [if_pos c10] at h
        exact t_M_cause_33 C hr  h0 p1 V3 h
theorem c_M_cause (l : Launch) (E : gE) (base : Nat) (h0 : Nat) (p1 : Int32) (L : gL) (V : gV) {z : Int32 × gV} (h : D_M_cause h0 p1 L V = some z) : g_Met l E base base y_M_cause b_M_cause 2 (some .int) rm_M_cause [tR (some h0), tI p1] L V (some (tI z.1)) L z.2 :=
  r_enter R_M (by decide) rfl [tR (some h0), tI p1] [(0, tR (some h0)), (1, tI p1)] rfl (Nat.le_of_ble_eq_true rfl) (fun p e s m args below meth c C hr hnm => t_M_cause_0 C hr h0 p1 V h)
def rm_M_counted : Room := { frames := 0, cells := 0, slots := 0, locals := 0 }
def D_M_counted_14 (L : gL)  (V : gV) : Option (Int32 × gV) :=
  some ((-1 : Int32), V)
def D_M_counted (h0 : Nat) (p1 : Int32) (L : gL) (V : gV) : Option (Int32 × gV) :=
  Option.bind (g_wr L V 4 h0 0 (tI (0 : Int32))) fun V1 =>
    (if p1 < 0 then
    D_M_counted_14 L   V1
  else
    (if p1 ≤ (4 : Int32) then
    Option.bind (g_rR L V1 4 h0 19) fun x2 =>
    Option.bind x2 fun a3 =>
    Option.bind (g_aI L V1 100 a3 p1) fun x4 =>
    some (x4, V1)
  else
    D_M_counted_14 L   V1))
set_option maxHeartbeats 4000000 in
set_option maxRecDepth 100000 in
theorem t_M_counted_14 (C : gC E base p s m args meth c b_M_counted R_M 2) (hr : meth.sig.returnType = (some .int)) {z : Int32 × gV}  (V : gV) (h : D_M_counted_14 L   V = some z) : vW E base base 2 p l e rm_M_counted s m args below meth c 0 0 (g_MQ E base base below args s 0 0 L z.2 (some (tI z.1))) L V 14 [] [] := by
  unfold D_M_counted_14 at h
  refine r_iconst C (-1 : Int32) d_M_counted_14 (by decide) ?_
  refine r_goto C 24 d_M_counted_15 (by decide) ?_
  cases h
  exact r_iret C hr d_M_counted_24
set_option maxHeartbeats 4000000 in
set_option maxRecDepth 100000 in
theorem t_M_counted_0 (C : gC E base p s m args meth c b_M_counted R_M 2) (hr : meth.sig.returnType = (some .int)) {z : Int32 × gV} (h0 : Nat) (p1 : Int32) (V : gV) (h : D_M_counted h0 p1 L V = some z) : vW E base base 2 p l e rm_M_counted s m args below meth c 0 0 (g_MQ E base base below args s 0 0 L z.2 (some (tI z.1))) L V 0 [(0, tR (some h0)), (1, tI p1)] [] := by
  unfold D_M_counted at h
  refine r_aload_n (x := (some h0)) C d_M_counted_0 rfl rfl ?_
  refine r_iconst C (0 : Int32) d_M_counted_1 (by decide) ?_
  replace h := g_ob h; obtain ⟨V1, e_V1, h⟩ := h
  refine r_put C f_M_72 d_M_counted_2 e_V1 (g_nI (0 : Int32)).1 (g_nI (0 : Int32)).2 ?_
  refine r_iload_n (x := p1) C d_M_counted_5 rfl rfl ?_
  refine r_if_lt C 14 d_M_counted_6 (by decide) (fun c6 => ?_) (fun c6 => ?_)
  · rw [if_pos c6] at h
    refine r_lv [] rfl ?_
    exact t_M_counted_14 C hr   V1 h
  · rw [if_neg c6] at h
    refine r_iload_n (x := p1) C d_M_counted_9 rfl rfl ?_
    refine r_iconst C (4 : Int32) d_M_counted_10 (by decide) ?_
    refine r_icmp_le C 18 d_M_counted_11 (by decide) (fun c5 => ?_) (fun c5 => ?_)
    · rw [if_pos c5] at h
      refine r_aload_n (x := (some h0)) C d_M_counted_18 rfl rfl ?_
      replace h := g_ob h; obtain ⟨x2, e_x2, h⟩ := h
      refine r_getR C f_M_60 d_M_counted_19 e_x2 ?_
      refine r_iload_n (x := p1) C d_M_counted_22 rfl rfl ?_
      replace h := g_ob h; obtain ⟨a3, rfl, h⟩ := h
      replace h := g_ob h; obtain ⟨x4, e_x4, h⟩ := h
      refine r_iald C ak_100 d_M_counted_23 e_x4 ?_
      cases h
      exact r_iret C hr d_M_counted_24
    · rw [if_neg c5] at h
      refine r_lv [] rfl ?_
      exact t_M_counted_14 C hr   V1 h
theorem c_M_counted (l : Launch) (E : gE) (base : Nat) (h0 : Nat) (p1 : Int32) (L : gL) (V : gV) {z : Int32 × gV} (h : D_M_counted h0 p1 L V = some z) : g_Met l E base base y_M_counted b_M_counted 2 (some .int) rm_M_counted [tR (some h0), tI p1] L V (some (tI z.1)) L z.2 :=
  r_enter R_M (by decide) rfl [tR (some h0), tI p1] [(0, tR (some h0)), (1, tI p1)] rfl (Nat.le_of_ble_eq_true rfl) (fun p e s m args below meth c C hr hnm => t_M_counted_0 C hr h0 p1 V h)
def rm_M_output : Room := { frames := 2, cells := 0, slots := 0, locals := 43 }
def D_M_output_43 (L : gL) (v0 : Nat) (v1 : Int32) (v2 : Int32) (V : gV) : Option (Int64 × gV) :=
  Option.bind (g_rI L V 4 v0 0) fun x1 =>
    (if x1 = 0 then
    Option.bind ((L).2 4 v0) fun n4 =>
    g_b2 (D_M_partOf v0 v1 v2 L V) fun r2 V3 =>
    some (r2, V3)
  else
    some ((0 : Int64), V))
def D_M_output_22 (L : gL) (v0 : Nat) (v1 : Int32) (v2 : Int32) (V : gV) : Option (Int64 × gV) :=
  Option.bind (g_wr L V 4 v0 0 (tI (1 : Int32))) fun V1 =>
    D_M_output_43 L  v0 v1 v2 V1
def D_M_output (h0 : Nat) (p1 : Int32) (p2 : Int32) (L : gL) (V : gV) : Option (Int64 × gV) :=
  Option.bind (g_wr L V 4 h0 0 (tI (0 : Int32))) fun V1 =>
    Option.bind ((L).2 4 h0) fun n12 =>
    g_b2 (D_M_isStep h0 p1 L V1) fun r2 V3 =>
    (if r2 = 0 then
    D_M_output_22 L  h0 p1 p2 V3
  else
    (if p2 < 0 then
    D_M_output_22 L  h0 p1 p2 V3
  else
    (if p2 ≤ (1 : Int32) then
    Option.bind ((L).2 4 h0) fun n8 =>
    g_b2 (D_M_hasOutput h0 p1 L V3) fun r4 V5 =>
    (if r4 = 0 then
    Option.bind (g_wr L V5 4 h0 0 (tI (2 : Int32))) fun V6 =>
    D_M_output_43 L  h0 p1 p2 V6
  else
    D_M_output_43 L  h0 p1 p2 V5)
  else
    D_M_output_22 L  h0 p1 p2 V3)))
set_option maxHeartbeats 4000000 in
set_option maxRecDepth 100000 in
theorem t_M_output_43 (C : gC E base p s m args meth c b_M_output R_M 3) (hr : meth.sig.returnType = (some .long)) {z : Int64 × gV} (v0 : Nat) (v1 : Int32) (v2 : Int32) (V : gV) (h : D_M_output_43 L  v0 v1 v2 V = some z) : vW E base base 3 p l e rm_M_output s m args below meth c 0 0 (g_MQ E base base below args s 0 0 L z.2 (some (tJ z.1))) L V 43 [(0, tR (some v0)), (1, tI v1), (2, tI v2)] [] := by
  unfold D_M_output_43 at h
  refine r_aload_n (x := (some v0)) C d_M_output_43 rfl rfl ?_
  replace h := g_ob h; obtain ⟨x1, e_x1, h⟩ := h
  refine r_getI C f_M_72 d_M_output_44 e_x1 ?_
  refine r_if_eq C 54 d_M_output_47 (by decide) (fun c5 => ?_) (fun c5 => ?_)
  · rw [if_pos c5] at h
    refine r_aload_n (x := (some v0)) C d_M_output_54 rfl rfl ?_
    refine r_iload_n (x := v1) C d_M_output_55 rfl rfl ?_
    refine r_iload_n (x := v2) C d_M_output_56 rfl rfl ?_
    replace h := g_ob h; obtain ⟨n4, e_n4, h⟩ := h
    replace h := g_o2 h; obtain ⟨r2, V3, e_r2, h⟩ := h
    refine r_callV (As := [tI v1, tI v2]) C k_M_101 w_269 w_270 w_267 ⟨_, _, rfl⟩ (c_M_partOf l E base base v0 v1 v2 L V e_r2) d_M_output_57 e_n4 rfl ⟨Nat.le_of_ble_eq_true rfl, Nat.le_of_ble_eq_true rfl⟩ (Nat.le_of_ble_eq_true rfl) (Nat.le_of_ble_eq_true rfl) (Nat.le_of_ble_eq_true rfl) rfl ?_
    cases h
    exact r_lret C hr d_M_output_60
  · rw [if_neg c5] at h
    refine r_lconst C (0 : Int64) d_M_output_50 (by decide) ?_
    refine r_goto C 60 d_M_output_51 (by decide) ?_
    cases h
    exact r_lret C hr d_M_output_60
set_option maxHeartbeats 4000000 in
set_option maxRecDepth 100000 in
theorem t_M_output_22 (C : gC E base p s m args meth c b_M_output R_M 3) (hr : meth.sig.returnType = (some .long)) {z : Int64 × gV} (v0 : Nat) (v1 : Int32) (v2 : Int32) (V : gV) (h : D_M_output_22 L  v0 v1 v2 V = some z) : vW E base base 3 p l e rm_M_output s m args below meth c 0 0 (g_MQ E base base below args s 0 0 L z.2 (some (tJ z.1))) L V 22 [(0, tR (some v0)), (1, tI v1), (2, tI v2)] [] := by
  unfold D_M_output_22 at h
  refine r_aload_n (x := (some v0)) C d_M_output_22 rfl rfl ?_
  refine r_iconst C (1 : Int32) d_M_output_23 (by decide) ?_
  replace h := g_ob h; obtain ⟨V1, e_V1, h⟩ := h
  refine r_put C f_M_72 d_M_output_24 e_V1 (g_nI (1 : Int32)).1 (g_nI (1 : Int32)).2 ?_
  refine r_goto C 43 d_M_output_27 (by decide) ?_
  exact t_M_output_43 C hr  v0 v1 v2 V1 h
set_option maxHeartbeats 4000000 in
set_option maxRecDepth 100000 in
theorem t_M_output_0 (C : gC E base p s m args meth c b_M_output R_M 3) (hr : meth.sig.returnType = (some .long)) {z : Int64 × gV} (h0 : Nat) (p1 : Int32) (p2 : Int32) (V : gV) (h : D_M_output h0 p1 p2 L V = some z) : vW E base base 3 p l e rm_M_output s m args below meth c 0 0 (g_MQ E base base below args s 0 0 L z.2 (some (tJ z.1))) L V 0 [(0, tR (some h0)), (1, tI p1), (2, tI p2)] [] := by
  unfold D_M_output at h
  refine r_aload_n (x := (some h0)) C d_M_output_0 rfl rfl ?_
  refine r_iconst C (0 : Int32) d_M_output_1 (by decide) ?_
  replace h := g_ob h; obtain ⟨V1, e_V1, h⟩ := h
  refine r_put C f_M_72 d_M_output_2 e_V1 (g_nI (0 : Int32)).1 (g_nI (0 : Int32)).2 ?_
  refine r_aload_n (x := (some h0)) C d_M_output_5 rfl rfl ?_
  refine r_iload_n (x := p1) C d_M_output_6 rfl rfl ?_
  replace h := g_ob h; obtain ⟨n12, e_n12, h⟩ := h
  replace h := g_o2 h; obtain ⟨r2, V3, e_r2, h⟩ := h
  refine r_callV (As := [tI p1]) C k_M_86 w_260 w_261 w_254 ⟨_, _, rfl⟩ (c_M_isStep l E base base h0 p1 L V1 e_r2) d_M_output_7 e_n12 rfl ⟨Nat.le_of_ble_eq_true rfl, Nat.le_of_ble_eq_true rfl⟩ (Nat.le_of_ble_eq_true rfl) (Nat.le_of_ble_eq_true rfl) (Nat.le_of_ble_eq_true rfl) rfl ?_
  refine r_if_eq C 22 d_M_output_10 (by decide) (fun c11 => ?_) (fun c11 => ?_)
  · rw [if_pos c11] at h
    exact t_M_output_22 C hr  h0 p1 p2 V3 h
  · rw [if_neg c11] at h
    refine r_iload_n (x := p2) C d_M_output_13 rfl rfl ?_
    refine r_if_lt C 22 d_M_output_14 (by decide) (fun c10 => ?_) (fun c10 => ?_)
    · rw [if_pos c10] at h
      exact t_M_output_22 C hr  h0 p1 p2 V3 h
    · rw [if_neg c10] at h
      refine r_iload_n (x := p2) C d_M_output_17 rfl rfl ?_
      refine r_iconst C (1 : Int32) d_M_output_18 (by decide) ?_
      refine r_icmp_le C 30 d_M_output_19 (by decide) (fun c9 => ?_) (fun c9 => ?_)
      · rw [if_pos c9] at h
        refine r_aload_n (x := (some h0)) C d_M_output_30 rfl rfl ?_
        refine r_iload_n (x := p1) C d_M_output_31 rfl rfl ?_
        replace h := g_ob h; obtain ⟨n8, e_n8, h⟩ := h
        replace h := g_o2 h; obtain ⟨r4, V5, e_r4, h⟩ := h
        refine r_callV (As := [tI p1]) C k_M_130 w_301 w_302 w_299 ⟨_, _, rfl⟩ (c_M_hasOutput l E base base h0 p1 L V3 e_r4) d_M_output_32 e_n8 rfl ⟨Nat.le_of_ble_eq_true rfl, Nat.le_of_ble_eq_true rfl⟩ (Nat.le_of_ble_eq_true rfl) (Nat.le_of_ble_eq_true rfl) (Nat.le_of_ble_eq_true rfl) rfl ?_
        refine r_if_ne C 43 d_M_output_35 (by decide) (fun c7 => ?_) (fun c7 => ?_)
        · rw [if_neg c7] at h
          exact t_M_output_43 C hr  h0 p1 p2 V5 h
        · rw [if_pos c7] at h
          refine r_aload_n (x := (some h0)) C d_M_output_38 rfl rfl ?_
          refine r_iconst C (2 : Int32) d_M_output_39 (by decide) ?_
          replace h := g_ob h; obtain ⟨V6, e_V6, h⟩ := h
          refine r_put C f_M_72 d_M_output_40 e_V6 (g_nI (2 : Int32)).1 (g_nI (2 : Int32)).2 ?_
          exact t_M_output_43 C hr  h0 p1 p2 V6 h
      · rw [if_neg c9] at h
        exact t_M_output_22 C hr  h0 p1 p2 V3 h
theorem c_M_output (l : Launch) (E : gE) (base : Nat) (h0 : Nat) (p1 : Int32) (p2 : Int32) (L : gL) (V : gV) {z : Int64 × gV} (h : D_M_output h0 p1 p2 L V = some z) : g_Met l E base base y_M_output b_M_output 3 (some .long) rm_M_output [tR (some h0), tI p1, tI p2] L V (some (tJ z.1)) L z.2 :=
  r_enter R_M (by decide) rfl [tR (some h0), tI p1, tI p2] [(0, tR (some h0)), (1, tI p1), (2, tI p2)] rfl (Nat.le_of_ble_eq_true rfl) (fun p e s m args below meth c C hr hnm => t_M_output_0 C hr h0 p1 p2 V h)
def rm_M_records : Room := { frames := 1, cells := 0, slots := 0, locals := 21 }
def D_M_records (h0 : Nat) (p1 : Int32) (L : gL) (V : gV) : Option (Int32 × gV) :=
  Option.bind (g_wr L V 4 h0 0 (tI (0 : Int32))) fun V1 =>
    Option.bind ((L).2 4 h0) fun n8 =>
    g_b2 (D_M_isStep h0 p1 L V1) fun r2 V3 =>
    (if r2 = 0 then
    some ((0 : Int32), V3)
  else
    Option.bind (g_rR L V3 4 h0 12) fun x4 =>
    Option.bind x4 fun a5 =>
    Option.bind (g_aI L V3 100 a5 p1) fun x6 =>
    some (x6, V3))
set_option maxHeartbeats 4000000 in
set_option maxRecDepth 100000 in
theorem t_M_records_0 (C : gC E base p s m args meth c b_M_records R_M 2) (hr : meth.sig.returnType = (some .int)) {z : Int32 × gV} (h0 : Nat) (p1 : Int32) (V : gV) (h : D_M_records h0 p1 L V = some z) : vW E base base 2 p l e rm_M_records s m args below meth c 0 0 (g_MQ E base base below args s 0 0 L z.2 (some (tI z.1))) L V 0 [(0, tR (some h0)), (1, tI p1)] [] := by
  unfold D_M_records at h
  refine r_aload_n (x := (some h0)) C d_M_records_0 rfl rfl ?_
  refine r_iconst C (0 : Int32) d_M_records_1 (by decide) ?_
  replace h := g_ob h; obtain ⟨V1, e_V1, h⟩ := h
  refine r_put C f_M_72 d_M_records_2 e_V1 (g_nI (0 : Int32)).1 (g_nI (0 : Int32)).2 ?_
  refine r_aload_n (x := (some h0)) C d_M_records_5 rfl rfl ?_
  refine r_iload_n (x := p1) C d_M_records_6 rfl rfl ?_
  replace h := g_ob h; obtain ⟨n8, e_n8, h⟩ := h
  replace h := g_o2 h; obtain ⟨r2, V3, e_r2, h⟩ := h
  refine r_callV (As := [tI p1]) C k_M_86 w_260 w_261 w_254 ⟨_, _, rfl⟩ (c_M_isStep l E base base h0 p1 L V1 e_r2) d_M_records_7 e_n8 rfl ⟨Nat.le_of_ble_eq_true rfl, Nat.le_of_ble_eq_true rfl⟩ (Nat.le_of_ble_eq_true rfl) (Nat.le_of_ble_eq_true rfl) (Nat.le_of_ble_eq_true rfl) rfl ?_
  refine r_if_eq C 22 d_M_records_10 (by decide) (fun c7 => ?_) (fun c7 => ?_)
  · rw [if_pos c7] at h
    refine r_iconst C (0 : Int32) d_M_records_22 (by decide) ?_
    cases h
    exact r_iret C hr d_M_records_23
  · rw [if_neg c7] at h
    refine r_aload_n (x := (some h0)) C d_M_records_13 rfl rfl ?_
    replace h := g_ob h; obtain ⟨x4, e_x4, h⟩ := h
    refine r_getR C f_M_39 d_M_records_14 e_x4 ?_
    refine r_iload_n (x := p1) C d_M_records_17 rfl rfl ?_
    replace h := g_ob h; obtain ⟨a5, rfl, h⟩ := h
    replace h := g_ob h; obtain ⟨x6, e_x6, h⟩ := h
    refine r_iald C ak_100 d_M_records_18 e_x6 ?_
    refine r_goto C 23 d_M_records_19 (by decide) ?_
    cases h
    exact r_iret C hr d_M_records_23
theorem c_M_records (l : Launch) (E : gE) (base : Nat) (h0 : Nat) (p1 : Int32) (L : gL) (V : gV) {z : Int32 × gV} (h : D_M_records h0 p1 L V = some z) : g_Met l E base base y_M_records b_M_records 2 (some .int) rm_M_records [tR (some h0), tI p1] L V (some (tI z.1)) L z.2 :=
  r_enter R_M (by decide) rfl [tR (some h0), tI p1] [(0, tR (some h0)), (1, tI p1)] rfl (Nat.le_of_ble_eq_true rfl) (fun p e s m args below meth c C hr hnm => t_M_records_0 C hr h0 p1 V h)
def rm_M_record : Room := { frames := 1, cells := 0, slots := 0, locals := 21 }
def D_M_record_41 (L : gL)  (V : gV) : Option (Int64 × gV) :=
  some ((0 : Int64), V)
def D_M_record (h0 : Nat) (p1 : Int32) (p2 : Int32) (p3 : Int32) (L : gL) (V : gV) : Option (Int64 × gV) :=
  Option.bind (g_wr L V 4 h0 0 (tI (0 : Int32))) fun V1 =>
    Option.bind ((L).2 4 h0) fun n20 =>
    g_b2 (D_M_isStep h0 p1 L V1) fun r2 V3 =>
    (if r2 = 0 then
    D_M_record_41 L   V3
  else
    (if p2 < 0 then
    D_M_record_41 L   V3
  else
    Option.bind (g_rR L V3 4 h0 12) fun x4 =>
    Option.bind x4 fun a5 =>
    Option.bind (g_aI L V3 100 a5 p1) fun x6 =>
    (if x6 ≤ p2 then
    D_M_record_41 L   V3
  else
    (if p3 < 0 then
    D_M_record_41 L   V3
  else
    Option.bind (g_rR L V3 4 h0 9) fun x7 =>
    Option.bind x7 fun a8 =>
    Option.bind (g_aI L V3 100 a8 p1) fun x9 =>
    (if p3 < x9 then
    Option.bind (g_rR L V3 4 h0 15) fun x10 =>
    g_b2 (D_M_record4 p1 p2 L V3) fun r11 V12 =>
    Option.bind x10 fun a13 =>
    Option.bind (g_aJ L V12 101 a13 (((6 : Int32) * r11) + p3)) fun x14 =>
    some (x14, V12)
  else
    D_M_record_41 L   V3)))))
set_option maxHeartbeats 4000000 in
set_option maxRecDepth 100000 in
theorem t_M_record_41 (C : gC E base p s m args meth c b_M_record R_M 4) (hr : meth.sig.returnType = (some .long)) {z : Int64 × gV}  (V : gV) (h : D_M_record_41 L   V = some z) : vW E base base 4 p l e rm_M_record s m args below meth c 0 0 (g_MQ E base base below args s 0 0 L z.2 (some (tJ z.1))) L V 41 [] [] := by
  unfold D_M_record_41 at h
  refine r_lconst C (0 : Int64) d_M_record_41 (by decide) ?_
  refine r_goto C 60 d_M_record_42 (by decide) ?_
  cases h
  exact r_lret C hr d_M_record_60
set_option maxHeartbeats 4000000 in
set_option maxRecDepth 100000 in
theorem t_M_record_0 (C : gC E base p s m args meth c b_M_record R_M 4) (hr : meth.sig.returnType = (some .long)) {z : Int64 × gV} (h0 : Nat) (p1 : Int32) (p2 : Int32) (p3 : Int32) (V : gV) (h : D_M_record h0 p1 p2 p3 L V = some z) : vW E base base 4 p l e rm_M_record s m args below meth c 0 0 (g_MQ E base base below args s 0 0 L z.2 (some (tJ z.1))) L V 0 [(0, tR (some h0)), (1, tI p1), (2, tI p2), (3, tI p3)] [] := by
  unfold D_M_record at h
  refine r_aload_n (x := (some h0)) C d_M_record_0 rfl rfl ?_
  refine r_iconst C (0 : Int32) d_M_record_1 (by decide) ?_
  replace h := g_ob h; obtain ⟨V1, e_V1, h⟩ := h
  refine r_put C f_M_72 d_M_record_2 e_V1 (g_nI (0 : Int32)).1 (g_nI (0 : Int32)).2 ?_
  refine r_aload_n (x := (some h0)) C d_M_record_5 rfl rfl ?_
  refine r_iload_n (x := p1) C d_M_record_6 rfl rfl ?_
  replace h := g_ob h; obtain ⟨n20, e_n20, h⟩ := h
  replace h := g_o2 h; obtain ⟨r2, V3, e_r2, h⟩ := h
  refine r_callV (As := [tI p1]) C k_M_86 w_260 w_261 w_254 ⟨_, _, rfl⟩ (c_M_isStep l E base base h0 p1 L V1 e_r2) d_M_record_7 e_n20 rfl ⟨Nat.le_of_ble_eq_true rfl, Nat.le_of_ble_eq_true rfl⟩ (Nat.le_of_ble_eq_true rfl) (Nat.le_of_ble_eq_true rfl) (Nat.le_of_ble_eq_true rfl) rfl ?_
  refine r_if_eq C 41 d_M_record_10 (by decide) (fun c19 => ?_) (fun c19 => ?_)
  · rw [if_pos c19] at h
    refine r_lv [] rfl ?_
    exact t_M_record_41 C hr   V3 h
  · rw [if_neg c19] at h
    refine r_iload_n (x := p2) C d_M_record_13 rfl rfl ?_
    refine r_if_lt C 41 d_M_record_14 (by decide) (fun c18 => ?_) (fun c18 => ?_)
    · rw [if_pos c18] at h
      refine r_lv [] rfl ?_
      exact t_M_record_41 C hr   V3 h
    · rw [if_neg c18] at h
      refine r_iload_n (x := p2) C d_M_record_17 rfl rfl ?_
      refine r_aload_n (x := (some h0)) C d_M_record_18 rfl rfl ?_
      replace h := g_ob h; obtain ⟨x4, e_x4, h⟩ := h
      refine r_getR C f_M_39 d_M_record_19 e_x4 ?_
      refine r_iload_n (x := p1) C d_M_record_22 rfl rfl ?_
      replace h := g_ob h; obtain ⟨a5, rfl, h⟩ := h
      replace h := g_ob h; obtain ⟨x6, e_x6, h⟩ := h
      refine r_iald C ak_100 d_M_record_23 e_x6 ?_
      refine r_icmp_ge C 41 d_M_record_24 (by decide) (fun c17 => ?_) (fun c17 => ?_)
      · rw [if_pos c17] at h
        refine r_lv [] rfl ?_
        exact t_M_record_41 C hr   V3 h
      · rw [if_neg c17] at h
        refine r_iload_n (x := p3) C d_M_record_27 rfl rfl ?_
        refine r_if_lt C 41 d_M_record_28 (by decide) (fun c16 => ?_) (fun c16 => ?_)
        · rw [if_pos c16] at h
          refine r_lv [] rfl ?_
          exact t_M_record_41 C hr   V3 h
        · rw [if_neg c16] at h
          refine r_iload_n (x := p3) C d_M_record_31 rfl rfl ?_
          refine r_aload_n (x := (some h0)) C d_M_record_32 rfl rfl ?_
          replace h := g_ob h; obtain ⟨x7, e_x7, h⟩ := h
          refine r_getR C f_M_30 d_M_record_33 e_x7 ?_
          refine r_iload_n (x := p1) C d_M_record_36 rfl rfl ?_
          replace h := g_ob h; obtain ⟨a8, rfl, h⟩ := h
          replace h := g_ob h; obtain ⟨x9, e_x9, h⟩ := h
          refine r_iald C ak_100 d_M_record_37 e_x9 ?_
          refine r_icmp_lt C 45 d_M_record_38 (by decide) (fun c15 => ?_) (fun c15 => ?_)
          · rw [if_pos c15] at h
            refine r_aload_n (x := (some h0)) C d_M_record_45 rfl rfl ?_
            replace h := g_ob h; obtain ⟨x10, e_x10, h⟩ := h
            refine r_getR C f_M_48 d_M_record_46 e_x10 ?_
            refine r_bipush C (6 : Int32) d_M_record_49 (by decide) ?_
            refine r_iload_n (x := p1) C d_M_record_51 rfl rfl ?_
            refine r_iload_n (x := p2) C d_M_record_52 rfl rfl ?_
            replace h := g_o2 h; obtain ⟨r11, V12, e_r11, h⟩ := h
            refine r_callS (As := [tI p1, tI p2]) C k_M_93 w_264 w_262 (c_M_record4 l E base base p1 p2 L V3 e_r11) d_M_record_53 rfl ⟨Nat.le_of_ble_eq_true rfl, Nat.le_of_ble_eq_true rfl⟩ (Nat.le_of_ble_eq_true rfl) (Nat.le_of_ble_eq_true rfl) (Nat.le_of_ble_eq_true rfl) rfl ?_
            refine r_imul C d_M_record_56 ?_
            refine r_iload_n (x := p3) C d_M_record_57 rfl rfl ?_
            refine r_iadd C d_M_record_58 ?_
            replace h := g_ob h; obtain ⟨a13, rfl, h⟩ := h
            replace h := g_ob h; obtain ⟨x14, e_x14, h⟩ := h
            refine r_lald C ak_101 d_M_record_59 e_x14 ?_
            cases h
            exact r_lret C hr d_M_record_60
          · rw [if_neg c15] at h
            refine r_lv [] rfl ?_
            exact t_M_record_41 C hr   V3 h
theorem c_M_record (l : Launch) (E : gE) (base : Nat) (h0 : Nat) (p1 : Int32) (p2 : Int32) (p3 : Int32) (L : gL) (V : gV) {z : Int64 × gV} (h : D_M_record h0 p1 p2 p3 L V = some z) : g_Met l E base base y_M_record b_M_record 4 (some .long) rm_M_record [tR (some h0), tI p1, tI p2, tI p3] L V (some (tJ z.1)) L z.2 :=
  r_enter R_M (by decide) rfl [tR (some h0), tI p1, tI p2, tI p3] [(0, tR (some h0)), (1, tI p1), (2, tI p2), (3, tI p3)] rfl (Nat.le_of_ble_eq_true rfl) (fun p e s m args below meth c C hr hnm => t_M_record_0 C hr h0 p1 p2 p3 V h)
def rm_M_failed : Room := { frames := 1, cells := 0, slots := 0, locals := 21 }
def D_M_failed_27 (L : gL)  (V : gV) : Option (Int32 × gV) :=
  some ((-1 : Int32), V)
def D_M_failed (h0 : Nat) (p1 : Int32) (p2 : Int32) (L : gL) (V : gV) : Option (Int32 × gV) :=
  Option.bind (g_wr L V 4 h0 0 (tI (0 : Int32))) fun V1 =>
    Option.bind ((L).2 4 h0) fun n15 =>
    g_b2 (D_M_isStep h0 p1 L V1) fun r2 V3 =>
    (if r2 = 0 then
    D_M_failed_27 L   V3
  else
    (if p2 < 0 then
    D_M_failed_27 L   V3
  else
    Option.bind (g_rR L V3 4 h0 12) fun x4 =>
    Option.bind x4 fun a5 =>
    Option.bind (g_aI L V3 100 a5 p1) fun x6 =>
    (if p2 < x6 then
    Option.bind (g_rR L V3 4 h0 13) fun x7 =>
    g_b2 (D_M_record4 p1 p2 L V3) fun r8 V9 =>
    Option.bind x7 fun a10 =>
    Option.bind (g_aI L V9 100 a10 r8) fun x11 =>
    some (x11, V9)
  else
    D_M_failed_27 L   V3)))
set_option maxHeartbeats 4000000 in
set_option maxRecDepth 100000 in
theorem t_M_failed_27 (C : gC E base p s m args meth c b_M_failed R_M 3) (hr : meth.sig.returnType = (some .int)) {z : Int32 × gV}  (V : gV) (h : D_M_failed_27 L   V = some z) : vW E base base 3 p l e rm_M_failed s m args below meth c 0 0 (g_MQ E base base below args s 0 0 L z.2 (some (tI z.1))) L V 27 [] [] := by
  unfold D_M_failed_27 at h
  refine r_iconst C (-1 : Int32) d_M_failed_27 (by decide) ?_
  refine r_goto C 41 d_M_failed_28 (by decide) ?_
  cases h
  exact r_iret C hr d_M_failed_41
set_option maxHeartbeats 4000000 in
set_option maxRecDepth 100000 in
theorem t_M_failed_0 (C : gC E base p s m args meth c b_M_failed R_M 3) (hr : meth.sig.returnType = (some .int)) {z : Int32 × gV} (h0 : Nat) (p1 : Int32) (p2 : Int32) (V : gV) (h : D_M_failed h0 p1 p2 L V = some z) : vW E base base 3 p l e rm_M_failed s m args below meth c 0 0 (g_MQ E base base below args s 0 0 L z.2 (some (tI z.1))) L V 0 [(0, tR (some h0)), (1, tI p1), (2, tI p2)] [] := by
  unfold D_M_failed at h
  refine r_aload_n (x := (some h0)) C d_M_failed_0 rfl rfl ?_
  refine r_iconst C (0 : Int32) d_M_failed_1 (by decide) ?_
  replace h := g_ob h; obtain ⟨V1, e_V1, h⟩ := h
  refine r_put C f_M_72 d_M_failed_2 e_V1 (g_nI (0 : Int32)).1 (g_nI (0 : Int32)).2 ?_
  refine r_aload_n (x := (some h0)) C d_M_failed_5 rfl rfl ?_
  refine r_iload_n (x := p1) C d_M_failed_6 rfl rfl ?_
  replace h := g_ob h; obtain ⟨n15, e_n15, h⟩ := h
  replace h := g_o2 h; obtain ⟨r2, V3, e_r2, h⟩ := h
  refine r_callV (As := [tI p1]) C k_M_86 w_260 w_261 w_254 ⟨_, _, rfl⟩ (c_M_isStep l E base base h0 p1 L V1 e_r2) d_M_failed_7 e_n15 rfl ⟨Nat.le_of_ble_eq_true rfl, Nat.le_of_ble_eq_true rfl⟩ (Nat.le_of_ble_eq_true rfl) (Nat.le_of_ble_eq_true rfl) (Nat.le_of_ble_eq_true rfl) rfl ?_
  refine r_if_eq C 27 d_M_failed_10 (by decide) (fun c14 => ?_) (fun c14 => ?_)
  · rw [if_pos c14] at h
    refine r_lv [] rfl ?_
    exact t_M_failed_27 C hr   V3 h
  · rw [if_neg c14] at h
    refine r_iload_n (x := p2) C d_M_failed_13 rfl rfl ?_
    refine r_if_lt C 27 d_M_failed_14 (by decide) (fun c13 => ?_) (fun c13 => ?_)
    · rw [if_pos c13] at h
      refine r_lv [] rfl ?_
      exact t_M_failed_27 C hr   V3 h
    · rw [if_neg c13] at h
      refine r_iload_n (x := p2) C d_M_failed_17 rfl rfl ?_
      refine r_aload_n (x := (some h0)) C d_M_failed_18 rfl rfl ?_
      replace h := g_ob h; obtain ⟨x4, e_x4, h⟩ := h
      refine r_getR C f_M_39 d_M_failed_19 e_x4 ?_
      refine r_iload_n (x := p1) C d_M_failed_22 rfl rfl ?_
      replace h := g_ob h; obtain ⟨a5, rfl, h⟩ := h
      replace h := g_ob h; obtain ⟨x6, e_x6, h⟩ := h
      refine r_iald C ak_100 d_M_failed_23 e_x6 ?_
      refine r_icmp_lt C 31 d_M_failed_24 (by decide) (fun c12 => ?_) (fun c12 => ?_)
      · rw [if_pos c12] at h
        refine r_aload_n (x := (some h0)) C d_M_failed_31 rfl rfl ?_
        replace h := g_ob h; obtain ⟨x7, e_x7, h⟩ := h
        refine r_getR C f_M_42 d_M_failed_32 e_x7 ?_
        refine r_iload_n (x := p1) C d_M_failed_35 rfl rfl ?_
        refine r_iload_n (x := p2) C d_M_failed_36 rfl rfl ?_
        replace h := g_o2 h; obtain ⟨r8, V9, e_r8, h⟩ := h
        refine r_callS (As := [tI p1, tI p2]) C k_M_93 w_264 w_262 (c_M_record4 l E base base p1 p2 L V3 e_r8) d_M_failed_37 rfl ⟨Nat.le_of_ble_eq_true rfl, Nat.le_of_ble_eq_true rfl⟩ (Nat.le_of_ble_eq_true rfl) (Nat.le_of_ble_eq_true rfl) (Nat.le_of_ble_eq_true rfl) rfl ?_
        replace h := g_ob h; obtain ⟨a10, rfl, h⟩ := h
        replace h := g_ob h; obtain ⟨x11, e_x11, h⟩ := h
        refine r_iald C ak_100 d_M_failed_40 e_x11 ?_
        cases h
        exact r_iret C hr d_M_failed_41
      · rw [if_neg c12] at h
        refine r_lv [] rfl ?_
        exact t_M_failed_27 C hr   V3 h
theorem c_M_failed (l : Launch) (E : gE) (base : Nat) (h0 : Nat) (p1 : Int32) (p2 : Int32) (L : gL) (V : gV) {z : Int32 × gV} (h : D_M_failed h0 p1 p2 L V = some z) : g_Met l E base base y_M_failed b_M_failed 3 (some .int) rm_M_failed [tR (some h0), tI p1, tI p2] L V (some (tI z.1)) L z.2 :=
  r_enter R_M (by decide) rfl [tR (some h0), tI p1, tI p2] [(0, tR (some h0)), (1, tI p1), (2, tI p2)] rfl (Nat.le_of_ble_eq_true rfl) (fun p e s m args below meth c C hr hnm => t_M_failed_0 C hr h0 p1 p2 V h)
def rm_M_total : Room := { frames := 0, cells := 0, slots := 0, locals := 0 }
def D_M_total_14 (L : gL)  (V : gV) : Option (Int32 × gV) :=
  some ((-1 : Int32), V)
def D_M_total (h0 : Nat) (p1 : Int32) (L : gL) (V : gV) : Option (Int32 × gV) :=
  Option.bind (g_wr L V 4 h0 0 (tI (0 : Int32))) fun V1 =>
    (if p1 < 0 then
    D_M_total_14 L   V1
  else
    (if p1 ≤ (3 : Int32) then
    Option.bind (g_rR L V1 4 h0 20) fun x2 =>
    Option.bind x2 fun a3 =>
    Option.bind (g_aI L V1 100 a3 p1) fun x4 =>
    some (x4, V1)
  else
    D_M_total_14 L   V1))
set_option maxHeartbeats 4000000 in
set_option maxRecDepth 100000 in
theorem t_M_total_14 (C : gC E base p s m args meth c b_M_total R_M 2) (hr : meth.sig.returnType = (some .int)) {z : Int32 × gV}  (V : gV) (h : D_M_total_14 L   V = some z) : vW E base base 2 p l e rm_M_total s m args below meth c 0 0 (g_MQ E base base below args s 0 0 L z.2 (some (tI z.1))) L V 14 [] [] := by
  unfold D_M_total_14 at h
  refine r_iconst C (-1 : Int32) d_M_total_14 (by decide) ?_
  refine r_goto C 24 d_M_total_15 (by decide) ?_
  cases h
  exact r_iret C hr d_M_total_24
set_option maxHeartbeats 4000000 in
set_option maxRecDepth 100000 in
theorem t_M_total_0 (C : gC E base p s m args meth c b_M_total R_M 2) (hr : meth.sig.returnType = (some .int)) {z : Int32 × gV} (h0 : Nat) (p1 : Int32) (V : gV) (h : D_M_total h0 p1 L V = some z) : vW E base base 2 p l e rm_M_total s m args below meth c 0 0 (g_MQ E base base below args s 0 0 L z.2 (some (tI z.1))) L V 0 [(0, tR (some h0)), (1, tI p1)] [] := by
  unfold D_M_total at h
  refine r_aload_n (x := (some h0)) C d_M_total_0 rfl rfl ?_
  refine r_iconst C (0 : Int32) d_M_total_1 (by decide) ?_
  replace h := g_ob h; obtain ⟨V1, e_V1, h⟩ := h
  refine r_put C f_M_72 d_M_total_2 e_V1 (g_nI (0 : Int32)).1 (g_nI (0 : Int32)).2 ?_
  refine r_iload_n (x := p1) C d_M_total_5 rfl rfl ?_
  refine r_if_lt C 14 d_M_total_6 (by decide) (fun c6 => ?_) (fun c6 => ?_)
  · rw [if_pos c6] at h
    refine r_lv [] rfl ?_
    exact t_M_total_14 C hr   V1 h
  · rw [if_neg c6] at h
    refine r_iload_n (x := p1) C d_M_total_9 rfl rfl ?_
    refine r_iconst C (3 : Int32) d_M_total_10 (by decide) ?_
    refine r_icmp_le C 18 d_M_total_11 (by decide) (fun c5 => ?_) (fun c5 => ?_)
    · rw [if_pos c5] at h
      refine r_aload_n (x := (some h0)) C d_M_total_18 rfl rfl ?_
      replace h := g_ob h; obtain ⟨x2, e_x2, h⟩ := h
      refine r_getR C f_M_63 d_M_total_19 e_x2 ?_
      refine r_iload_n (x := p1) C d_M_total_22 rfl rfl ?_
      replace h := g_ob h; obtain ⟨a3, rfl, h⟩ := h
      replace h := g_ob h; obtain ⟨x4, e_x4, h⟩ := h
      refine r_iald C ak_100 d_M_total_23 e_x4 ?_
      cases h
      exact r_iret C hr d_M_total_24
    · rw [if_neg c5] at h
      refine r_lv [] rfl ?_
      exact t_M_total_14 C hr   V1 h
theorem c_M_total (l : Launch) (E : gE) (base : Nat) (h0 : Nat) (p1 : Int32) (L : gL) (V : gV) {z : Int32 × gV} (h : D_M_total h0 p1 L V = some z) : g_Met l E base base y_M_total b_M_total 2 (some .int) rm_M_total [tR (some h0), tI p1] L V (some (tI z.1)) L z.2 :=
  r_enter R_M (by decide) rfl [tR (some h0), tI p1] [(0, tR (some h0)), (1, tI p1)] rfl (Nat.le_of_ble_eq_true rfl) (fun p e s m args below meth c C hr hnm => t_M_total_0 C hr h0 p1 V h)
def rm_M_share : Room := { frames := 0, cells := 0, slots := 0, locals := 0 }
def D_M_share_13 (L : gL) (v0 : Nat) (s0 : Int32) (s1 : Nat) (V : gV) : Option (Int32 × gV) :=
  Option.bind (g_wr L V 4 s1 0 (tI s0)) fun V1 =>
    Option.bind (g_rI L V1 4 v0 24) fun x2 =>
    (if x2 = 0 then
    some ((0 : Int32), V1)
  else
    Option.bind (g_rI L V1 4 v0 23) fun x3 =>
    Option.bind (g_rI L V1 4 v0 24) fun x4 =>
    (if x4 = 0 then none else
    some ((x3 * (1000 : Int32)) / x4, V1)))
def D_M_share (h0 : Nat) (L : gL) (V : gV) : Option (Int32 × gV) :=
  Option.bind (g_rI L V 4 h0 24) fun x1 =>
    (if x1 = 0 then
    D_M_share_13 L  h0 (1 : Int32) h0 V
  else
    D_M_share_13 L  h0 (0 : Int32) h0 V)
set_option maxHeartbeats 4000000 in
set_option maxRecDepth 100000 in
theorem t_M_share_13 (C : gC E base p s m args meth c b_M_share R_M 1) (hr : meth.sig.returnType = (some .int)) {z : Int32 × gV} (v0 : Nat) (s0 : Int32) (s1 : Nat) (V : gV) (h : D_M_share_13 L  v0 s0 s1 V = some z) : vW E base base 1 p l e rm_M_share s m args below meth c 0 0 (g_MQ E base base below args s 0 0 L z.2 (some (tI z.1))) L V 13 [(0, tR (some v0))] [tI s0, tR (some s1)] := by
  unfold D_M_share_13 at h
  replace h := g_ob h; obtain ⟨V1, e_V1, h⟩ := h
  refine r_put C f_M_72 d_M_share_13 e_V1 (g_nI s0).1 (g_nI s0).2 ?_
  refine r_aload_n (x := (some v0)) C d_M_share_16 rfl rfl ?_
  replace h := g_ob h; obtain ⟨x2, e_x2, h⟩ := h
  refine r_getI C f_M_149 d_M_share_17 e_x2 ?_
  refine r_if_ne C 27 d_M_share_20 (by decide) (fun c6 => ?_) (fun c6 => ?_)
  · rw [if_neg c6] at h
    refine r_aload_n (x := (some v0)) C d_M_share_27 rfl rfl ?_
    replace h := g_ob h; obtain ⟨x3, e_x3, h⟩ := h
    refine r_getI C f_M_133 d_M_share_28 e_x3 ?_
    refine r_sipush C (1000 : Int32) d_M_share_31 (by decide) ?_
    refine r_imul C d_M_share_34 ?_
    refine r_aload_n (x := (some v0)) C d_M_share_35 rfl rfl ?_
    replace h := g_ob h; obtain ⟨x4, e_x4, h⟩ := h
    refine r_getI C f_M_149 d_M_share_36 e_x4 ?_
    by_cases c5 : x4 = 0
    · rw [if_pos c5] at h; cases h
    rw [if_neg c5] at h
    refine r_idiv C d_M_share_39 c5 ?_
    cases h
    exact r_iret C hr d_M_share_40
  · rw [if_pos c6] at h
    refine r_iconst C (0 : Int32) d_M_share_23 (by decide) ?_
    refine r_goto C 40 d_M_share_24 (by decide) ?_
    cases h
    exact r_iret C hr d_M_share_40
set_option maxHeartbeats 4000000 in
set_option maxRecDepth 100000 in
theorem t_M_share_0 (C : gC E base p s m args meth c b_M_share R_M 1) (hr : meth.sig.returnType = (some .int)) {z : Int32 × gV} (h0 : Nat) (V : gV) (h : D_M_share h0 L V = some z) : vW E base base 1 p l e rm_M_share s m args below meth c 0 0 (g_MQ E base base below args s 0 0 L z.2 (some (tI z.1))) L V 0 [(0, tR (some h0))] [] := by
  unfold D_M_share at h
  refine r_aload_n (x := (some h0)) C d_M_share_0 rfl rfl ?_
  refine r_aload_n (x := (some h0)) C d_M_share_1 rfl rfl ?_
  replace h := g_ob h; obtain ⟨x1, e_x1, h⟩ := h
  refine r_getI C f_M_149 d_M_share_2 e_x1 ?_
  refine r_if_ne C 12 d_M_share_5 (by decide) (fun c2 => ?_) (fun c2 => ?_)
  · rw [if_neg c2] at h
    refine r_iconst C (0 : Int32) d_M_share_12 (by decide) ?_
    exact t_M_share_13 C hr  h0 (0 : Int32) h0 V h
  · rw [if_pos c2] at h
    refine r_iconst C (1 : Int32) d_M_share_8 (by decide) ?_
    refine r_goto C 13 d_M_share_9 (by decide) ?_
    exact t_M_share_13 C hr  h0 (1 : Int32) h0 V h
theorem c_M_share (l : Launch) (E : gE) (base : Nat) (h0 : Nat) (L : gL) (V : gV) {z : Int32 × gV} (h : D_M_share h0 L V = some z) : g_Met l E base base y_M_share b_M_share 1 (some .int) rm_M_share [tR (some h0)] L V (some (tI z.1)) L z.2 :=
  r_enter R_M (by decide) rfl [tR (some h0)] [(0, tR (some h0))] rfl (Nat.le_of_ble_eq_true rfl) (fun p e s m args below meth c C hr hnm => t_M_share_0 C hr h0 V h)
end GC3
end
