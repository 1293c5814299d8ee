section
-- ===== PART A: goes FIRST, ahead of the names: the tables' words, and 'selects' of the private methods out of them =====
/-- a private method of a class that the tables say can be made, by its rows of tables_1 -/
def lw_okq (q : MethodName × Nat) : Prop := (q.1.cls ≠ "java/lang/invoke/MethodHandle" ∧ q.1.cls ≠ "java/lang/invoke/VarHandle") ∧ Cond.instantiable q.1.cls q.2 ∈ tables_1 ∧ Cond.privateMethod q.1 ∈ tables_1 ∧ Cond.instanceMethod q.1 ∈ tables_1
theorem lw_p0 : lw_okq (⟨"EarlyCut", "sourceAt", "(I)LEarlyCut$Source;"⟩, 7) := ⟨⟨by decide +kernel, by decide +kernel⟩, List.mem_of_getElem? (i := 14) (by decide +kernel), List.mem_of_getElem? (i := 75) (by decide +kernel), List.mem_of_getElem? (i := 76) (by decide +kernel)⟩
theorem lw_p1 : lw_okq (⟨"EarlyCut", "stepAt", "(I)LEarlyCut$Step;"⟩, 7) := ⟨⟨by decide +kernel, by decide +kernel⟩, List.mem_of_getElem? (i := 14) (by decide +kernel), List.mem_of_getElem? (i := 172) (by decide +kernel), List.mem_of_getElem? (i := 173) (by decide +kernel)⟩
theorem lw_p2 : lw_okq (⟨"EarlyCut", "forgetLatestBuild", "()V"⟩, 7) := ⟨⟨by decide +kernel, by decide +kernel⟩, List.mem_of_getElem? (i := 14) (by decide +kernel), List.mem_of_getElem? (i := 205) (by decide +kernel), List.mem_of_getElem? (i := 206) (by decide +kernel)⟩
theorem lw_p3 : lw_okq (⟨"EarlyCut", "takeNeeded", "(I)V"⟩, 7) := ⟨⟨by decide +kernel, by decide +kernel⟩, List.mem_of_getElem? (i := 14) (by decide +kernel), List.mem_of_getElem? (i := 213) (by decide +kernel), List.mem_of_getElem? (i := 214) (by decide +kernel)⟩
theorem lw_p4 : lw_okq (⟨"EarlyCut", "takeStepsReadBy", "(LEarlyCut$Step;)V"⟩, 7) := ⟨⟨by decide +kernel, by decide +kernel⟩, List.mem_of_getElem? (i := 14) (by decide +kernel), List.mem_of_getElem? (i := 217) (by decide +kernel), List.mem_of_getElem? (i := 218) (by decide +kernel)⟩
theorem lw_p5 : lw_okq (⟨"EarlyCut", "stepOfCode", "(I)LEarlyCut$Step;"⟩, 7) := ⟨⟨by decide +kernel, by decide +kernel⟩, List.mem_of_getElem? (i := 14) (by decide +kernel), List.mem_of_getElem? (i := 224) (by decide +kernel), List.mem_of_getElem? (i := 225) (by decide +kernel)⟩
theorem lw_p6 : lw_okq (⟨"EarlyCut", "buildOne", "(LEarlyCut$Step;)V"⟩, 7) := ⟨⟨by decide +kernel, by decide +kernel⟩, List.mem_of_getElem? (i := 14) (by decide +kernel), List.mem_of_getElem? (i := 228) (by decide +kernel), List.mem_of_getElem? (i := 229) (by decide +kernel)⟩
theorem lw_p7 : lw_okq (⟨"EarlyCut", "isMarked", "(LEarlyCut$Step;)Z"⟩, 7) := ⟨⟨by decide +kernel, by decide +kernel⟩, List.mem_of_getElem? (i := 14) (by decide +kernel), List.mem_of_getElem? (i := 232) (by decide +kernel), List.mem_of_getElem? (i := 233) (by decide +kernel)⟩
theorem lw_p8 : lw_okq (⟨"EarlyCut", "marksItsReader", "(ILEarlyCut$Entry;I)Z"⟩, 7) := ⟨⟨by decide +kernel, by decide +kernel⟩, List.mem_of_getElem? (i := 14) (by decide +kernel), List.mem_of_getElem? (i := 240) (by decide +kernel), List.mem_of_getElem? (i := 241) (by decide +kernel)⟩
theorem lw_p9 : lw_okq (⟨"EarlyCut", "isThereNow", "(I)Z"⟩, 7) := ⟨⟨by decide +kernel, by decide +kernel⟩, List.mem_of_getElem? (i := 14) (by decide +kernel), List.mem_of_getElem? (i := 244) (by decide +kernel), List.mem_of_getElem? (i := 245) (by decide +kernel)⟩
theorem lw_p10 : lw_okq (⟨"EarlyCut", "valueNow", "(I)J"⟩, 7) := ⟨⟨by decide +kernel, by decide +kernel⟩, List.mem_of_getElem? (i := 14) (by decide +kernel), List.mem_of_getElem? (i := 248) (by decide +kernel), List.mem_of_getElem? (i := 249) (by decide +kernel)⟩
theorem lw_p11 : lw_okq (⟨"EarlyCut", "isBlocked", "(LEarlyCut$Step;)Z"⟩, 7) := ⟨⟨by decide +kernel, by decide +kernel⟩, List.mem_of_getElem? (i := 14) (by decide +kernel), List.mem_of_getElem? (i := 263) (by decide +kernel), List.mem_of_getElem? (i := 264) (by decide +kernel)⟩
theorem lw_p12 : lw_okq (⟨"EarlyCut", "bringUpToDate", "(LEarlyCut$Step;)V"⟩, 7) := ⟨⟨by decide +kernel, by decide +kernel⟩, List.mem_of_getElem? (i := 14) (by decide +kernel), List.mem_of_getElem? (i := 271) (by decide +kernel), List.mem_of_getElem? (i := 272) (by decide +kernel)⟩
theorem lw_p13 : lw_okq (⟨"EarlyCut", "readNow", "(LEarlyCut$Step;)LEarlyCut$Entry;"⟩, 7) := ⟨⟨by decide +kernel, by decide +kernel⟩, List.mem_of_getElem? (i := 14) (by decide +kernel), List.mem_of_getElem? (i := 275) (by decide +kernel), List.mem_of_getElem? (i := 276) (by decide +kernel)⟩
theorem lw_p14 : lw_okq (⟨"EarlyCut", "compareOutputs", "(LEarlyCut$Entry;LEarlyCut$Step;)V"⟩, 7) := ⟨⟨by decide +kernel, by decide +kernel⟩, List.mem_of_getElem? (i := 14) (by decide +kernel), List.mem_of_getElem? (i := 326) (by decide +kernel), List.mem_of_getElem? (i := 327) (by decide +kernel)⟩
theorem lw_p15 : lw_okq (⟨"java/lang/Throwable", "fillInStackTrace", "(I)Ljava/lang/Throwable;"⟩, 6) := ⟨⟨by decide +kernel, by decide +kernel⟩, List.mem_of_getElem? (i := 406) (by decide +kernel), List.mem_of_getElem? (i := 404) (by decide +kernel), List.mem_of_getElem? (i := 405) (by decide +kernel)⟩
def lw_privs_1 : List (MethodName × Nat) := [(⟨"EarlyCut", "sourceAt", "(I)LEarlyCut$Source;"⟩, 7), (⟨"EarlyCut", "stepAt", "(I)LEarlyCut$Step;"⟩, 7), (⟨"EarlyCut", "forgetLatestBuild", "()V"⟩, 7), (⟨"EarlyCut", "takeNeeded", "(I)V"⟩, 7), (⟨"EarlyCut", "takeStepsReadBy", "(LEarlyCut$Step;)V"⟩, 7), (⟨"EarlyCut", "stepOfCode", "(I)LEarlyCut$Step;"⟩, 7), (⟨"EarlyCut", "buildOne", "(LEarlyCut$Step;)V"⟩, 7), (⟨"EarlyCut", "isMarked", "(LEarlyCut$Step;)Z"⟩, 7), (⟨"EarlyCut", "marksItsReader", "(ILEarlyCut$Entry;I)Z"⟩, 7), (⟨"EarlyCut", "isThereNow", "(I)Z"⟩, 7), (⟨"EarlyCut", "valueNow", "(I)J"⟩, 7), (⟨"EarlyCut", "isBlocked", "(LEarlyCut$Step;)Z"⟩, 7), (⟨"EarlyCut", "bringUpToDate", "(LEarlyCut$Step;)V"⟩, 7), (⟨"EarlyCut", "readNow", "(LEarlyCut$Step;)LEarlyCut$Entry;"⟩, 7), (⟨"EarlyCut", "compareOutputs", "(LEarlyCut$Entry;LEarlyCut$Step;)V"⟩, 7), (⟨"java/lang/Throwable", "fillInStackTrace", "(I)Ljava/lang/Throwable;"⟩, 6)]
theorem lw_r1 : ∀ q ∈ lw_privs_1, lw_okq q := List.forall_mem_cons.mpr ⟨lw_p0, List.forall_mem_cons.mpr ⟨lw_p1, List.forall_mem_cons.mpr ⟨lw_p2, List.forall_mem_cons.mpr ⟨lw_p3, List.forall_mem_cons.mpr ⟨lw_p4, List.forall_mem_cons.mpr ⟨lw_p5, List.forall_mem_cons.mpr ⟨lw_p6, List.forall_mem_cons.mpr ⟨lw_p7, List.forall_mem_cons.mpr ⟨lw_p8, List.forall_mem_cons.mpr ⟨lw_p9, List.forall_mem_cons.mpr ⟨lw_p10, List.forall_mem_cons.mpr ⟨lw_p11, List.forall_mem_cons.mpr ⟨lw_p12, List.forall_mem_cons.mpr ⟨lw_p13, List.forall_mem_cons.mpr ⟨lw_p14, List.forall_mem_cons.mpr ⟨lw_p15, fun _ h => absurd h List.not_mem_nil⟩⟩⟩⟩⟩⟩⟩⟩⟩⟩⟩⟩⟩⟩⟩⟩
theorem lw_p16 : lw_okq (⟨"EarlyCutModel", "isFile", "(I)Z"⟩, 25) := ⟨⟨by decide +kernel, by decide +kernel⟩, List.mem_of_getElem? (i := 476) (by decide +kernel), List.mem_of_getElem? (i := 570) (by decide +kernel), List.mem_of_getElem? (i := 571) (by decide +kernel)⟩
theorem lw_p17 : lw_okq (⟨"EarlyCutModel", "isStep", "(I)Z"⟩, 25) := ⟨⟨by decide +kernel, by decide +kernel⟩, List.mem_of_getElem? (i := 476) (by decide +kernel), List.mem_of_getElem? (i := 586) (by decide +kernel), List.mem_of_getElem? (i := 587) (by decide +kernel)⟩
theorem lw_p18 : lw_okq (⟨"EarlyCutModel", "more", "(III)Z"⟩, 25) := ⟨⟨by decide +kernel, by decide +kernel⟩, List.mem_of_getElem? (i := 476) (by decide +kernel), List.mem_of_getElem? (i := 590) (by decide +kernel), List.mem_of_getElem? (i := 591) (by decide +kernel)⟩
theorem lw_p19 : lw_okq (⟨"EarlyCutModel", "take", "(I)V"⟩, 25) := ⟨⟨by decide +kernel, by decide +kernel⟩, List.mem_of_getElem? (i := 476) (by decide +kernel), List.mem_of_getElem? (i := 606) (by decide +kernel), List.mem_of_getElem? (i := 607) (by decide +kernel)⟩
theorem lw_p20 : lw_okq (⟨"EarlyCutModel", "isFileRead", "(II)Z"⟩, 25) := ⟨⟨by decide +kernel, by decide +kernel⟩, List.mem_of_getElem? (i := 476) (by decide +kernel), List.mem_of_getElem? (i := 610) (by decide +kernel), List.mem_of_getElem? (i := 611) (by decide +kernel)⟩
theorem lw_p21 : lw_okq (⟨"EarlyCutModel", "mark", "()V"⟩, 25) := ⟨⟨by decide +kernel, by decide +kernel⟩, List.mem_of_getElem? (i := 476) (by decide +kernel), List.mem_of_getElem? (i := 614) (by decide +kernel), List.mem_of_getElem? (i := 615) (by decide +kernel)⟩
theorem lw_p22 : lw_okq (⟨"EarlyCutModel", "isAsWas", "(III)Z"⟩, 25) := ⟨⟨by decide +kernel, by decide +kernel⟩, List.mem_of_getElem? (i := 476) (by decide +kernel), List.mem_of_getElem? (i := 618) (by decide +kernel), List.mem_of_getElem? (i := 619) (by decide +kernel)⟩
theorem lw_p23 : lw_okq (⟨"EarlyCutModel", "thereNow", "(II)Z"⟩, 25) := ⟨⟨by decide +kernel, by decide +kernel⟩, List.mem_of_getElem? (i := 476) (by decide +kernel), List.mem_of_getElem? (i := 625) (by decide +kernel), List.mem_of_getElem? (i := 626) (by decide +kernel)⟩
theorem lw_p24 : lw_okq (⟨"EarlyCutModel", "valueNow", "(II)J"⟩, 25) := ⟨⟨by decide +kernel, by decide +kernel⟩, List.mem_of_getElem? (i := 476) (by decide +kernel), List.mem_of_getElem? (i := 629) (by decide +kernel), List.mem_of_getElem? (i := 630) (by decide +kernel)⟩
theorem lw_p25 : lw_okq (⟨"EarlyCutModel", "partOf", "(II)J"⟩, 25) := ⟨⟨by decide +kernel, by decide +kernel⟩, List.mem_of_getElem? (i := 476) (by decide +kernel), List.mem_of_getElem? (i := 633) (by decide +kernel), List.mem_of_getElem? (i := 634) (by decide +kernel)⟩
theorem lw_p26 : lw_okq (⟨"EarlyCutModel", "go", "(I)I"⟩, 25) := ⟨⟨by decide +kernel, by decide +kernel⟩, List.mem_of_getElem? (i := 476) (by decide +kernel), List.mem_of_getElem? (i := 637) (by decide +kernel), List.mem_of_getElem? (i := 638) (by decide +kernel)⟩
theorem lw_p27 : lw_okq (⟨"EarlyCutModel", "isBlocked", "(I)Z"⟩, 25) := ⟨⟨by decide +kernel, by decide +kernel⟩, List.mem_of_getElem? (i := 476) (by decide +kernel), List.mem_of_getElem? (i := 641) (by decide +kernel), List.mem_of_getElem? (i := 642) (by decide +kernel)⟩
theorem lw_p28 : lw_okq (⟨"EarlyCutModel", "hasOutput", "(I)Z"⟩, 25) := ⟨⟨by decide +kernel, by decide +kernel⟩, List.mem_of_getElem? (i := 476) (by decide +kernel), List.mem_of_getElem? (i := 645) (by decide +kernel), List.mem_of_getElem? (i := 646) (by decide +kernel)⟩
theorem lw_p29 : lw_okq (⟨"EarlyCutModel", "matching", "(I)I"⟩, 25) := ⟨⟨by decide +kernel, by decide +kernel⟩, List.mem_of_getElem? (i := 476) (by decide +kernel), List.mem_of_getElem? (i := 649) (by decide +kernel), List.mem_of_getElem? (i := 650) (by decide +kernel)⟩
theorem lw_p30 : lw_okq (⟨"EarlyCutModel", "bring", "(II)V"⟩, 25) := ⟨⟨by decide +kernel, by decide +kernel⟩, List.mem_of_getElem? (i := 476) (by decide +kernel), List.mem_of_getElem? (i := 653) (by decide +kernel), List.mem_of_getElem? (i := 654) (by decide +kernel)⟩
theorem lw_p31 : lw_okq (⟨"EarlyCutModel", "copy", "(III)V"⟩, 25) := ⟨⟨by decide +kernel, by decide +kernel⟩, List.mem_of_getElem? (i := 476) (by decide +kernel), List.mem_of_getElem? (i := 657) (by decide +kernel), List.mem_of_getElem? (i := 658) (by decide +kernel)⟩
def lw_privs_2 : List (MethodName × Nat) := [(⟨"EarlyCutModel", "isFile", "(I)Z"⟩, 25), (⟨"EarlyCutModel", "isStep", "(I)Z"⟩, 25), (⟨"EarlyCutModel", "more", "(III)Z"⟩, 25), (⟨"EarlyCutModel", "take", "(I)V"⟩, 25), (⟨"EarlyCutModel", "isFileRead", "(II)Z"⟩, 25), (⟨"EarlyCutModel", "mark", "()V"⟩, 25), (⟨"EarlyCutModel", "isAsWas", "(III)Z"⟩, 25), (⟨"EarlyCutModel", "thereNow", "(II)Z"⟩, 25), (⟨"EarlyCutModel", "valueNow", "(II)J"⟩, 25), (⟨"EarlyCutModel", "partOf", "(II)J"⟩, 25), (⟨"EarlyCutModel", "go", "(I)I"⟩, 25), (⟨"EarlyCutModel", "isBlocked", "(I)Z"⟩, 25), (⟨"EarlyCutModel", "hasOutput", "(I)Z"⟩, 25), (⟨"EarlyCutModel", "matching", "(I)I"⟩, 25), (⟨"EarlyCutModel", "bring", "(II)V"⟩, 25), (⟨"EarlyCutModel", "copy", "(III)V"⟩, 25)]
theorem lw_r2 : ∀ q ∈ lw_privs_2, lw_okq q := List.forall_mem_cons.mpr ⟨lw_p16, List.forall_mem_cons.mpr ⟨lw_p17, List.forall_mem_cons.mpr ⟨lw_p18, List.forall_mem_cons.mpr ⟨lw_p19, List.forall_mem_cons.mpr ⟨lw_p20, List.forall_mem_cons.mpr ⟨lw_p21, List.forall_mem_cons.mpr ⟨lw_p22, List.forall_mem_cons.mpr ⟨lw_p23, List.forall_mem_cons.mpr ⟨lw_p24, List.forall_mem_cons.mpr ⟨lw_p25, List.forall_mem_cons.mpr ⟨lw_p26, List.forall_mem_cons.mpr ⟨lw_p27, List.forall_mem_cons.mpr ⟨lw_p28, List.forall_mem_cons.mpr ⟨lw_p29, List.forall_mem_cons.mpr ⟨lw_p30, List.forall_mem_cons.mpr ⟨lw_p31, fun _ h => absurd h List.not_mem_nil⟩⟩⟩⟩⟩⟩⟩⟩⟩⟩⟩⟩⟩⟩⟩⟩
theorem lw_p32 : lw_okq (⟨"EarlyCutModel", "moveBack", "(II)V"⟩, 25) := ⟨⟨by decide +kernel, by decide +kernel⟩, List.mem_of_getElem? (i := 476) (by decide +kernel), List.mem_of_getElem? (i := 661) (by decide +kernel), List.mem_of_getElem? (i := 662) (by decide +kernel)⟩
theorem lw_p33 : lw_okq (⟨"EarlyCutModel", "compare", "(IZJJZ)V"⟩, 25) := ⟨⟨by decide +kernel, by decide +kernel⟩, List.mem_of_getElem? (i := 476) (by decide +kernel), List.mem_of_getElem? (i := 665) (by decide +kernel), List.mem_of_getElem? (i := 666) (by decide +kernel)⟩
theorem lw_p34 : lw_okq (⟨"EarlyCutModel", "causeOf", "(I)I"⟩, 25) := ⟨⟨by decide +kernel, by decide +kernel⟩, List.mem_of_getElem? (i := 476) (by decide +kernel), List.mem_of_getElem? (i := 669) (by decide +kernel), List.mem_of_getElem? (i := 670) (by decide +kernel)⟩
theorem lw_p35 : lw_okq (⟨"EarlyCutModel", "work", "(I)V"⟩, 25) := ⟨⟨by decide +kernel, by decide +kernel⟩, List.mem_of_getElem? (i := 476) (by decide +kernel), List.mem_of_getElem? (i := 673) (by decide +kernel), List.mem_of_getElem? (i := 674) (by decide +kernel)⟩
def lw_privs_3 : List (MethodName × Nat) := [(⟨"EarlyCutModel", "moveBack", "(II)V"⟩, 25), (⟨"EarlyCutModel", "compare", "(IZJJZ)V"⟩, 25), (⟨"EarlyCutModel", "causeOf", "(I)I"⟩, 25), (⟨"EarlyCutModel", "work", "(I)V"⟩, 25)]
theorem lw_r3 : ∀ q ∈ lw_privs_3, lw_okq q := List.forall_mem_cons.mpr ⟨lw_p32, List.forall_mem_cons.mpr ⟨lw_p33, List.forall_mem_cons.mpr ⟨lw_p34, List.forall_mem_cons.mpr ⟨lw_p35, fun _ h => absurd h List.not_mem_nil⟩⟩⟩⟩
def lw_privs : List (MethodName × Nat) := lw_privs_1 ++ (lw_privs_2 ++ (lw_privs_3))
def lw_tbl : List Cond := k2_sels lw_privs ++ tables_1
theorem lw_privs_ok : ∀ q ∈ lw_privs, lw_okq q := by
  show ∀ q ∈ lw_privs_1 ++ (lw_privs_2 ++ (lw_privs_3)), lw_okq q
  exact List.forall_mem_append.mpr ⟨lw_r1, List.forall_mem_append.mpr ⟨lw_r2, lw_r3⟩⟩
end
section
/-! NAMES: classes, fields, methods (by program) -/
def R_N : String := "EarlyCut$Entry"
def F_N : u_T := fun k => match k with
  | 0 => ("EarlyCut$Entry", "there", "[Z", true)
  | 1 => ("EarlyCut$Entry", "values", "[J", true)
  | 2 => ("EarlyCut$Entry", "failure", "I", false)
  | 3 => ("EarlyCut$Entry", "face", "J", false)
  | _ => ("EarlyCut$Entry", "body", "J", false)
def ty_N : Nat → FieldType := fun k => match k with
  | 0 => (.array .boolean)
  | 1 => (.array .long)
  | 2 => .int
  | 3 => .long
  | _ => .long
def R_S : String := "EarlyCut$Source"
def F_S : u_T := fun k => match k with
  | 0 => ("EarlyCut$Source", "there", "Z", false)
  | 1 => ("EarlyCut$Source", "content", "J", false)
  | _ => ("EarlyCut$Source", "touches", "I", false)
def ty_S : Nat → FieldType := fun k => match k with
  | 0 => .boolean
  | 1 => .long
  | _ => .int
def R_T : String := "EarlyCut$Step"
def F_T : u_T := fun k => match k with
  | 0 => ("EarlyCut$Step", "mask", "J", true)
  | 1 => ("EarlyCut$Step", "modulus", "J", true)
  | 2 => ("EarlyCut$Step", "reads", "[I", true)
  | 3 => ("EarlyCut$Step", "readCount", "I", false)
  | 4 => ("EarlyCut$Step", "entries", "[LEarlyCut$Entry;", true)
  | 5 => ("EarlyCut$Step", "entryCount", "I", false)
  | 6 => ("EarlyCut$Step", "forced", "Z", false)
  | 7 => ("EarlyCut$Step", "taken", "Z", false)
  | 8 => ("EarlyCut$Step", "marked", "Z", false)
  | 9 => ("EarlyCut$Step", "latestState", "I", false)
  | _ => ("EarlyCut$Step", "latestCause", "I", false)
def ty_T : Nat → FieldType := fun k => match k with
  | 0 => .long
  | 1 => .long
  | 2 => (.array .int)
  | 3 => .int
  | 4 => (.array (.object "EarlyCut$Entry"))
  | 5 => .int
  | 6 => .boolean
  | 7 => .boolean
  | 8 => .boolean
  | 9 => .int
  | _ => .int
def R_A : String := "EarlyCut"
def F_A : u_T := fun k => match k with
  | 0 => ("EarlyCut", "allFiles", "[LEarlyCut$Source;", true)
  | 1 => ("EarlyCut", "fileCount", "I", false)
  | 2 => ("EarlyCut", "allSteps", "[LEarlyCut$Step;", true)
  | 3 => ("EarlyCut", "stepCount", "I", false)
  | 4 => ("EarlyCut", "latestCounts", "[I", true)
  | 5 => ("EarlyCut", "doneByCause", "[I", true)
  | _ => ("EarlyCut", "cutOfDone", "I", false)
def ty_A : Nat → FieldType := fun k => match k with
  | 0 => (.array (.object "EarlyCut$Source"))
  | 1 => .int
  | 2 => (.array (.object "EarlyCut$Step"))
  | 3 => .int
  | 4 => (.array .int)
  | 5 => (.array .int)
  | _ => .int
def R_M : String := "EarlyCutModel"
def F_M : u_T := fun k => match k with
  | 0 => ("EarlyCutModel", "code", "I", false)
  | 1 => ("EarlyCutModel", "files", "I", false)
  | 2 => ("EarlyCutModel", "steps", "I", false)
  | 3 => ("EarlyCutModel", "content", "[J", true)
  | 4 => ("EarlyCutModel", "mask", "[J", true)
  | 5 => ("EarlyCutModel", "modulus", "[J", true)
  | 6 => ("EarlyCutModel", "isThere", "[Z", true)
  | 7 => ("EarlyCutModel", "forced", "[Z", true)
  | 8 => ("EarlyCutModel", "touched", "[I", true)
  | 9 => ("EarlyCutModel", "reads", "[I", true)
  | 10 => ("EarlyCutModel", "readOf", "[I", true)
  | 11 => ("EarlyCutModel", "readPart", "[I", true)
  | 12 => ("EarlyCutModel", "records", "[I", true)
  | 13 => ("EarlyCutModel", "failedBy", "[I", true)
  | 14 => ("EarlyCutModel", "body", "[J", true)
  | 15 => ("EarlyCutModel", "was", "[J", true)
  | 16 => ("EarlyCutModel", "wasThere", "[Z", true)
  | 17 => ("EarlyCutModel", "state", "[I", true)
  | 18 => ("EarlyCutModel", "cause", "[I", true)
  | 19 => ("EarlyCutModel", "counts", "[I", true)
  | 20 => ("EarlyCutModel", "totals", "[I", true)
  | 21 => ("EarlyCutModel", "taken", "[Z", true)
  | 22 => ("EarlyCutModel", "marked", "[Z", true)
  | 23 => ("EarlyCutModel", "cutDone", "I", false)
  | _ => ("EarlyCutModel", "allDone", "I", false)
def ty_M : Nat → FieldType := fun k => match k with
  | 0 => .int
  | 1 => .int
  | 2 => .int
  | 3 => (.array .long)
  | 4 => (.array .long)
  | 5 => (.array .long)
  | 6 => (.array .boolean)
  | 7 => (.array .boolean)
  | 8 => (.array .int)
  | 9 => (.array .int)
  | 10 => (.array .int)
  | 11 => (.array .int)
  | 12 => (.array .int)
  | 13 => (.array .int)
  | 14 => (.array .long)
  | 15 => (.array .long)
  | 16 => (.array .boolean)
  | 17 => (.array .int)
  | 18 => (.array .int)
  | 19 => (.array .int)
  | 20 => (.array .int)
  | 21 => (.array .boolean)
  | 22 => (.array .boolean)
  | 23 => .int
  | _ => .int
def R_W : String := "EarlyCutLaw"
abbrev g_cl : List vw_C := [(R_N, F_N, 5), (R_S, F_S, 3), (R_T, F_T, 11), (R_A, F_A, 7), (R_M, F_M, 25)]
abbrev gE : Type := (Nat → ClassId) × (Nat → Nat → Nat) × (Nat → ClassId)
def g_tys (E : gE) : List (ClassId × FieldType) := [(E.2.2 100, .int), (E.2.2 101, .long), (E.2.2 102, .boolean), (E.2.2 103, (.object "EarlyCut$Source")), (E.2.2 104, (.object "EarlyCut$Step")), (E.2.2 105, (.object "EarlyCut$Entry"))]
def g_tb : List Cond := lw_tbl.filter goodWord
theorem g_allgood : ∀ w ∈ g_tb, w ∈ g_tb ∧ ((w.onTables && w.keeps) = true ∨ ∃ ty, w = .arrayClass ty) := fun w h => ⟨h, good_of_word (List.mem_filter.mp h).2⟩
theorem g_m1 {w : Cond} (i : Nat) (h : tables_1_1[i]? = some w) (hg : goodWord w = true) : w ∈ g_tb := List.mem_filter.mpr ⟨List.mem_append_right _ (List.mem_append_left _ <| List.mem_of_getElem? h), hg⟩
theorem g_m2 {w : Cond} (i : Nat) (h : tables_1_2[i]? = some w) (hg : goodWord w = true) : w ∈ g_tb := List.mem_filter.mpr ⟨List.mem_append_right _ (List.mem_append_right _ <| List.mem_append_left _ <| List.mem_of_getElem? h), hg⟩
theorem g_m3 {w : Cond} (i : Nat) (h : tables_1_3[i]? = some w) (hg : goodWord w = true) : w ∈ g_tb := List.mem_filter.mpr ⟨List.mem_append_right _ (List.mem_append_right _ <| List.mem_append_right _ <| List.mem_of_getElem? h), hg⟩
theorem g_mp {w : Cond} (h : w ∈ k2_sels lw_privs) (hg : goodWord w = true) : w ∈ g_tb := List.mem_filter.mpr ⟨List.mem_append_left _ h, hg⟩
theorem n_N : ∀ a, a < 5 → ∀ b, b < 5 → a ≠ b → (F_N a).2.1 ≠ (F_N b).2.1 := by decide +kernel
theorem ty_N_ok : ∀ k, k < 5 → parseFieldDescriptor (F_N k).2.2.1 = some (ty_N k) := by decide +kernel
theorem i_N : ∀ w ∈ u_ws R_N F_N 5, w ∈ g_tb := by decide +kernel
theorem n_S : ∀ a, a < 3 → ∀ b, b < 3 → a ≠ b → (F_S a).2.1 ≠ (F_S b).2.1 := by decide +kernel
theorem ty_S_ok : ∀ k, k < 3 → parseFieldDescriptor (F_S k).2.2.1 = some (ty_S k) := by decide +kernel
theorem i_S : ∀ w ∈ u_ws R_S F_S 3, w ∈ g_tb := by decide +kernel
theorem n_T : ∀ a, a < 11 → ∀ b, b < 11 → a ≠ b → (F_T a).2.1 ≠ (F_T b).2.1 := by decide +kernel
theorem ty_T_ok : ∀ k, k < 11 → parseFieldDescriptor (F_T k).2.2.1 = some (ty_T k) := by decide +kernel
theorem i_T : ∀ w ∈ u_ws R_T F_T 11, w ∈ g_tb := by decide +kernel
theorem n_A : ∀ a, a < 7 → ∀ b, b < 7 → a ≠ b → (F_A a).2.1 ≠ (F_A b).2.1 := by decide +kernel
theorem ty_A_ok : ∀ k, k < 7 → parseFieldDescriptor (F_A k).2.2.1 = some (ty_A k) := by decide +kernel
theorem i_A : ∀ w ∈ u_ws R_A F_A 7, w ∈ g_tb := by decide +kernel
theorem n_M : ∀ a, a < 25 → ∀ b, b < 25 → a ≠ b → (F_M a).2.1 ≠ (F_M b).2.1 := by decide +kernel
theorem ty_M_ok : ∀ k, k < 25 → parseFieldDescriptor (F_M k).2.2.1 = some (ty_M k) := by decide +kernel
theorem i_M : ∀ w ∈ u_ws R_M F_M 25, w ∈ g_tb := by decide +kernel
abbrev b_A_init : ByteArray := prog_1_method_1_code
def y_A_init : MethodName := ⟨R_A, "<init>", "()V"⟩
abbrev b_A_file : ByteArray := prog_1_method_2_code
def y_A_file : MethodName := ⟨R_A, "file", "(J)I"⟩
abbrev b_A_set : ByteArray := prog_1_method_3_code
def y_A_set : MethodName := ⟨R_A, "set", "(IZJ)Z"⟩
abbrev b_A_touch : ByteArray := prog_1_method_4_code
def y_A_touch : MethodName := ⟨R_A, "touch", "(I)I"⟩
abbrev b_A_step : ByteArray := prog_1_method_5_code
def y_A_step : MethodName := ⟨R_A, "step", "(JJ)I"⟩
abbrev b_A_readsFile : ByteArray := prog_1_method_6_code
def y_A_readsFile : MethodName := ⟨R_A, "readsFile", "(II)Z"⟩
abbrev b_A_readsPart : ByteArray := prog_1_method_7_code
def y_A_readsPart : MethodName := ⟨R_A, "readsPart", "(III)Z"⟩
abbrev b_A_force : ByteArray := prog_1_method_8_code
def y_A_force : MethodName := ⟨R_A, "force", "(I)Z"⟩
abbrev b_A_build : ByteArray := prog_1_method_9_code
def y_A_build : MethodName := ⟨R_A, "build", "(I)I"⟩
abbrev b_A_state : ByteArray := prog_1_method_10_code
def y_A_state : MethodName := ⟨R_A, "state", "(I)I"⟩
abbrev b_A_cause : ByteArray := prog_1_method_11_code
def y_A_cause : MethodName := ⟨R_A, "cause", "(I)I"⟩
abbrev b_A_counted : ByteArray := prog_1_method_12_code
def y_A_counted : MethodName := ⟨R_A, "counted", "(I)I"⟩
abbrev b_A_output : ByteArray := prog_1_method_13_code
def y_A_output : MethodName := ⟨R_A, "output", "(II)J"⟩
abbrev b_A_records : ByteArray := prog_1_method_14_code
def y_A_records : MethodName := ⟨R_A, "records", "(I)I"⟩
abbrev b_A_record : ByteArray := prog_1_method_15_code
def y_A_record : MethodName := ⟨R_A, "record", "(III)J"⟩
abbrev b_A_failed : ByteArray := prog_1_method_16_code
def y_A_failed : MethodName := ⟨R_A, "failed", "(II)I"⟩
abbrev b_A_total : ByteArray := prog_1_method_17_code
def y_A_total : MethodName := ⟨R_A, "total", "(I)I"⟩
abbrev b_A_share : ByteArray := prog_1_method_18_code
def y_A_share : MethodName := ⟨R_A, "share", "()I"⟩
abbrev b_A_sourceAt : ByteArray := prog_1_method_19_code
def y_A_sourceAt : MethodName := ⟨R_A, "sourceAt", "(I)LEarlyCut$Source;"⟩
abbrev b_A_stepAt : ByteArray := prog_1_method_20_code
def y_A_stepAt : MethodName := ⟨R_A, "stepAt", "(I)LEarlyCut$Step;"⟩
abbrev b_A_isPart : ByteArray := prog_1_method_21_code
def y_A_isPart : MethodName := ⟨R_A, "isPart", "(I)Z"⟩
abbrev b_A_codeOfFile : ByteArray := prog_1_method_22_code
def y_A_codeOfFile : MethodName := ⟨R_A, "codeOfFile", "(I)I"⟩
abbrev b_A_codeOfPart : ByteArray := prog_1_method_23_code
def y_A_codeOfPart : MethodName := ⟨R_A, "codeOfPart", "(II)I"⟩
abbrev b_A_isFileCode : ByteArray := prog_1_method_24_code
def y_A_isFileCode : MethodName := ⟨R_A, "isFileCode", "(I)Z"⟩
abbrev b_A_stepOfCode : ByteArray := prog_1_method_25_code
def y_A_stepOfCode : MethodName := ⟨R_A, "stepOfCode", "(I)LEarlyCut$Step;"⟩
abbrev b_A_partOfCode : ByteArray := prog_1_method_26_code
def y_A_partOfCode : MethodName := ⟨R_A, "partOfCode", "(I)I"⟩
abbrev b_A_forgetLatestBuild : ByteArray := prog_1_method_27_code
def y_A_forgetLatestBuild : MethodName := ⟨R_A, "forgetLatestBuild", "()V"⟩
abbrev b_A_takeNeeded : ByteArray := prog_1_method_28_code
def y_A_takeNeeded : MethodName := ⟨R_A, "takeNeeded", "(I)V"⟩
abbrev b_A_takeStepsReadBy : ByteArray := prog_1_method_29_code
def y_A_takeStepsReadBy : MethodName := ⟨R_A, "takeStepsReadBy", "(LEarlyCut$Step;)V"⟩
abbrev b_A_buildOne : ByteArray := prog_1_method_30_code
def y_A_buildOne : MethodName := ⟨R_A, "buildOne", "(LEarlyCut$Step;)V"⟩
abbrev b_A_isMarked : ByteArray := prog_1_method_31_code
def y_A_isMarked : MethodName := ⟨R_A, "isMarked", "(LEarlyCut$Step;)Z"⟩
abbrev b_A_marksItsReader : ByteArray := prog_1_method_32_code
def y_A_marksItsReader : MethodName := ⟨R_A, "marksItsReader", "(ILEarlyCut$Entry;I)Z"⟩
abbrev b_A_isBlocked : ByteArray := prog_1_method_33_code
def y_A_isBlocked : MethodName := ⟨R_A, "isBlocked", "(LEarlyCut$Step;)Z"⟩
abbrev b_A_bringUpToDate : ByteArray := prog_1_method_34_code
def y_A_bringUpToDate : MethodName := ⟨R_A, "bringUpToDate", "(LEarlyCut$Step;)V"⟩
abbrev b_A_readNow : ByteArray := prog_1_method_35_code
def y_A_readNow : MethodName := ⟨R_A, "readNow", "(LEarlyCut$Step;)LEarlyCut$Entry;"⟩
abbrev b_A_isThereNow : ByteArray := prog_1_method_36_code
def y_A_isThereNow : MethodName := ⟨R_A, "isThereNow", "(I)Z"⟩
abbrev b_A_valueNow : ByteArray := prog_1_method_37_code
def y_A_valueNow : MethodName := ⟨R_A, "valueNow", "(I)J"⟩
abbrev b_A_causeToRedo : ByteArray := prog_1_method_38_code
def y_A_causeToRedo : MethodName := ⟨R_A, "causeToRedo", "(LEarlyCut$Step;LEarlyCut$Entry;)I"⟩
abbrev b_A_compareOutputs : ByteArray := prog_1_method_39_code
def y_A_compareOutputs : MethodName := ⟨R_A, "compareOutputs", "(LEarlyCut$Entry;LEarlyCut$Step;)V"⟩
abbrev b_M_init : ByteArray := prog_6_method_1_code
def y_M_init : MethodName := ⟨R_M, "<init>", "()V"⟩
abbrev b_M_thrown : ByteArray := prog_6_method_2_code
def y_M_thrown : MethodName := ⟨R_M, "thrown", "()I"⟩
abbrev b_M_isFile : ByteArray := prog_6_method_3_code
def y_M_isFile : MethodName := ⟨R_M, "isFile", "(I)Z"⟩
abbrev b_M_isStep : ByteArray := prog_6_method_4_code
def y_M_isStep : MethodName := ⟨R_M, "isStep", "(I)Z"⟩
abbrev b_M_file : ByteArray := prog_6_method_5_code
def y_M_file : MethodName := ⟨R_M, "file", "(J)I"⟩
abbrev b_M_set : ByteArray := prog_6_method_6_code
def y_M_set : MethodName := ⟨R_M, "set", "(IZJ)Z"⟩
abbrev b_M_touch : ByteArray := prog_6_method_7_code
def y_M_touch : MethodName := ⟨R_M, "touch", "(I)I"⟩
abbrev b_M_step : ByteArray := prog_6_method_8_code
def y_M_step : MethodName := ⟨R_M, "step", "(JJ)I"⟩
abbrev b_M_more : ByteArray := prog_6_method_9_code
def y_M_more : MethodName := ⟨R_M, "more", "(III)Z"⟩
abbrev b_M_readsFile : ByteArray := prog_6_method_10_code
def y_M_readsFile : MethodName := ⟨R_M, "readsFile", "(II)Z"⟩
abbrev b_M_readsPart : ByteArray := prog_6_method_11_code
def y_M_readsPart : MethodName := ⟨R_M, "readsPart", "(III)Z"⟩
abbrev b_M_force : ByteArray := prog_6_method_12_code
def y_M_force : MethodName := ⟨R_M, "force", "(I)Z"⟩
abbrev b_M_record4 : ByteArray := prog_6_method_13_code
def y_M_record4 : MethodName := ⟨R_M, "record4", "(II)I"⟩
abbrev b_M_isFileRead : ByteArray := prog_6_method_14_code
def y_M_isFileRead : MethodName := ⟨R_M, "isFileRead", "(II)Z"⟩
abbrev b_M_partOf : ByteArray := prog_6_method_15_code
def y_M_partOf : MethodName := ⟨R_M, "partOf", "(II)J"⟩
abbrev b_M_valueNow : ByteArray := prog_6_method_16_code
def y_M_valueNow : MethodName := ⟨R_M, "valueNow", "(II)J"⟩
abbrev b_M_thereNow : ByteArray := prog_6_method_17_code
def y_M_thereNow : MethodName := ⟨R_M, "thereNow", "(II)Z"⟩
abbrev b_M_isAsWas : ByteArray := prog_6_method_18_code
def y_M_isAsWas : MethodName := ⟨R_M, "isAsWas", "(III)Z"⟩
abbrev b_M_matching : ByteArray := prog_6_method_19_code
def y_M_matching : MethodName := ⟨R_M, "matching", "(I)I"⟩
abbrev b_M_copy : ByteArray := prog_6_method_20_code
def y_M_copy : MethodName := ⟨R_M, "copy", "(III)V"⟩
abbrev b_M_moveBack : ByteArray := prog_6_method_21_code
def y_M_moveBack : MethodName := ⟨R_M, "moveBack", "(II)V"⟩
abbrev b_M_bring : ByteArray := prog_6_method_22_code
def y_M_bring : MethodName := ⟨R_M, "bring", "(II)V"⟩
abbrev b_M_hasOutput : ByteArray := prog_6_method_23_code
def y_M_hasOutput : MethodName := ⟨R_M, "hasOutput", "(I)Z"⟩
abbrev b_M_take : ByteArray := prog_6_method_24_code
def y_M_take : MethodName := ⟨R_M, "take", "(I)V"⟩
abbrev b_M_mark : ByteArray := prog_6_method_25_code
def y_M_mark : MethodName := ⟨R_M, "mark", "()V"⟩
abbrev b_M_isBlocked : ByteArray := prog_6_method_26_code
def y_M_isBlocked : MethodName := ⟨R_M, "isBlocked", "(I)Z"⟩
abbrev b_M_causeOf : ByteArray := prog_6_method_27_code
def y_M_causeOf : MethodName := ⟨R_M, "causeOf", "(I)I"⟩
abbrev b_M_work : ByteArray := prog_6_method_28_code
def y_M_work : MethodName := ⟨R_M, "work", "(I)V"⟩
abbrev b_M_compare : ByteArray := prog_6_method_29_code
def y_M_compare : MethodName := ⟨R_M, "compare", "(IZJJZ)V"⟩
abbrev b_M_go : ByteArray := prog_6_method_30_code
def y_M_go : MethodName := ⟨R_M, "go", "(I)I"⟩
abbrev b_M_build : ByteArray := prog_6_method_31_code
def y_M_build : MethodName := ⟨R_M, "build", "(I)I"⟩
abbrev b_M_state : ByteArray := prog_6_method_32_code
def y_M_state : MethodName := ⟨R_M, "state", "(I)I"⟩
abbrev b_M_cause : ByteArray := prog_6_method_33_code
def y_M_cause : MethodName := ⟨R_M, "cause", "(I)I"⟩
abbrev b_M_counted : ByteArray := prog_6_method_34_code
def y_M_counted : MethodName := ⟨R_M, "counted", "(I)I"⟩
abbrev b_M_output : ByteArray := prog_6_method_35_code
def y_M_output : MethodName := ⟨R_M, "output", "(II)J"⟩
abbrev b_M_records : ByteArray := prog_6_method_36_code
def y_M_records : MethodName := ⟨R_M, "records", "(I)I"⟩
abbrev b_M_record : ByteArray := prog_6_method_37_code
def y_M_record : MethodName := ⟨R_M, "record", "(III)J"⟩
abbrev b_M_failed : ByteArray := prog_6_method_38_code
def y_M_failed : MethodName := ⟨R_M, "failed", "(II)I"⟩
abbrev b_M_total : ByteArray := prog_6_method_39_code
def y_M_total : MethodName := ⟨R_M, "total", "(I)I"⟩
abbrev b_M_share : ByteArray := prog_6_method_40_code
def y_M_share : MethodName := ⟨R_M, "share", "()I"⟩
abbrev b_N_init : ByteArray := prog_2_method_1_code
def y_N_init : MethodName := ⟨R_N, "<init>", "()V"⟩
abbrev b_N_hasFailed : ByteArray := prog_2_method_2_code
def y_N_hasFailed : MethodName := ⟨R_N, "hasFailed", "()Z"⟩
abbrev b_N_partOfOutput : ByteArray := prog_2_method_3_code
def y_N_partOfOutput : MethodName := ⟨R_N, "partOfOutput", "(I)J"⟩
abbrev b_N_differsAt : ByteArray := prog_2_method_4_code
def y_N_differsAt : MethodName := ⟨R_N, "differsAt", "(IZJ)Z"⟩
abbrev b_N_firstDifference : ByteArray := prog_2_method_5_code
def y_N_firstDifference : MethodName := ⟨R_N, "firstDifference", "(LEarlyCut$Entry;I)I"⟩
abbrev b_N_firstMissing : ByteArray := prog_2_method_6_code
def y_N_firstMissing : MethodName := ⟨R_N, "firstMissing", "(I)I"⟩
abbrev b_S_init : ByteArray := prog_3_method_1_code
def y_S_init : MethodName := ⟨R_S, "<init>", "(J)V"⟩
abbrev b_T_init : ByteArray := prog_4_method_1_code
def y_T_init : MethodName := ⟨R_T, "<init>", "(JJ)V"⟩
abbrev b_T_entryAt : ByteArray := prog_4_method_2_code
def y_T_entryAt : MethodName := ⟨R_T, "entryAt", "(I)LEarlyCut$Entry;"⟩
abbrev b_T_spareEntry : ByteArray := prog_4_method_3_code
def y_T_spareEntry : MethodName := ⟨R_T, "spareEntry", "()LEarlyCut$Entry;"⟩
abbrev b_T_addRead : ByteArray := prog_4_method_4_code
def y_T_addRead : MethodName := ⟨R_T, "addRead", "(I)Z"⟩
abbrev b_T_hasRead : ByteArray := prog_4_method_5_code
def y_T_hasRead : MethodName := ⟨R_T, "hasRead", "(I)Z"⟩
abbrev b_T_forgetLatestBuild : ByteArray := prog_4_method_6_code
def y_T_forgetLatestBuild : MethodName := ⟨R_T, "forgetLatestBuild", "()V"⟩
abbrev b_T_isWithoutOutput : ByteArray := prog_4_method_7_code
def y_T_isWithoutOutput : MethodName := ⟨R_T, "isWithoutOutput", "()Z"⟩
abbrev b_T_placeOfSameReads : ByteArray := prog_4_method_8_code
def y_T_placeOfSameReads : MethodName := ⟨R_T, "placeOfSameReads", "(LEarlyCut$Entry;)I"⟩
abbrev b_T_reuse : ByteArray := prog_4_method_9_code
def y_T_reuse : MethodName := ⟨R_T, "reuse", "(I)V"⟩
abbrev b_T_redo : ByteArray := prog_4_method_10_code
def y_T_redo : MethodName := ⟨R_T, "redo", "(I)V"⟩
abbrev b_T_fillOutcome : ByteArray := prog_4_method_11_code
def y_T_fillOutcome : MethodName := ⟨R_T, "fillOutcome", "(LEarlyCut$Entry;)V"⟩
abbrev b_T_bringFirst : ByteArray := prog_4_method_12_code
def y_T_bringFirst : MethodName := ⟨R_T, "bringFirst", "(I)V"⟩
abbrev b_W_output : ByteArray := method_3_code
def y_W_output : MethodName := ⟨R_W, "output", "(LEarlyCut;II[J)I"⟩
abbrev b_W_share : ByteArray := method_4_code
def y_W_share : MethodName := ⟨R_W, "share", "(LEarlyCut;[J)I"⟩
def g_nest : Cond := .methodLinkNest R_T 51 y_N_init "EarlyCut"
end
section
/-! BASE: a lighter machine over the kit's. Values are typed (gT); the heap is a picture: L says which cells there are (kind, address, size), V what they hold (kind, address, place). Kinds below 100 are classes (places in g_cl), those from 100 on are arrays (their types in g_tys). vW is W at any heap that holds the picture. -/
abbrev gT : Type := Int32 ⊕ Int64 ⊕ Option Nat
abbrev tI (x : Int32) : gT := .inl x
abbrev tJ (x : Int64) : gT := .inr (.inl x)
abbrev tR (x : Option Nat) : gT := .inr (.inr x)
def g_val (t : gT) : Value := match t with
  | .inl x => .int x
  | .inr (.inl y) => .long y
  | .inr (.inr r) => va_rf r
def g_two (t : gT) : Bool := match t with
  | .inr (.inl _) => true
  | _ => false
theorem g_cat (t : gT) : (g_val t).category = if g_two t = true then 2 else 1 := by
  rcases t with x | y | r
  · rfl
  · rfl
  · cases r <;> rfl
abbrev gL : Type := Nat × (Nat → Nat → Option Nat)
abbrev gV : Type := Nat → Nat → Nat → gT
def g_st (V : gV) (k a i : Nat) (t : gT) : gV := fun k' a' i' => if k' = k ∧ a' = a ∧ i' = i then t else V k' a' i'
def g_f (V : gV) (k a : Nat) : Nat → Value := fun i => g_val (V k a i)
def g_at (E : gE) (k a n : Nat) (f : Nat → Value) (H : Heap) : Prop := (∀ r : vw_C, g_cl[k]? = some r → n = r.2.2 ∧ t_OB a (E.1 k) r.2.2 (E.2.1 k) H f) ∧ (g_cl[k]? = none → H[a]? = some (arrV (E.2.2 k) n f))
def g_hp (E : gE) (base : Nat) (L : gL) (V : gV) (H : Heap) : Prop :=
  H.size = L.1 ∧ (∀ k a n : Nat, L.2 k a = some n → base ≤ a ∧ g_at E k a n (g_f V k a) H) ∧ ∀ k k' a n n' : Nat, L.2 k a = some n → L.2 k' a = some n' → k = k'
theorem g_at.kept {E : gE} {k a n : Nat} {f : Nat → Value} {H H1 : Heap} (h : g_at E k a n f H) (hq : H1[a]? = H[a]?) : g_at E k a n f H1 :=
  ⟨fun r hr => ⟨(h.1 r hr).1, (h.1 r hr).2.kept hq⟩, fun hn => hq.trans (h.2 hn)⟩
theorem g_at.lt {E : gE} {k a n : Nat} {f : Nat → Value} {H : Heap} (h : g_at E k a n f H) : a < H.size := by
  cases hc : g_cl[k]? with
  | none => exact (Array.getElem?_eq_some_iff.mp (h.2 hc)).1
  | some r =>
    obtain ⟨-, cell, hcell, -⟩ := h.1 r hc
    exact (Array.getElem?_eq_some_iff.mp hcell).1
theorem g_hp.put {E : gE} {base : Nat} {L : gL} {V : gV} {H H1 : Heap} {k a n i : Nat} {t : gT} (h : g_hp E base L V H) (hL : L.2 k a = some n) (hz : H1.size = H.size) (oq : ∀ q : Nat, q ≠ a → H1[q]? = H[q]?) (ha : g_at E k a n (updV (g_f V k a) i (g_val t)) H1) : g_hp E base L (g_st V k a i t) H1 := by
  refine ⟨hz.trans h.1, fun k' a' n' h' => ⟨(h.2.1 k' a' n' h').1, ?_⟩, h.2.2⟩
  by_cases e : a' = a
  · subst e
    have ek : k' = k := h.2.2 _ _ _ _ _ h' hL
    subst ek
    have en : n' = n := Option.some.inj (h'.symm.trans hL)
    subst en
    have ef : g_f (g_st V k' a' i t) k' a' = updV (g_f V k' a') i (g_val t) := by
      funext j
      by_cases hj : j = i <;> simp [g_f, g_st, updV, hj]
    rw [ef]
    exact ha
  · have ef : g_f (g_st V k a i t) k' a' = g_f V k' a' := by
      funext j
      simp [g_f, g_st, e]
    rw [ef]
    exact (h.2.1 k' a' n' h').2.kept (oq a' e)
-- a new cell
def g_nL (L : gL) (k n : Nat) : gL := (L.1 + 1, fun k' a' => if k' = k ∧ a' = L.1 then some n else L.2 k' a')
def g_nV (V : gV) (k a : Nat) (d : Nat → gT) : gV := fun k' a' i' => if k' = k ∧ a' = a then d i' else V k' a' i'
theorem g_hp.new {E : gE} {base : Nat} {L : gL} {V : gV} {H H1 : Heap} {k n : Nat} {d : Nat → gT} (h : g_hp E base L V H) (hb : base ≤ H.size) (hz : H1.size = H.size + 1) (oq : ∀ q : Nat, q < H.size → H1[q]? = H[q]?) (ha : g_at E k H.size n (fun i => g_val (d i)) H1) : g_hp E base (g_nL L k n) (g_nV V k L.1 d) H1 := by
  have hfr : ∀ k a n : Nat, L.2 k a = some n → a ≠ L.1 := fun k a n hq e => by
    have := (h.2.1 k a n hq).2.lt
    rw [h.1] at this
    omega
  refine ⟨by rw [hz, h.1]; rfl, fun k' a' n' h' => ?_, fun k1 k2 a n1 n2 h1 h2 => ?_⟩
  · by_cases e : k' = k ∧ a' = L.1
    · obtain ⟨rfl, rfl⟩ := e
      have en : n' = n := by simpa [g_nL] using h'.symm
      subst en
      have ef : g_f (g_nV V k' L.1 d) k' L.1 = fun i => g_val (d i) := by
        funext j
        simp [g_f, g_nV]
      rw [ef, ← h.1]
      exact ⟨hb, ha⟩
    · have h2 : L.2 k' a' = some n' := by simpa [g_nL, e] using h'
      have ef : g_f (g_nV V k L.1 d) k' a' = g_f V k' a' := by
        funext j
        simp [g_f, g_nV, e]
      rw [ef]
      exact ⟨(h.2.1 k' a' n' h2).1, (h.2.1 k' a' n' h2).2.kept (oq a' (h.2.1 k' a' n' h2).2.lt)⟩
  · by_cases e1 : k1 = k ∧ a = L.1
    · by_cases e2 : k2 = k ∧ a = L.1
      · exact e1.1.trans e2.1.symm
      · have g2 : L.2 k2 a = some n2 := by simpa [g_nL, e2] using h2
        exact absurd e1.2 (hfr _ _ _ g2)
    · have g1 : L.2 k1 a = some n1 := by simpa [g_nL, e1] using h1
      by_cases e2 : k2 = k ∧ a = L.1
      · exact absurd e2.2 (hfr _ _ _ g1)
      · have g2 : L.2 k2 a = some n2 := by simpa [g_nL, e2] using h2
        exact h.2.2 _ _ _ _ _ g1 g2
-- reads and writes of the picture
def g_rd (L : gL) (V : gV) (k a i : Nat) : Option gT := match L.2 k a with
  | none => none
  | some n => if i < n then some (V k a i) else none
def g_toI (t : gT) : Option Int32 := match t with
  | .inl x => some x
  | _ => none
def g_toJ (t : gT) : Option Int64 := match t with
  | .inr (.inl x) => some x
  | _ => none
def g_toR (t : gT) : Option (Option Nat) := match t with
  | .inr (.inr x) => some x
  | _ => none
def g_rI (L : gL) (V : gV) (k a i : Nat) : Option Int32 := (g_rd L V k a i).bind g_toI
def g_rJ (L : gL) (V : gV) (k a i : Nat) : Option Int64 := (g_rd L V k a i).bind g_toJ
def g_rR (L : gL) (V : gV) (k a i : Nat) : Option (Option Nat) := (g_rd L V k a i).bind g_toR
def g_ix (L : gL) (k a : Nat) (x : Int32) : Option Nat := match L.2 k a with
  | none => none
  | some n => if x < 0 ∨ n ≤ x.toNatClampNeg then none else some x.toNatClampNeg
def g_aI (L : gL) (V : gV) (k a : Nat) (x : Int32) : Option Int32 := (g_ix L k a x).bind fun i => g_toI (V k a i)
def g_aJ (L : gL) (V : gV) (k a : Nat) (x : Int32) : Option Int64 := (g_ix L k a x).bind fun i => g_toJ (V k a i)
def g_aR (L : gL) (V : gV) (k a : Nat) (x : Int32) : Option (Option Nat) := (g_ix L k a x).bind fun i => g_toR (V k a i)
def g_wr (L : gL) (V : gV) (k a i : Nat) (t : gT) : Option gV := match L.2 k a with
  | none => none
  | some n => if i < n then some (g_st V k a i t) else none
def g_wa (L : gL) (V : gV) (k a : Nat) (x : Int32) (t : gT) : Option gV := (g_ix L k a x).bind fun i => some (g_st V k a i t)
def g_bz (x : Int32) : Option Unit := if x = 0 ∨ x = 1 then some () else none
def g_nz {α : Type} (c : Prop) (f : Decidable c) (r : Option α) : Option α := @ite _ c f none r
def g_on {α : Type} (r : Option Nat) (x : Option α) (f : Nat → Option α) : Option α := match r with
  | none => x
  | some a => f a
def g_b2 {α β : Type} (o : Option (α × gV)) (f : α → gV → Option β) : Option β := match o with
  | none => none
  | some z => f z.1 z.2
def g_b3 {α β : Type} (o : Option (α × gL × gV)) (f : α → gL → gV → Option β) : Option β := match o with
  | none => none
  | some z => f z.1 z.2.1 z.2.2
def g_new (L : gL) (V : gV) (k n : Nat) (d : Nat → gT) : Option (gL × gV) := some (g_nL L k n, g_nV V k L.1 d)
def g_bn {β : Type} (o : Option (gL × gV)) (f : gL → gV → Option β) : Option β := match o with
  | none => none
  | some z => f z.1 z.2
theorem g_ob {α β : Type} {o : Option α} {f : α → Option β} {z : β} (h : Option.bind o f = some z) : ∃ x, o = some x ∧ f x = some z := by
  cases o with
  | none => cases h
  | some x => exact ⟨x, rfl, h⟩
theorem g_o2 {α β : Type} {o : Option (α × gV)} {f : α → gV → Option β} {z : β} (h : g_b2 o f = some z) : ∃ x V, o = some (x, V) ∧ f x V = some z := by
  cases o with
  | none => cases h
  | some x => exact ⟨x.1, x.2, rfl, h⟩
theorem g_o3 {α β : Type} {o : Option (α × gL × gV)} {f : α → gL → gV → Option β} {z : β} (h : g_b3 o f = some z) : ∃ x L V, o = some (x, L, V) ∧ f x L V = some z := by
  cases o with
  | none => cases h
  | some x => exact ⟨x.1, x.2.1, x.2.2, rfl, h⟩
theorem g_obn {β : Type} {o : Option (gL × gV)} {f : gL → gV → Option β} {z : β} (h : g_bn o f = some z) : ∃ L V, o = some (L, V) ∧ f L V = some z := by
  cases o with
  | none => cases h
  | some x => exact ⟨x.1, x.2, rfl, h⟩
theorem g_oon {α : Type} {r : Option Nat} {x : Option α} {f : Nat → Option α} {z : α} (h : g_on r x f = some z) : (r = none ∧ x = some z) ∨ ∃ a, r = some a ∧ f a = some z := by
  cases r with
  | none => exact Or.inl ⟨rfl, h⟩
  | some a => exact Or.inr ⟨a, rfl, h⟩
theorem g_bz_spec {x : Int32} {u : Unit} (h : g_bz x = some u) : x = 0 ∨ x = 1 := by
  unfold g_bz at h
  by_cases hx : x = 0 ∨ x = 1
  · exact hx
  · rw [if_neg hx] at h; cases h
theorem g_rd_spec {L : gL} {V : gV} {k a i : Nat} {t : gT} (h : g_rd L V k a i = some t) : ∃ n, L.2 k a = some n ∧ i < n ∧ V k a i = t := by
  unfold g_rd at h
  cases hL : L.2 k a with
  | none => rw [hL] at h; cases h
  | some n =>
    rw [hL] at h
    by_cases hi : i < n
    · exact ⟨n, rfl, hi, by simpa [hi] using h⟩
    · simp [hi] at h
theorem g_rI_spec {L : gL} {V : gV} {k a i : Nat} {x : Int32} (h : g_rI L V k a i = some x) : g_rd L V k a i = some (tI x) := by
  obtain ⟨t, h1, h2⟩ := g_ob h
  rcases t with y | y | y <;> simp [g_toI] at h2
  rw [h1, h2]
theorem g_rJ_spec {L : gL} {V : gV} {k a i : Nat} {x : Int64} (h : g_rJ L V k a i = some x) : g_rd L V k a i = some (tJ x) := by
  obtain ⟨t, h1, h2⟩ := g_ob h
  rcases t with y | y | y <;> simp [g_toJ] at h2
  rw [h1, h2]
theorem g_rR_spec {L : gL} {V : gV} {k a i : Nat} {x : Option Nat} (h : g_rR L V k a i = some x) : g_rd L V k a i = some (tR x) := by
  obtain ⟨t, h1, h2⟩ := g_ob h
  rcases t with y | y | y <;> simp [g_toR] at h2
  rw [h1, h2]
theorem g_ix_spec {L : gL} {k a i : Nat} {x : Int32} (h : g_ix L k a x = some i) : ∃ n, L.2 k a = some n ∧ vp_in x n ∧ i = x.toNatClampNeg ∧ i < n := by
  unfold g_ix at h
  cases hL : L.2 k a with
  | none => rw [hL] at h; cases h
  | some n =>
    rw [hL] at h
    by_cases hi : x < 0 ∨ n ≤ x.toNatClampNeg
    · simp [hi] at h
    · have e : i = x.toNatClampNeg := by simpa [hi] using h.symm
      exact ⟨n, rfl, hi, e, by rw [e]; exact Nat.not_le.mp fun q => hi (Or.inr q)⟩
theorem g_aI_spec {L : gL} {V : gV} {k a : Nat} {x : Int32} {y : Int32} (h : g_aI L V k a x = some y) : ∃ i, g_ix L k a x = some i ∧ V k a i = tI y := by
  obtain ⟨i, h1, h2⟩ := g_ob h
  refine ⟨i, h1, ?_⟩
  rcases hv : V k a i with y | y | y <;> rw [hv] at h2 <;> simp [g_toI] at h2
  rw [h2]
theorem g_aJ_spec {L : gL} {V : gV} {k a : Nat} {x : Int32} {y : Int64} (h : g_aJ L V k a x = some y) : ∃ i, g_ix L k a x = some i ∧ V k a i = tJ y := by
  obtain ⟨i, h1, h2⟩ := g_ob h
  refine ⟨i, h1, ?_⟩
  rcases hv : V k a i with y | y | y <;> rw [hv] at h2 <;> simp [g_toJ] at h2
  rw [h2]
theorem g_aR_spec {L : gL} {V : gV} {k a : Nat} {x : Int32} {y : Option Nat} (h : g_aR L V k a x = some y) : ∃ i, g_ix L k a x = some i ∧ V k a i = tR y := by
  obtain ⟨i, h1, h2⟩ := g_ob h
  refine ⟨i, h1, ?_⟩
  rcases hv : V k a i with y | y | y <;> rw [hv] at h2 <;> simp [g_toR] at h2
  rw [h2]
theorem g_wr_spec {L : gL} {V V' : gV} {k a i : Nat} {t : gT} (h : g_wr L V k a i t = some V') : ∃ n, L.2 k a = some n ∧ i < n ∧ V' = g_st V k a i t := by
  unfold g_wr at h
  cases hL : L.2 k a with
  | none => rw [hL] at h; cases h
  | some n =>
    rw [hL] at h
    by_cases hi : i < n
    · exact ⟨n, rfl, hi, by simpa [hi] using h.symm⟩
    · simp [hi] at h
theorem g_wa_spec {L : gL} {V V' : gV} {k a : Nat} {x : Int32} {t : gT} (h : g_wa L V k a x t = some V') : ∃ i n, L.2 k a = some n ∧ vp_in x n ∧ i = x.toNatClampNeg ∧ i < n ∧ V' = g_st V k a i t := by
  obtain ⟨i, h1, h2⟩ := g_ob h
  obtain ⟨n, g1, g2, g3, g4⟩ := g_ix_spec h1
  exact ⟨i, n, g1, g2, g3, g4, (Option.some.inj h2).symm⟩
-- locals
def g_q (q : Nat × gT) : Nat × Value := (q.1, g_val q.2)
def g_lk : List (Nat × gT) → Nat → Option gT
  | [], _ => none
  | q :: r, i => bif Nat.beq q.1 i then some q.2 else g_lk r i
theorem g_lk_mem : ∀ {l : List (Nat × gT)} {i : Nat} {t : gT}, g_lk l i = some t → (i, t) ∈ l
  | [], _, _, h => by cases h
  | q :: r, i, t, h => by
    unfold g_lk at h
    cases hq : Nat.beq q.1 i with
    | true =>
      rw [hq] at h
      have e1 : q.1 = i := Nat.eq_of_beq_eq_true hq
      have e2 : q.2 = t := Option.some.inj h
      rw [← e1, ← e2]
      exact List.mem_cons_self
    | false =>
      rw [hq] at h
      exact List.mem_cons_of_mem _ (g_lk_mem h)
theorem g_lk_at {ls : Array Slot} {nL : Nat} {lv : List (Nat × gT)} {i : Nat} {t : gT} (h : lv_has ls nL (lv.map g_q)) (hk : g_lk lv i = some t) : ls[i]? = some (.val (g_val t)) := h.2.2 (i, g_val t) (List.mem_map.mpr ⟨(i, t), g_lk_mem hk, rfl⟩)
def g_s1 (lv : List (Nat × gT)) (i : Nat) (t : gT) : List (Nat × gT) := (i, t) :: lv.filter (fun q => !(Nat.beq q.1 i) && !(Nat.beq (q.1 + 1) i && g_two q.2))
def g_s2 (lv : List (Nat × gT)) (i : Nat) (t : gT) : List (Nat × gT) := (i, t) :: lv.filter (fun q => !(Nat.beq q.1 i) && (!(Nat.beq q.1 (i + 1)) && !(Nat.beq (q.1 + 1) i && g_two q.2)))
theorem g_beq (a b : Nat) : (a == b) = Nat.beq a b := by
  rw [Bool.eq_iff_iff, Nat.beq_eq, beq_iff_eq]
theorem g_cat2 (t : gT) : ((g_val t).category == 2) = g_two t := by
  rw [g_cat]
  cases g_two t <;> rfl
theorem g_has1 {ls : Array Slot} {nL : Nat} {lv : List (Nat × gT)} {i : Nat} {t : gT} (h : lv_has ls nL ((i, g_val t) :: (lv.map g_q).filter (fun q => !(q.1 == i) && !(q.1 + 1 == i && q.2.category == 2)))) : lv_has ls nL ((g_s1 lv i t).map g_q) := by
  refine ⟨h.1, h.2.1, fun q hq => ?_⟩
  obtain ⟨w, hw, rfl⟩ := List.mem_map.mp hq
  apply h.2.2
  rcases List.mem_cons.mp hw with rfl | hw
  · exact List.mem_cons_self
  · obtain ⟨h1, h2⟩ := List.mem_filter.mp hw
    refine List.mem_cons_of_mem _ (List.mem_filter.mpr ⟨List.mem_map.mpr ⟨w, h1, rfl⟩, ?_⟩)
    show (!(w.1 == i) && !(w.1 + 1 == i && (g_val w.2).category == 2)) = true
    rw [g_cat2]
    simp only [g_beq]
    exact h2
theorem g_has2 {ls : Array Slot} {nL : Nat} {lv : List (Nat × gT)} {i : Nat} {t : gT} (h : lv_has ls nL ((i, g_val t) :: (lv.map g_q).filter (fun q => !(q.1 == i) && (!(q.1 == i + 1) && !(q.1 + 1 == i && q.2.category == 2))))) : lv_has ls nL ((g_s2 lv i t).map g_q) := by
  refine ⟨h.1, h.2.1, fun q hq => ?_⟩
  obtain ⟨w, hw, rfl⟩ := List.mem_map.mp hq
  apply h.2.2
  rcases List.mem_cons.mp hw with rfl | hw
  · exact List.mem_cons_self
  · obtain ⟨h1, h2⟩ := List.mem_filter.mp hw
    refine List.mem_cons_of_mem _ (List.mem_filter.mpr ⟨List.mem_map.mpr ⟨w, h1, rfl⟩, ?_⟩)
    show (!(w.1 == i) && (!(w.1 == i + 1) && !(w.1 + 1 == i && (g_val w.2).category == 2))) = true
    rw [g_cat2]
    simp only [g_beq]
    exact h2
-- the judgement and what is fixed in a method's body
def g_K (E : gE) (U : State) : Prop := va_K (E.1, E.2.1) g_cl (g_tys E) U ∧ va_Nw g_nest U
theorem g_K.warm {E : gE} {s U : State} (hW : s.WarmedH U.vm) (h : g_K E s) : g_K E U := ⟨va_K.moved hW.alike h.1, va_Nw.warmM hW h.2⟩
theorem g_K.same {E : gE} {s U : State} (hv : s.vm = U.vm) (h : g_K E s) : g_K E U := ⟨va_K.moved (by rw [hv]; exact Vm.Alike.refl U.vm) h.1, va_Nw.same rfl hv h.2⟩
abbrev g_A (base : Nat) : Nat → Prop := fun q => base ≤ q
def vW (E : gE) (base bA nL : Nat) (p : Program) (l : Launch) (e : Env) (R : Room) (s : State) (m : MethodId) (args : Array Value) (below : List Frame) (meth : Method) (c : Code) (cells slots : Nat) (Q : State → Prop) (L : gL) (V : gV) (pc : Nat) (lv : List (Nat × gT)) (st : List gT) : Prop :=
  ∀ (H : Heap) (locs : List Loc) (ls : Array Slot), g_hp E base L V H → va_S (g_A bA) s.heap H locs → lv_has ls nL (lv.map g_q) → W p l e R s m args below meth c H locs cells slots Q (F0 m pc ls (st.map g_val))
def gC (E : gE) (bA : Nat) (p : Program) (s : State) (m : MethodId) (args : Array Value) (meth : Method) (c : Code) (cc : ByteArray) (own : String) (nL : Nat) : Prop :=
  p.tables.exec = Jvm.exec ∧ c.code = cc ∧ c.maxLocals = nL ∧ s.vm.findClass own = some m.cls ∧ (∀ w ∈ g_tb, w.before args s = true) ∧ g_K E s ∧ bA ≤ s.heap.size ∧ meth.locks = false
def g_in (E : gE) (base bA : Nat) (L : gL) (V : gV) (U : State) : Prop := g_hp E base L V U.heap ∧ g_K E U ∧ bA ≤ U.heap.size
def g_out (E : gE) (base bA : Nat) (L : gL) (V : gV) (o : Option gT) : Array Value → State → Outcome → State → Prop := fun _ st oc t => oc = .returned (o.map g_val) ∧ (g_hp E base L V t.heap ∧ g_K E t) ∧ va_F (g_A bA) st t
def g_w (y : MethodName) (b : ByteArray) (mL : Nat) (ret : Option FieldType) : List Cond := .code y b mL ret :: g_tb
def g_Met (l : Launch) (E : gE) (base bA : Nat) (y : MethodName) (b : ByteArray) (mL : Nat) (ret : Option FieldType) (rm : Room) (as : List gT) (L : gL) (V : gV) (o : Option gT) (L' : gL) (V' : gV) : Prop :=
  Met l y (g_w y b mL ret) rm (va_Pc (as.map g_val) (g_in E base bA L V)) (g_out E base bA L' V' o) rm.cells rm.slots (g_A bA)
abbrev g_MQ (E : gE) (base bA : Nat) (below : List Frame) (args : Array Value) (s : State) (mc ms : Nat) (L : gL) (V : gV) (o : Option gT) : State → Prop := MQ below (g_out E base bA L V o) args s mc ms (g_A bA)
end
section
/-! ROWS: an instruction a row, over vW -/
section GR
variable {E : gE} {base bA nL : Nat} {p : Program} {l : Launch} {e : Env} {R : Room} {s : State} {m : MethodId} {args : Array Value} {below : List Frame} {meth : Method} {c : Code} {cells slots : Nat} {Q : State → Prop} {cc : ByteArray} {own : String} {L : gL} {V : gV} {pc : Nat} {lv lv' : List (Nat × gT)} {st : List gT}
theorem r_iconst (C : gC E bA p s m args meth c cc own nL) {n : Int} (v : Int32) (hd : decode cc pc = .ok (.iconst n, 1)) (hv : Int32.ofInt n = v) (k : vW E base bA nL p l e R s m args below meth c cells slots Q L V (pc + 1) lv (tI v :: st)) : vW E base bA nL p l e R s m args below meth c cells slots Q L V pc lv st :=
  fun H locs ls h1 h2 h3 => lv_iconst C.1 C.2.1 hd hv (k H locs ls h1 h2 h3)
theorem r_bipush (C : gC E bA p s m args meth c cc own nL) {n : Int} (v : Int32) (hd : decode cc pc = .ok (.bipush n, 2)) (hv : (Int8.ofInt n).toInt32 = v) (k : vW E base bA nL p l e R s m args below meth c cells slots Q L V (pc + 2) lv (tI v :: st)) : vW E base bA nL p l e R s m args below meth c cells slots Q L V pc lv st :=
  fun H locs ls h1 h2 h3 => lv_bipush C.1 C.2.1 hd hv (k H locs ls h1 h2 h3)
theorem r_sipush (C : gC E bA p s m args meth c cc own nL) {n : Int} (v : Int32) (hd : decode cc pc = .ok (.sipush n, 3)) (hv : (Int16.ofInt n).toInt32 = v) (k : vW E base bA nL p l e R s m args below meth c cells slots Q L V (pc + 3) lv (tI v :: st)) : vW E base bA nL p l e R s m args below meth c cells slots Q L V pc lv st :=
  fun H locs ls h1 h2 h3 => lv_sipush C.1 C.2.1 hd hv (k H locs ls h1 h2 h3)
theorem r_lconst (C : gC E bA p s m args meth c cc own nL) {n : Fin 2} (v : Int64) (hd : decode cc pc = .ok (.lconst n, 1)) (hv : Int64.ofNat (n : Nat) = v) (k : vW E base bA nL p l e R s m args below meth c cells slots Q L V (pc + 1) lv (tJ v :: st)) : vW E base bA nL p l e R s m args below meth c cells slots Q L V pc lv st :=
  fun H locs ls h1 h2 h3 => lv_lconst C.1 C.2.1 hd hv (k H locs ls h1 h2 h3)
theorem r_ldc (C : gC E bA p s m args meth c cc own nL) {index : Nat} (v : Int32) (hd : decode cc pc = .ok (.ldc index, 2)) (hw : Jvm.Cond.constant own index v ∈ g_tb) (k : vW E base bA nL p l e R s m args below meth c cells slots Q L V (pc + 2) lv (tI v :: st)) : vW E base bA nL p l e R s m args below meth c cells slots Q L V pc lv st :=
  fun H locs ls h1 h2 h3 => lv_ldc C.1 C.2.1 C.2.2.2.1 (C.2.2.2.2.1 _ hw) hd (k H locs ls h1 h2 h3)
theorem r_ldc2 (C : gC E bA p s m args meth c cc own nL) {index : Nat} (v : Int64) (hd : decode cc pc = .ok (.ldc2_w index, 3)) (hw : Jvm.Cond.constantLong own index v ∈ g_tb) (k : vW E base bA nL p l e R s m args below meth c cells slots Q L V (pc + 3) lv (tJ v :: st)) : vW E base bA nL p l e R s m args below meth c cells slots Q L V pc lv st :=
  fun H locs ls h1 h2 h3 => lv_ldc2 C.1 C.2.1 C.2.2.2.1 (C.2.2.2.2.1 _ hw) hd (k H locs ls h1 h2 h3)
theorem r_null (C : gC E bA p s m args meth c cc own nL)  (hd : decode cc pc = .ok (.aconst_null, 1))  (k : vW E base bA nL p l e R s m args below meth c cells slots Q L V (pc + 1) lv (tR none :: st)) : vW E base bA nL p l e R s m args below meth c cells slots Q L V pc lv st :=
  fun H locs ls h1 h2 h3 => lv_null C.1 C.2.1 hd (k H locs ls h1 h2 h3)
theorem r_iload_n (C : gC E bA p s m args meth c cc own nL) {k : Fin 4} {i : Nat} {x : Int32} (hd : decode cc pc = .ok (.iload_n k, 1)) (hi : (k : Nat) = i) (hl : g_lk lv i = some (tI x)) (kk : vW E base bA nL p l e R s m args below meth c cells slots Q L V (pc + 1) lv (tI x :: st)) : vW E base bA nL p l e R s m args below meth c cells slots Q L V pc lv st :=
  fun H locs ls h1 h2 h3 => lv_iload_n C.1 C.2.1 hd hi (g_lk_at h3 hl) (kk H locs ls h1 h2 h3)
theorem r_iload (C : gC E bA p s m args meth c cc own nL) {i : Nat} {x : Int32} (hd : decode cc pc = .ok (.iload i, 2)) (hl : g_lk lv i = some (tI x)) (kk : vW E base bA nL p l e R s m args below meth c cells slots Q L V (pc + 2) lv (tI x :: st)) : vW E base bA nL p l e R s m args below meth c cells slots Q L V pc lv st :=
  fun H locs ls h1 h2 h3 => lv_iload C.1 C.2.1 hd (g_lk_at h3 hl) (kk H locs ls h1 h2 h3)
theorem r_lload_n (C : gC E bA p s m args meth c cc own nL) {k : Fin 4} {i : Nat} {x : Int64} (hd : decode cc pc = .ok (.lload_n k, 1)) (hi : (k : Nat) = i) (hl : g_lk lv i = some (tJ x)) (kk : vW E base bA nL p l e R s m args below meth c cells slots Q L V (pc + 1) lv (tJ x :: st)) : vW E base bA nL p l e R s m args below meth c cells slots Q L V pc lv st :=
  fun H locs ls h1 h2 h3 => lv_lload_n C.1 C.2.1 hd hi (g_lk_at h3 hl) (kk H locs ls h1 h2 h3)
theorem r_lload (C : gC E bA p s m args meth c cc own nL) {i : Nat} {x : Int64} (hd : decode cc pc = .ok (.lload i, 2)) (hl : g_lk lv i = some (tJ x)) (kk : vW E base bA nL p l e R s m args below meth c cells slots Q L V (pc + 2) lv (tJ x :: st)) : vW E base bA nL p l e R s m args below meth c cells slots Q L V pc lv st :=
  fun H locs ls h1 h2 h3 => lv_lload C.1 C.2.1 hd (g_lk_at h3 hl) (kk H locs ls h1 h2 h3)
theorem r_aload_n (C : gC E bA p s m args meth c cc own nL) {k : Fin 4} {i : Nat} {x : Option Nat} (hd : decode cc pc = .ok (.aload_n k, 1)) (hi : (k : Nat) = i) (hl : g_lk lv i = some (tR x)) (kk : vW E base bA nL p l e R s m args below meth c cells slots Q L V (pc + 1) lv (tR x :: st)) : vW E base bA nL p l e R s m args below meth c cells slots Q L V pc lv st := by
  intro H locs ls h1 h2 h3
  have hk := kk H locs ls h1 h2 h3
  have hg := g_lk_at h3 hl
  cases x with
  | none => exact lv_aload_nN C.1 C.2.1 hd hi hg hk
  | some x => exact lv_aload_n C.1 C.2.1 hd hi hg hk
theorem r_aload (C : gC E bA p s m args meth c cc own nL) {i : Nat} {x : Option Nat} (hd : decode cc pc = .ok (.aload i, 2)) (hl : g_lk lv i = some (tR x)) (kk : vW E base bA nL p l e R s m args below meth c cells slots Q L V (pc + 2) lv (tR x :: st)) : vW E base bA nL p l e R s m args below meth c cells slots Q L V pc lv st := by
  intro H locs ls h1 h2 h3
  have hk := kk H locs ls h1 h2 h3
  have hg := g_lk_at h3 hl
  cases x with
  | none => exact lv_aloadN C.1 C.2.1 hd hg hk
  | some x => exact lv_aload C.1 C.2.1 hd hg hk
theorem r_istore_n (C : gC E bA p s m args meth c cc own nL) {k : Fin 4} {i : Nat} {x : Int32} (hd : decode cc pc = .ok (.istore_n k, 1)) (hi : (k : Nat) = i) (hn : i < nL) (hl : g_s1 lv i (tI x) = lv') (kk : vW E base bA nL p l e R s m args below meth c cells slots Q L V (pc + 1) lv' st) : vW E base bA nL p l e R s m args below meth c cells slots Q L V pc lv (tI x :: st) := by
  intro H locs ls h1 h2 h3
  refine lv_istore_n C.1 C.2.1 hd hi h3 hn rfl (fun ls' h' => ?_)
  subst hl
  exact kk H locs ls' h1 h2 (g_has1 (t := tI x) h')
theorem r_istore (C : gC E bA p s m args meth c cc own nL) {i : Nat} {x : Int32} (hd : decode cc pc = .ok (.istore i, 2)) (hn : i < nL) (hl : g_s1 lv i (tI x) = lv') (kk : vW E base bA nL p l e R s m args below meth c cells slots Q L V (pc + 2) lv' st) : vW E base bA nL p l e R s m args below meth c cells slots Q L V pc lv (tI x :: st) := by
  intro H locs ls h1 h2 h3
  refine lv_istore C.1 C.2.1 hd h3 hn rfl (fun ls' h' => ?_)
  subst hl
  exact kk H locs ls' h1 h2 (g_has1 (t := tI x) h')
theorem r_lstore_n (C : gC E bA p s m args meth c cc own nL) {k : Fin 4} {i : Nat} {x : Int64} (hd : decode cc pc = .ok (.lstore_n k, 1)) (hi : (k : Nat) = i) (hn : i + 1 < nL) (hl : g_s2 lv i (tJ x) = lv') (kk : vW E base bA nL p l e R s m args below meth c cells slots Q L V (pc + 1) lv' st) : vW E base bA nL p l e R s m args below meth c cells slots Q L V pc lv (tJ x :: st) := by
  intro H locs ls h1 h2 h3
  refine lv_lstore_n C.1 C.2.1 hd hi h3 hn rfl (fun ls' h' => ?_)
  subst hl
  exact kk H locs ls' h1 h2 (g_has2 (t := tJ x) h')
theorem r_lstore (C : gC E bA p s m args meth c cc own nL) {i : Nat} {x : Int64} (hd : decode cc pc = .ok (.lstore i, 2)) (hn : i + 1 < nL) (hl : g_s2 lv i (tJ x) = lv') (kk : vW E base bA nL p l e R s m args below meth c cells slots Q L V (pc + 2) lv' st) : vW E base bA nL p l e R s m args below meth c cells slots Q L V pc lv (tJ x :: st) := by
  intro H locs ls h1 h2 h3
  refine lv_lstore C.1 C.2.1 hd h3 hn rfl (fun ls' h' => ?_)
  subst hl
  exact kk H locs ls' h1 h2 (g_has2 (t := tJ x) h')
theorem r_astore_n (C : gC E bA p s m args meth c cc own nL) {k : Fin 4} {i : Nat} {x : Option Nat} (hd : decode cc pc = .ok (.astore_n k, 1)) (hi : (k : Nat) = i) (hn : i < nL) (hl : g_s1 lv i (tR x) = lv') (kk : vW E base bA nL p l e R s m args below meth c cells slots Q L V (pc + 1) lv' st) : vW E base bA nL p l e R s m args below meth c cells slots Q L V pc lv (tR x :: st) := by
  intro H locs ls h1 h2 h3
  subst hl
  cases x with
  | none => exact lv_astore_nN C.1 C.2.1 hd hi h3 hn rfl (fun ls' h' => kk H locs ls' h1 h2 (g_has1 (t := tR none) h'))
  | some x => exact lv_astore_n C.1 C.2.1 hd hi h3 hn rfl (fun ls' h' => kk H locs ls' h1 h2 (g_has1 (t := tR (some x)) h'))
theorem r_astore (C : gC E bA p s m args meth c cc own nL) {i : Nat} {x : Option Nat} (hd : decode cc pc = .ok (.astore i, 2)) (hn : i < nL) (hl : g_s1 lv i (tR x) = lv') (kk : vW E base bA nL p l e R s m args below meth c cells slots Q L V (pc + 2) lv' st) : vW E base bA nL p l e R s m args below meth c cells slots Q L V pc lv (tR x :: st) := by
  intro H locs ls h1 h2 h3
  subst hl
  cases x with
  | none => exact lv_astoreN C.1 C.2.1 hd h3 hn rfl (fun ls' h' => kk H locs ls' h1 h2 (g_has1 (t := tR none) h'))
  | some x => exact lv_astore C.1 C.2.1 hd h3 hn rfl (fun ls' h' => kk H locs ls' h1 h2 (g_has1 (t := tR (some x)) h'))
theorem g_lk_pos : ∀ {l : List (Nat × gT)} {i : Nat} {t : gT}, g_lk l i = some t → ∃ k : Nat, (l.map g_q)[k]? = some (i, g_val t) := fun {l i t} h => List.getElem?_of_mem (List.mem_map.mpr ⟨(i, t), g_lk_mem h, rfl⟩)
theorem r_iinc (C : gC E bA p s m args meth c cc own nL) {i : Nat} {n : Int} {x v : Int32} (hd : decode cc pc = .ok (.iinc i n, 3)) (hk : g_lk lv i = some (tI x)) (hv : x + Int32.ofInt n = v) (hn : i < nL) (hl : g_s1 lv i (tI v) = lv') (kk : vW E base bA nL p l e R s m args below meth c cells slots Q L V (pc + 3) lv' st) : vW E base bA nL p l e R s m args below meth c cells slots Q L V pc lv st := by
  intro H locs ls h1 h2 h3
  obtain ⟨j, hj⟩ := g_lk_pos hk
  refine lv_iinc C.1 C.2.1 hd h3 hj hv hn rfl (fun ls' h' => ?_)
  subst hl
  exact kk H locs ls' h1 h2 (g_has1 (t := tI v) h')
theorem r_iadd (C : gC E bA p s m args meth c cc own nL) {x y : Int32} (hd : decode cc pc = .ok (.iadd, 1))  (k : vW E base bA nL p l e R s m args below meth c cells slots Q L V (pc + 1) lv (tI (x + y) :: st)) : vW E base bA nL p l e R s m args below meth c cells slots Q L V pc lv (tI y :: tI x :: st) :=
  fun H locs ls h1 h2 h3 => lv_iadd C.1 C.2.1 hd (k H locs ls h1 h2 h3)
theorem r_isub (C : gC E bA p s m args meth c cc own nL) {x y : Int32} (hd : decode cc pc = .ok (.isub, 1))  (k : vW E base bA nL p l e R s m args below meth c cells slots Q L V (pc + 1) lv (tI (x - y) :: st)) : vW E base bA nL p l e R s m args below meth c cells slots Q L V pc lv (tI y :: tI x :: st) :=
  fun H locs ls h1 h2 h3 => lv_isub C.1 C.2.1 hd (k H locs ls h1 h2 h3)
theorem r_imul (C : gC E bA p s m args meth c cc own nL) {x y : Int32} (hd : decode cc pc = .ok (.imul, 1))  (k : vW E base bA nL p l e R s m args below meth c cells slots Q L V (pc + 1) lv (tI (x * y) :: st)) : vW E base bA nL p l e R s m args below meth c cells slots Q L V pc lv (tI y :: tI x :: st) :=
  fun H locs ls h1 h2 h3 => lv_imul C.1 C.2.1 hd (k H locs ls h1 h2 h3)
theorem r_iand (C : gC E bA p s m args meth c cc own nL) {x y : Int32} (hd : decode cc pc = .ok (.iand, 1))  (k : vW E base bA nL p l e R s m args below meth c cells slots Q L V (pc + 1) lv (tI (x &&& y) :: st)) : vW E base bA nL p l e R s m args below meth c cells slots Q L V pc lv (tI y :: tI x :: st) :=
  fun H locs ls h1 h2 h3 => lv_iand C.1 C.2.1 hd (k H locs ls h1 h2 h3)
theorem r_ior (C : gC E bA p s m args meth c cc own nL) {x y : Int32} (hd : decode cc pc = .ok (.ior, 1))  (k : vW E base bA nL p l e R s m args below meth c cells slots Q L V (pc + 1) lv (tI (x ||| y) :: st)) : vW E base bA nL p l e R s m args below meth c cells slots Q L V pc lv (tI y :: tI x :: st) :=
  fun H locs ls h1 h2 h3 => lv_ior C.1 C.2.1 hd (k H locs ls h1 h2 h3)
theorem r_ixor (C : gC E bA p s m args meth c cc own nL) {x y : Int32} (hd : decode cc pc = .ok (.ixor, 1))  (k : vW E base bA nL p l e R s m args below meth c cells slots Q L V (pc + 1) lv (tI (x ^^^ y) :: st)) : vW E base bA nL p l e R s m args below meth c cells slots Q L V pc lv (tI y :: tI x :: st) :=
  fun H locs ls h1 h2 h3 => lv_ixor C.1 C.2.1 hd (k H locs ls h1 h2 h3)
theorem r_idiv (C : gC E bA p s m args meth c cc own nL) {x y : Int32} (hd : decode cc pc = .ok (.idiv, 1)) (hne : ¬ y = 0) (k : vW E base bA nL p l e R s m args below meth c cells slots Q L V (pc + 1) lv (tI (x / y) :: st)) : vW E base bA nL p l e R s m args below meth c cells slots Q L V pc lv (tI y :: tI x :: st) :=
  fun H locs ls h1 h2 h3 => lv_idiv C.1 C.2.1 hd hne (k H locs ls h1 h2 h3)
theorem r_irem (C : gC E bA p s m args meth c cc own nL) {x y : Int32} (hd : decode cc pc = .ok (.irem, 1)) (hne : ¬ y = 0) (k : vW E base bA nL p l e R s m args below meth c cells slots Q L V (pc + 1) lv (tI (x - x / y * y) :: st)) : vW E base bA nL p l e R s m args below meth c cells slots Q L V pc lv (tI y :: tI x :: st) :=
  fun H locs ls h1 h2 h3 => lv_irem C.1 C.2.1 hd hne (k H locs ls h1 h2 h3)
theorem r_ladd (C : gC E bA p s m args meth c cc own nL) {x y : Int64} (hd : decode cc pc = .ok (.ladd, 1))  (k : vW E base bA nL p l e R s m args below meth c cells slots Q L V (pc + 1) lv (tJ (x + y) :: st)) : vW E base bA nL p l e R s m args below meth c cells slots Q L V pc lv (tJ y :: tJ x :: st) :=
  fun H locs ls h1 h2 h3 => lv_ladd C.1 C.2.1 hd (k H locs ls h1 h2 h3)
theorem r_lsub (C : gC E bA p s m args meth c cc own nL) {x y : Int64} (hd : decode cc pc = .ok (.lsub, 1))  (k : vW E base bA nL p l e R s m args below meth c cells slots Q L V (pc + 1) lv (tJ (x - y) :: st)) : vW E base bA nL p l e R s m args below meth c cells slots Q L V pc lv (tJ y :: tJ x :: st) :=
  fun H locs ls h1 h2 h3 => lv_lsub C.1 C.2.1 hd (k H locs ls h1 h2 h3)
theorem r_lmul (C : gC E bA p s m args meth c cc own nL) {x y : Int64} (hd : decode cc pc = .ok (.lmul, 1))  (k : vW E base bA nL p l e R s m args below meth c cells slots Q L V (pc + 1) lv (tJ (x * y) :: st)) : vW E base bA nL p l e R s m args below meth c cells slots Q L V pc lv (tJ y :: tJ x :: st) :=
  fun H locs ls h1 h2 h3 => lv_lmul C.1 C.2.1 hd (k H locs ls h1 h2 h3)
theorem r_land (C : gC E bA p s m args meth c cc own nL) {x y : Int64} (hd : decode cc pc = .ok (.land, 1))  (k : vW E base bA nL p l e R s m args below meth c cells slots Q L V (pc + 1) lv (tJ (x &&& y) :: st)) : vW E base bA nL p l e R s m args below meth c cells slots Q L V pc lv (tJ y :: tJ x :: st) :=
  fun H locs ls h1 h2 h3 => lv_land C.1 C.2.1 hd (k H locs ls h1 h2 h3)
theorem r_lor (C : gC E bA p s m args meth c cc own nL) {x y : Int64} (hd : decode cc pc = .ok (.lor, 1))  (k : vW E base bA nL p l e R s m args below meth c cells slots Q L V (pc + 1) lv (tJ (x ||| y) :: st)) : vW E base bA nL p l e R s m args below meth c cells slots Q L V pc lv (tJ y :: tJ x :: st) :=
  fun H locs ls h1 h2 h3 => lv_lor C.1 C.2.1 hd (k H locs ls h1 h2 h3)
theorem r_lxor (C : gC E bA p s m args meth c cc own nL) {x y : Int64} (hd : decode cc pc = .ok (.lxor, 1))  (k : vW E base bA nL p l e R s m args below meth c cells slots Q L V (pc + 1) lv (tJ (x ^^^ y) :: st)) : vW E base bA nL p l e R s m args below meth c cells slots Q L V pc lv (tJ y :: tJ x :: st) :=
  fun H locs ls h1 h2 h3 => lv_lxor C.1 C.2.1 hd (k H locs ls h1 h2 h3)
theorem r_ldiv (C : gC E bA p s m args meth c cc own nL) {x y : Int64} (hd : decode cc pc = .ok (.ldiv, 1)) (hne : ¬ y = 0) (k : vW E base bA nL p l e R s m args below meth c cells slots Q L V (pc + 1) lv (tJ (x / y) :: st)) : vW E base bA nL p l e R s m args below meth c cells slots Q L V pc lv (tJ y :: tJ x :: st) :=
  fun H locs ls h1 h2 h3 => lv_ldiv C.1 C.2.1 hd hne (k H locs ls h1 h2 h3)
theorem r_lrem (C : gC E bA p s m args meth c cc own nL) {x y : Int64} (hd : decode cc pc = .ok (.lrem, 1)) (hne : ¬ y = 0) (k : vW E base bA nL p l e R s m args below meth c cells slots Q L V (pc + 1) lv (tJ (x - x / y * y) :: st)) : vW E base bA nL p l e R s m args below meth c cells slots Q L V pc lv (tJ y :: tJ x :: st) :=
  fun H locs ls h1 h2 h3 => lv_lrem C.1 C.2.1 hd hne (k H locs ls h1 h2 h3)
theorem r_ineg (C : gC E bA p s m args meth c cc own nL) {x : Int32} (hd : decode cc pc = .ok (.ineg, 1))  (k : vW E base bA nL p l e R s m args below meth c cells slots Q L V (pc + 1) lv (tI (-x) :: st)) : vW E base bA nL p l e R s m args below meth c cells slots Q L V pc lv (tI x :: st) :=
  fun H locs ls h1 h2 h3 => lv_ineg C.1 C.2.1 hd (k H locs ls h1 h2 h3)
theorem r_lcmp (C : gC E bA p s m args meth c cc own nL) {x y : Int64} (hd : decode cc pc = .ok (.lcmp, 1))  (k : vW E base bA nL p l e R s m args below meth c cells slots Q L V (pc + 1) lv (tI (lg_cmp x y) :: st)) : vW E base bA nL p l e R s m args below meth c cells slots Q L V pc lv (tJ y :: tJ x :: st) :=
  fun H locs ls h1 h2 h3 => W.lcmp C.1 C.2.1 hd (k H locs ls h1 h2 h3)
theorem r_i2l (C : gC E bA p s m args meth c cc own nL) {x : Int32} (hd : decode cc pc = .ok (.i2l, 1))  (k : vW E base bA nL p l e R s m args below meth c cells slots Q L V (pc + 1) lv (tJ x.toInt64 :: st)) : vW E base bA nL p l e R s m args below meth c cells slots Q L V pc lv (tI x :: st) :=
  fun H locs ls h1 h2 h3 => lv_i2l C.1 C.2.1 hd rfl (k H locs ls h1 h2 h3)
theorem r_l2i (C : gC E bA p s m args meth c cc own nL) {x : Int64} (hd : decode cc pc = .ok (.l2i, 1))  (k : vW E base bA nL p l e R s m args below meth c cells slots Q L V (pc + 1) lv (tI x.toInt32 :: st)) : vW E base bA nL p l e R s m args below meth c cells slots Q L V pc lv (tJ x :: st) :=
  fun H locs ls h1 h2 h3 => lv_l2i C.1 C.2.1 hd rfl (k H locs ls h1 h2 h3)
theorem r_iushr (C : gC E bA p s m args meth c cc own nL) {x y : Int32} (hd : decode cc pc = .ok (.iushr, 1))  (k : vW E base bA nL p l e R s m args below meth c cells slots Q L V (pc + 1) lv (tI ((x.toUInt32 >>> (y.toUInt32 &&& Int32.toUInt32 31)).toInt32) :: st)) : vW E base bA nL p l e R s m args below meth c cells slots Q L V pc lv (tI y :: tI x :: st) :=
  fun H locs ls h1 h2 h3 => lv_iushr C.1 C.2.1 hd rfl (k H locs ls h1 h2 h3)
theorem r_ishl (C : gC E bA p s m args meth c cc own nL) {x y : Int32} (hd : decode cc pc = .ok (.ishl, 1))  (k : vW E base bA nL p l e R s m args below meth c cells slots Q L V (pc + 1) lv (tI (x <<< (y &&& 31)) :: st)) : vW E base bA nL p l e R s m args below meth c cells slots Q L V pc lv (tI y :: tI x :: st) :=
  fun H locs ls h1 h2 h3 => lv_ishl C.1 C.2.1 hd (k H locs ls h1 h2 h3)
theorem r_ishr (C : gC E bA p s m args meth c cc own nL) {x y : Int32} (hd : decode cc pc = .ok (.ishr, 1))  (k : vW E base bA nL p l e R s m args below meth c cells slots Q L V (pc + 1) lv (tI (x >>> (y &&& 31)) :: st)) : vW E base bA nL p l e R s m args below meth c cells slots Q L V pc lv (tI y :: tI x :: st) :=
  fun H locs ls h1 h2 h3 => lv_ishr C.1 C.2.1 hd (k H locs ls h1 h2 h3)
theorem r_lshl (C : gC E bA p s m args meth c cc own nL) {x : Int64} {y : Int32} (hd : decode cc pc = .ok (.lshl, 1))  (k : vW E base bA nL p l e R s m args below meth c cells slots Q L V (pc + 1) lv (tJ (x <<< (y.toInt64 &&& 63)) :: st)) : vW E base bA nL p l e R s m args below meth c cells slots Q L V pc lv (tI y :: tJ x :: st) :=
  fun H locs ls h1 h2 h3 => lv_lshl C.1 C.2.1 hd rfl (k H locs ls h1 h2 h3)
theorem r_lshr (C : gC E bA p s m args meth c cc own nL) {x : Int64} {y : Int32} (hd : decode cc pc = .ok (.lshr, 1))  (k : vW E base bA nL p l e R s m args below meth c cells slots Q L V (pc + 1) lv (tJ (x >>> (y.toInt64 &&& 63)) :: st)) : vW E base bA nL p l e R s m args below meth c cells slots Q L V pc lv (tI y :: tJ x :: st) :=
  fun H locs ls h1 h2 h3 => lv_lshr C.1 C.2.1 hd rfl (k H locs ls h1 h2 h3)
theorem r_lushr (C : gC E bA p s m args meth c cc own nL) {x : Int64} {y : Int32} (hd : decode cc pc = .ok (.lushr, 1))  (k : vW E base bA nL p l e R s m args below meth c cells slots Q L V (pc + 1) lv (tJ ((x.toUInt64 >>> (y.toInt64.toUInt64 &&& Int64.toUInt64 63)).toInt64) :: st)) : vW E base bA nL p l e R s m args below meth c cells slots Q L V pc lv (tI y :: tJ x :: st) :=
  fun H locs ls h1 h2 h3 => lv_lushr C.1 C.2.1 hd rfl (k H locs ls h1 h2 h3)
theorem g_cat1 {t : gT} (h : g_two t = false) : (g_val t).category = 1 := by rw [g_cat, h]; rfl
theorem g_cat22 {t : gT} (h : g_two t = true) : (g_val t).category = 2 := by rw [g_cat, h]; rfl
theorem r_dup (C : gC E bA p s m args meth c cc own nL) {t : gT} (hd : decode cc pc = .ok (.dup, 1)) (ht : g_two t = false) (k : vW E base bA nL p l e R s m args below meth c cells slots Q L V (pc + 1) lv (t :: t :: st)) : vW E base bA nL p l e R s m args below meth c cells slots Q L V pc lv (t :: st) :=
  fun H locs ls h1 h2 h3 => lv_dup C.1 C.2.1 hd (g_cat1 ht) (k H locs ls h1 h2 h3)
theorem r_pop (C : gC E bA p s m args meth c cc own nL) {t : gT} (hd : decode cc pc = .ok (.pop, 1)) (ht : g_two t = false) (k : vW E base bA nL p l e R s m args below meth c cells slots Q L V (pc + 1) lv st) : vW E base bA nL p l e R s m args below meth c cells slots Q L V pc lv (t :: st) :=
  fun H locs ls h1 h2 h3 => lv_pop C.1 C.2.1 hd (g_cat1 ht) (k H locs ls h1 h2 h3)
theorem r_dup_x1 (C : gC E bA p s m args meth c cc own nL) {t u : gT} (hd : decode cc pc = .ok (.dup_x1, 1)) (ht : g_two t = false) (hu : g_two u = false) (k : vW E base bA nL p l e R s m args below meth c cells slots Q L V (pc + 1) lv (t :: u :: t :: st)) : vW E base bA nL p l e R s m args below meth c cells slots Q L V pc lv (t :: u :: st) :=
  fun H locs ls h1 h2 h3 => lv_dup_x1 C.1 C.2.1 hd (g_cat1 ht) (g_cat1 hu) (k H locs ls h1 h2 h3)
theorem r_dup2 (C : gC E bA p s m args meth c cc own nL) {t u : gT} (hd : decode cc pc = .ok (.dup2, 1)) (ht : g_two t = false) (hu : g_two u = false) (k : vW E base bA nL p l e R s m args below meth c cells slots Q L V (pc + 1) lv (t :: u :: t :: u :: st)) : vW E base bA nL p l e R s m args below meth c cells slots Q L V pc lv (t :: u :: st) :=
  fun H locs ls h1 h2 h3 => lv_dup2_11 C.1 C.2.1 hd (g_cat1 ht) (g_cat1 hu) (k H locs ls h1 h2 h3)
theorem r_dup2_2 (C : gC E bA p s m args meth c cc own nL) {t : gT} (hd : decode cc pc = .ok (.dup2, 1)) (ht : g_two t = true) (k : vW E base bA nL p l e R s m args below meth c cells slots Q L V (pc + 1) lv (t :: t :: st)) : vW E base bA nL p l e R s m args below meth c cells slots Q L V pc lv (t :: st) :=
  fun H locs ls h1 h2 h3 => lv_dup2_2 C.1 C.2.1 hd (g_cat22 ht) (k H locs ls h1 h2 h3)
theorem r_if_eq (C : gC E bA p s m args meth c cc own nL) {x : Int32} {off : Int} (tgt : Nat) (hd : decode cc pc = .ok (.ifCond .eq off, 3)) (ht : (pc : Int) + off = (tgt : Int)) (kt : x = 0 → vW E base bA nL p l e R s m args below meth c cells slots Q L V tgt lv st) (kf : ¬ x = 0 → vW E base bA nL p l e R s m args below meth c cells slots Q L V (pc + 3) lv st) : vW E base bA nL p l e R s m args below meth c cells slots Q L V pc lv (tI x :: st) :=
  fun H locs ls h1 h2 h3 => lv_if_eq C.1 C.2.1 hd ht (fun q => kt q H locs ls h1 h2 h3) (fun q => kf q H locs ls h1 h2 h3)
theorem r_icmp_eq (C : gC E bA p s m args meth c cc own nL) {x y : Int32} {off : Int} (tgt : Nat) (hd : decode cc pc = .ok (.if_icmp .eq off, 3)) (ht : (pc : Int) + off = (tgt : Int)) (kt : x = y → vW E base bA nL p l e R s m args below meth c cells slots Q L V tgt lv st) (kf : ¬ x = y → vW E base bA nL p l e R s m args below meth c cells slots Q L V (pc + 3) lv st) : vW E base bA nL p l e R s m args below meth c cells slots Q L V pc lv (tI y :: tI x :: st) :=
  fun H locs ls h1 h2 h3 => lv_icmp_eq C.1 C.2.1 hd ht (fun q => kt q H locs ls h1 h2 h3) (fun q => kf q H locs ls h1 h2 h3)
theorem r_if_ne (C : gC E bA p s m args meth c cc own nL) {x : Int32} {off : Int} (tgt : Nat) (hd : decode cc pc = .ok (.ifCond .ne off, 3)) (ht : (pc : Int) + off = (tgt : Int)) (kt : ¬ x = 0 → vW E base bA nL p l e R s m args below meth c cells slots Q L V tgt lv st) (kf : x = 0 → vW E base bA nL p l e R s m args below meth c cells slots Q L V (pc + 3) lv st) : vW E base bA nL p l e R s m args below meth c cells slots Q L V pc lv (tI x :: st) :=
  fun H locs ls h1 h2 h3 => lv_if_ne C.1 C.2.1 hd ht (fun q => kt q H locs ls h1 h2 h3) (fun q => kf q H locs ls h1 h2 h3)
theorem r_icmp_ne (C : gC E bA p s m args meth c cc own nL) {x y : Int32} {off : Int} (tgt : Nat) (hd : decode cc pc = .ok (.if_icmp .ne off, 3)) (ht : (pc : Int) + off = (tgt : Int)) (kt : ¬ x = y → vW E base bA nL p l e R s m args below meth c cells slots Q L V tgt lv st) (kf : x = y → vW E base bA nL p l e R s m args below meth c cells slots Q L V (pc + 3) lv st) : vW E base bA nL p l e R s m args below meth c cells slots Q L V pc lv (tI y :: tI x :: st) :=
  fun H locs ls h1 h2 h3 => lv_icmp_ne C.1 C.2.1 hd ht (fun q => kt q H locs ls h1 h2 h3) (fun q => kf q H locs ls h1 h2 h3)
theorem r_if_lt (C : gC E bA p s m args meth c cc own nL) {x : Int32} {off : Int} (tgt : Nat) (hd : decode cc pc = .ok (.ifCond .lt off, 3)) (ht : (pc : Int) + off = (tgt : Int)) (kt : x < 0 → vW E base bA nL p l e R s m args below meth c cells slots Q L V tgt lv st) (kf : ¬ x < 0 → vW E base bA nL p l e R s m args below meth c cells slots Q L V (pc + 3) lv st) : vW E base bA nL p l e R s m args below meth c cells slots Q L V pc lv (tI x :: st) :=
  fun H locs ls h1 h2 h3 => lv_if_lt C.1 C.2.1 hd ht (fun q => kt q H locs ls h1 h2 h3) (fun q => kf q H locs ls h1 h2 h3)
theorem r_icmp_lt (C : gC E bA p s m args meth c cc own nL) {x y : Int32} {off : Int} (tgt : Nat) (hd : decode cc pc = .ok (.if_icmp .lt off, 3)) (ht : (pc : Int) + off = (tgt : Int)) (kt : x < y → vW E base bA nL p l e R s m args below meth c cells slots Q L V tgt lv st) (kf : ¬ x < y → vW E base bA nL p l e R s m args below meth c cells slots Q L V (pc + 3) lv st) : vW E base bA nL p l e R s m args below meth c cells slots Q L V pc lv (tI y :: tI x :: st) :=
  fun H locs ls h1 h2 h3 => lv_icmp_lt C.1 C.2.1 hd ht (fun q => kt q H locs ls h1 h2 h3) (fun q => kf q H locs ls h1 h2 h3)
theorem r_if_ge (C : gC E bA p s m args meth c cc own nL) {x : Int32} {off : Int} (tgt : Nat) (hd : decode cc pc = .ok (.ifCond .ge off, 3)) (ht : (pc : Int) + off = (tgt : Int)) (kt : 0 ≤ x → vW E base bA nL p l e R s m args below meth c cells slots Q L V tgt lv st) (kf : ¬ 0 ≤ x → vW E base bA nL p l e R s m args below meth c cells slots Q L V (pc + 3) lv st) : vW E base bA nL p l e R s m args below meth c cells slots Q L V pc lv (tI x :: st) :=
  fun H locs ls h1 h2 h3 => lv_if_ge C.1 C.2.1 hd ht (fun q => kt q H locs ls h1 h2 h3) (fun q => kf q H locs ls h1 h2 h3)
theorem r_icmp_ge (C : gC E bA p s m args meth c cc own nL) {x y : Int32} {off : Int} (tgt : Nat) (hd : decode cc pc = .ok (.if_icmp .ge off, 3)) (ht : (pc : Int) + off = (tgt : Int)) (kt : y ≤ x → vW E base bA nL p l e R s m args below meth c cells slots Q L V tgt lv st) (kf : ¬ y ≤ x → vW E base bA nL p l e R s m args below meth c cells slots Q L V (pc + 3) lv st) : vW E base bA nL p l e R s m args below meth c cells slots Q L V pc lv (tI y :: tI x :: st) :=
  fun H locs ls h1 h2 h3 => lv_icmp_ge C.1 C.2.1 hd ht (fun q => kt q H locs ls h1 h2 h3) (fun q => kf q H locs ls h1 h2 h3)
theorem r_if_gt (C : gC E bA p s m args meth c cc own nL) {x : Int32} {off : Int} (tgt : Nat) (hd : decode cc pc = .ok (.ifCond .gt off, 3)) (ht : (pc : Int) + off = (tgt : Int)) (kt : 0 < x → vW E base bA nL p l e R s m args below meth c cells slots Q L V tgt lv st) (kf : ¬ 0 < x → vW E base bA nL p l e R s m args below meth c cells slots Q L V (pc + 3) lv st) : vW E base bA nL p l e R s m args below meth c cells slots Q L V pc lv (tI x :: st) :=
  fun H locs ls h1 h2 h3 => lv_if_gt C.1 C.2.1 hd ht (fun q => kt q H locs ls h1 h2 h3) (fun q => kf q H locs ls h1 h2 h3)
theorem r_icmp_gt (C : gC E bA p s m args meth c cc own nL) {x y : Int32} {off : Int} (tgt : Nat) (hd : decode cc pc = .ok (.if_icmp .gt off, 3)) (ht : (pc : Int) + off = (tgt : Int)) (kt : y < x → vW E base bA nL p l e R s m args below meth c cells slots Q L V tgt lv st) (kf : ¬ y < x → vW E base bA nL p l e R s m args below meth c cells slots Q L V (pc + 3) lv st) : vW E base bA nL p l e R s m args below meth c cells slots Q L V pc lv (tI y :: tI x :: st) :=
  fun H locs ls h1 h2 h3 => lv_icmp_gt C.1 C.2.1 hd ht (fun q => kt q H locs ls h1 h2 h3) (fun q => kf q H locs ls h1 h2 h3)
theorem r_if_le (C : gC E bA p s m args meth c cc own nL) {x : Int32} {off : Int} (tgt : Nat) (hd : decode cc pc = .ok (.ifCond .le off, 3)) (ht : (pc : Int) + off = (tgt : Int)) (kt : x ≤ 0 → vW E base bA nL p l e R s m args below meth c cells slots Q L V tgt lv st) (kf : ¬ x ≤ 0 → vW E base bA nL p l e R s m args below meth c cells slots Q L V (pc + 3) lv st) : vW E base bA nL p l e R s m args below meth c cells slots Q L V pc lv (tI x :: st) :=
  fun H locs ls h1 h2 h3 => lv_if_le C.1 C.2.1 hd ht (fun q => kt q H locs ls h1 h2 h3) (fun q => kf q H locs ls h1 h2 h3)
theorem r_icmp_le (C : gC E bA p s m args meth c cc own nL) {x y : Int32} {off : Int} (tgt : Nat) (hd : decode cc pc = .ok (.if_icmp .le off, 3)) (ht : (pc : Int) + off = (tgt : Int)) (kt : x ≤ y → vW E base bA nL p l e R s m args below meth c cells slots Q L V tgt lv st) (kf : ¬ x ≤ y → vW E base bA nL p l e R s m args below meth c cells slots Q L V (pc + 3) lv st) : vW E base bA nL p l e R s m args below meth c cells slots Q L V pc lv (tI y :: tI x :: st) :=
  fun H locs ls h1 h2 h3 => lv_icmp_le C.1 C.2.1 hd ht (fun q => kt q H locs ls h1 h2 h3) (fun q => kf q H locs ls h1 h2 h3)
theorem r_goto (C : gC E bA p s m args meth c cc own nL) {off : Int} (tgt : Nat) (hd : decode cc pc = .ok (.goto off, 3)) (ht : (pc : Int) + off = (tgt : Int)) (k : vW E base bA nL p l e R s m args below meth c cells slots Q L V tgt lv st) : vW E base bA nL p l e R s m args below meth c cells slots Q L V pc lv st :=
  fun H locs ls h1 h2 h3 => lv_goto C.1 C.2.1 hd ht (k H locs ls h1 h2 h3)
theorem r_ifnull_f (C : gC E bA p s m args meth c cc own nL) {x : Nat} {off : Int} (hd : decode cc pc = .ok (.ifnull off, 3)) (k : vW E base bA nL p l e R s m args below meth c cells slots Q L V (pc + 3) lv st) : vW E base bA nL p l e R s m args below meth c cells slots Q L V pc lv (tR (some x) :: st) :=
  fun H locs ls h1 h2 h3 => lv_ifnull C.1 C.2.1 hd (k H locs ls h1 h2 h3)
theorem r_ifnull_t (C : gC E bA p s m args meth c cc own nL) {off : Int} (tgt : Nat) (hd : decode cc pc = .ok (.ifnull off, 3)) (ht : (pc : Int) + off = (tgt : Int)) (k : vW E base bA nL p l e R s m args below meth c cells slots Q L V tgt lv st) : vW E base bA nL p l e R s m args below meth c cells slots Q L V pc lv (tR none :: st) :=
  fun H locs ls h1 h2 h3 => lv_ifnullN C.1 C.2.1 hd ht (k H locs ls h1 h2 h3)
theorem r_ifnonnull_t (C : gC E bA p s m args meth c cc own nL) {x : Nat} {off : Int} (tgt : Nat) (hd : decode cc pc = .ok (.ifnonnull off, 3)) (ht : (pc : Int) + off = (tgt : Int)) (k : vW E base bA nL p l e R s m args below meth c cells slots Q L V tgt lv st) : vW E base bA nL p l e R s m args below meth c cells slots Q L V pc lv (tR (some x) :: st) :=
  fun H locs ls h1 h2 h3 => lv_ifnonnull C.1 C.2.1 hd ht (k H locs ls h1 h2 h3)
theorem r_ifnonnull_f (C : gC E bA p s m args meth c cc own nL) {off : Int} (hd : decode cc pc = .ok (.ifnonnull off, 3)) (k : vW E base bA nL p l e R s m args below meth c cells slots Q L V (pc + 3) lv st) : vW E base bA nL p l e R s m args below meth c cells slots Q L V pc lv (tR none :: st) :=
  fun H locs ls h1 h2 h3 => lv_ifnonnullN C.1 C.2.1 hd (k H locs ls h1 h2 h3)
theorem r_lv (ks : List Nat) (hl : ks.filterMap (fun k => lv[k]?) = lv') (k : vW E base bA nL p l e R s m args below meth c cells slots Q L V pc lv' st) : vW E base bA nL p l e R s m args below meth c cells slots Q L V pc lv st := by
  intro H locs ls h1 h2 h3
  refine k H locs ls h1 h2 ⟨h3.1, h3.2.1, fun q hq => ?_⟩
  obtain ⟨w, hw, rfl⟩ := List.mem_map.mp hq
  rw [← hl] at hw
  obtain ⟨j, -, hj⟩ := List.mem_filterMap.mp hw
  exact h3.2.2 _ (List.mem_map.mpr ⟨w, List.mem_of_getElem? hj, rfl⟩)
theorem r_wid {k n : Nat} (h1 : cells ≤ k) (h2 : slots ≤ n) (kk : vW E base bA nL p l e R s m args below meth c k n Q L V pc lv st) : vW E base bA nL p l e R s m args below meth c cells slots Q L V pc lv st :=
  fun H locs ls g1 g2 g3 => W.widen h1 h2 (kk H locs ls g1 g2 g3)
end GR
end
section
/-! ROWS: fields, arrays, new cells, calls, returns, entry -/
def gF (own : String) (index k i : Nat) (ty : FieldType) (fin : Bool) : Prop := ∃ (Cn : String) (T : u_T) (N : Nat) (t : Nat → FieldType), g_cl[k]? = some (Cn, T, N) ∧ i < N ∧ (∀ w ∈ u_ws Cn T N, w ∈ g_tb) ∧ Cond.fieldLink own index (T i).1 (T i).2.1 (T i).2.2.1 ∈ g_tb ∧ (∀ j, j < N → parseFieldDescriptor (T j).2.2.1 = some (t j)) ∧ (∀ a, a < N → ∀ b, b < N → a ≠ b → (T a).2.1 ≠ (T b).2.1) ∧ t i = ty ∧ (T i).2.2.2 = fin
def gAk (k : Nat) (ty : FieldType) : Prop := g_cl[k]? = none ∧ ∃ j : Nat, ∀ E : gE, (g_tys E)[j]? = some (E.2.2 k, ty)
def gNw (own : String) (index k N : Nat) (d : Nat → gT) : Prop := ∃ (Cn : String) (T : u_T) (t : Nat → FieldType), g_cl[k]? = some (Cn, T, N) ∧ (∀ w ∈ u_ws Cn T N, w ∈ g_tb) ∧ (∀ j, j < N → parseFieldDescriptor (T j).2.2.1 = some (t j)) ∧ Cond.classLink own index Cn ∈ g_tb ∧ Cond.instantiable Cn N ∈ g_tb ∧ Cond.initialized Cn ∈ g_tb ∧ ∀ j, j < N → defaultValue (t j) = g_val (d j)
section GF
variable {E : gE} {base bA nL : Nat} {p : Program} {l : Launch} {e : Env} {R : Room} {s : State} {m : MethodId} {args : Array Value} {below : List Frame} {meth : Method} {c : Code} {cells slots : Nat} {Q : State → Prop} {cc : ByteArray} {own : String} {L : gL} {V : gV} {pc : Nat} {lv lv' : List (Nat × gT)} {st : List gT}
theorem r_get (C : gC E bA p s m args meth c cc own nL) {index k i a : Nat} {ty : FieldType} {fin : Bool} (F : gF own index k i ty fin) (hd : decode cc pc = .ok (.getfield index, 3)) {t : gT} (h : g_rd L V k a i = some t) (kk : vW E base bA nL p l e R s m args below meth c cells slots Q L V (pc + 3) lv (t :: st)) : vW E base bA nL p l e R s m args below meth c cells slots Q L V pc lv (tR (some a) :: st) := by
  intro H locs ls h1 h2 h3
  obtain ⟨hx, hb, hml, hown, hts, hK, hbs, hlk⟩ := C
  obtain ⟨Cn, T, N, t0, hc, hi, hin, hlink, hty, hnm, -, -⟩ := F
  obtain ⟨n, hn, hin2, hv⟩ := g_rd_spec h
  obtain ⟨en, cell, q1, q2, q3, q4⟩ := (h1.2.1 k a n hn).2.1 _ hc
  obtain ⟨hS, hfc, kC, hkC, hkind⟩ := hK.1.1 k _ hc
  obtain ⟨cf, kf, fi, f, hfi, hsl⟩ := hS i hi
  refine W.getf hx hb hown (hts _ hlink) hfi (u_facts hfc hkC (u_lays hts hin hi) hfi).1 q1 (by rw [q3]; exact fun h => by cases h) (v := g_val t) ?_ rfl rfl hd (kk H locs ls h1 h2 h3)
  rw [hsl, q4 i hi, ← hv]
  rfl
theorem r_getI (C : gC E bA p s m args meth c cc own nL) {index k i a : Nat} {ty : FieldType} {fin : Bool} (F : gF own index k i ty fin) (hd : decode cc pc = .ok (.getfield index, 3)) {x : Int32} (h : g_rI L V k a i = some x) (kk : vW E base bA nL p l e R s m args below meth c cells slots Q L V (pc + 3) lv (tI x :: st)) : vW E base bA nL p l e R s m args below meth c cells slots Q L V pc lv (tR (some a) :: st) := r_get C F hd (g_rI_spec h) kk
theorem r_getJ (C : gC E bA p s m args meth c cc own nL) {index k i a : Nat} {ty : FieldType} {fin : Bool} (F : gF own index k i ty fin) (hd : decode cc pc = .ok (.getfield index, 3)) {x : Int64} (h : g_rJ L V k a i = some x) (kk : vW E base bA nL p l e R s m args below meth c cells slots Q L V (pc + 3) lv (tJ x :: st)) : vW E base bA nL p l e R s m args below meth c cells slots Q L V pc lv (tR (some a) :: st) := r_get C F hd (g_rJ_spec h) kk
theorem r_getR (C : gC E bA p s m args meth c cc own nL) {index k i a : Nat} {ty : FieldType} {fin : Bool} (F : gF own index k i ty fin) (hd : decode cc pc = .ok (.getfield index, 3)) {x : Option Nat} (h : g_rR L V k a i = some x) (kk : vW E base bA nL p l e R s m args below meth c cells slots Q L V (pc + 3) lv (tR x :: st)) : vW E base bA nL p l e R s m args below meth c cells slots Q L V pc lv (tR (some a) :: st) := r_get C F hd (g_rR_spec h) kk
theorem r_put (C : gC E base p s m args meth c cc own nL) {index k i a : Nat} {ty : FieldType} (F : gF own index k i ty false) (hd : decode cc pc = .ok (.putfield index, 3)) {t : gT} {V' : gV} (h : g_wr L V k a i t = some V') (hn : narrow ty (g_val t) = g_val t) (hf : fits ty (g_val t) = true) (kk : vW E base base nL p l e R s m args below meth c cells slots Q L V' (pc + 3) lv st) : vW E base base nL p l e R s m args below meth c cells slots Q L V pc lv (t :: tR (some a) :: st) := by
  intro H locs ls h1 h2 h3
  obtain ⟨hx, hb, hml, hown, hts, hK, hbs, hlk⟩ := C
  obtain ⟨Cn, T, N, t0, hc, hi, hin, hlink, hty, hnm, ht0, hfin⟩ := F
  obtain ⟨n, hL, hin2, rfl⟩ := g_wr_spec h
  have hap := va_apart (own := own) (D := (E.1, E.2.1)) (cl := g_cl) (tys := g_tys E) hts hin t0 hty hnm hK.1 hc
  obtain ⟨en, cell, q1, q2, q3, q4⟩ := (h1.2.1 k a n hL).2.1 _ hc
  obtain ⟨hS, hfc, kC, hkC, hkind⟩ := hK.1.1 k _ hc
  obtain ⟨cf, kf, fi, f, hfi, hsl⟩ := hS i hi
  have hlay := hts _ (hin _ (u_in_lay hi))
  unfold u_lay at hlay
  rw [if_neg (by rw [hfin]; decide)] at hlay
  have hst := (u_facts hfc hkC (u_lays hts hin hi) hfi).1
  have h6 := u_store hfc hkC hkind hlay hfi (by rw [← ht0]; exact hty i hi) hn hf
  refine W.putK hx hb (f := f) ⟨hown, hts _ hlink, ⟨_, _, _, hfi⟩, hst⟩ (by rw [q2]; exact h6) q1 q3 (by rw [hsl]; exact k2_hasslot (q4 i hi)) rfl rfl hd fun H' e1 e2 e3 => ?_
  rw [hsl] at e1
  refine kk H' _ ls (h1.put hL e2 e3 ⟨fun r hr => ?_, fun hnn => by rw [hc] at hnn; cases hnn⟩) (h2.put e2 e3 (h1.2.1 k a n hL).1) h3
  have hre : r = (Cn, T, N) := Option.some.inj (hr.symm.trans hc)
  subst hre
  exact ⟨en, ⟨_, e1, q2, q3, t_set q4 hap hi (g_val t)⟩⟩
theorem r_putF (C : gC E base p s m args meth c cc own nL) {index k i a : Nat} {ty : FieldType} (F : gF own index k i ty true) (hd : decode cc pc = .ok (.putfield index, 3)) (hin2 : meth.name = "<init>") (hdc : ∃ r : vw_C, g_cl[k]? = some r ∧ (r.2.1 i).1 = own) {t : gT} {V' : gV} (h : g_wr L V k a i t = some V') (hn : narrow ty (g_val t) = g_val t) (hf : fits ty (g_val t) = true) (kk : vW E base base nL p l e R s m args below meth c cells slots Q L V' (pc + 3) lv st) : vW E base base nL p l e R s m args below meth c cells slots Q L V pc lv (t :: tR (some a) :: st) := by
  intro H locs ls h1 h2 h3
  obtain ⟨hx, hb, hml, hown, hts, hK, hbs, hlk⟩ := C
  obtain ⟨Cn, T, N, t0, hc, hi, hin, hlink, hty, hnm, ht0, hfin⟩ := F
  obtain ⟨n, hL, hin3, rfl⟩ := g_wr_spec h
  have hdecl : (T i).1 = own := by
    obtain ⟨r, r1, r2⟩ := hdc
    have hre : r = (Cn, T, N) := Option.some.inj (r1.symm.trans hc)
    subst hre
    exact r2
  have hap := va_apart (own := own) (D := (E.1, E.2.1)) (cl := g_cl) (tys := g_tys E) hts hin t0 hty hnm hK.1 hc
  obtain ⟨en, cell, q1, q2, q3, q4⟩ := (h1.2.1 k a n hL).2.1 _ hc
  obtain ⟨hS, hfc, kC, hkC, hkind⟩ := hK.1.1 k _ hc
  obtain ⟨cf, kf, fi, f, hfi, hsl⟩ := hS i hi
  have hlay := hts _ (hin _ (u_in_lay hi))
  unfold u_lay at hlay
  rw [if_pos hfin] at hlay
  have hst := (u_facts hfc hkC (u_lays hts hin hi) hfi).1
  have hcf : m.cls = cf := by
    obtain ⟨_, _, c', _, _, _, -, -, hf', -, -, -, hown2, -⟩ := Cond.laysFinal_spec hlay
    have e1 : c' = cf := by have := hfi.symm.trans hf'; simp at this; exact this.1.symm
    rw [hdecl] at hown2
    rw [← e1]; exact Option.some.inj (hown.symm.trans hown2)
  have h6 := u_fits hfc hkC hkind (Or.inr hlay) hfi (by rw [← ht0]; exact hty i hi) hn hf
  refine W.putFinK hx hb hown (hts _ hlink) hfi hst hcf hin2 (by rw [q2]; exact h6) q1 q3 (by rw [hsl]; exact k2_hasslot (q4 i hi)) rfl rfl hd fun H' e1 e2 e3 => ?_
  rw [hsl] at e1
  refine kk H' _ ls (h1.put hL e2 e3 ⟨fun r hr => ?_, fun hnn => by rw [hc] at hnn; cases hnn⟩) (h2.put e2 e3 (h1.2.1 k a n hL).1) h3
  have hre : r = (Cn, T, N) := Option.some.inj (hr.symm.trans hc)
  subst hre
  exact ⟨en, ⟨_, e1, q2, q3, t_set q4 hap hi (g_val t)⟩⟩
theorem g_nR {C : String} (r : Option Nat) : narrow (.object C) (g_val (tR r)) = g_val (tR r) ∧ fits (.object C) (g_val (tR r)) = true := by cases r <;> exact ⟨rfl, rfl⟩
theorem g_nA {C : FieldType} (r : Option Nat) : narrow (.array C) (g_val (tR r)) = g_val (tR r) ∧ fits (.array C) (g_val (tR r)) = true := by cases r <;> exact ⟨rfl, rfl⟩
theorem g_nI (x : Int32) : narrow .int (g_val (tI x)) = g_val (tI x) ∧ fits .int (g_val (tI x)) = true := ⟨rfl, rfl⟩
theorem g_nJ (x : Int64) : narrow .long (g_val (tJ x)) = g_val (tJ x) ∧ fits .long (g_val (tJ x)) = true := ⟨rfl, rfl⟩
theorem g_nZ {x : Int32} (h : x = 0 ∨ x = 1) : narrow .boolean (g_val (tI x)) = g_val (tI x) ∧ fits .boolean (g_val (tI x)) = true := by rcases h with rfl | rfl <;> exact ⟨rfl, rfl⟩
-- arrays
theorem r_iald (C : gC E bA p s m args meth c cc own nL) {k a : Nat} (A : gAk k .int) (hd : decode cc pc = .ok (.iaload, 1)) {x y : Int32} (h : g_aI L V k a x = some y) (kk : vW E base bA nL p l e R s m args below meth c cells slots Q L V (pc + 1) lv (tI y :: st)) : vW E base bA nL p l e R s m args below meth c cells slots Q L V pc lv (tI x :: tR (some a) :: st) := by
  intro H locs ls h1 h2 h3
  obtain ⟨hx, hb, hml, hown, hts, hK, hbs, hlk⟩ := C
  obtain ⟨hc, j, hj⟩ := A
  obtain ⟨i, g1, g2⟩ := g_aI_spec h
  obtain ⟨n, hn, hin, rfl, hlt⟩ := g_ix_spec g1
  exact W.iald (v := .int y) hx hb ((h1.2.1 k a n hn).2.2 hc) ((hK.1.2 j _ (hj E)).1 n _) (fun q => by cases q) (by rw [arrV_size]; exact hin) (by rw [arrV_read _ _ hlt]; exact congrArg (fun z => some (g_val z)) g2) rfl rfl hd (kk H locs ls h1 h2 h3)
theorem r_lald (C : gC E bA p s m args meth c cc own nL) {k a : Nat} (A : gAk k .long) (hd : decode cc pc = .ok (.laload, 1)) {x : Int32} {y : Int64} (h : g_aJ L V k a x = some y) (kk : vW E base bA nL p l e R s m args below meth c cells slots Q L V (pc + 1) lv (tJ y :: st)) : vW E base bA nL p l e R s m args below meth c cells slots Q L V pc lv (tI x :: tR (some a) :: st) := by
  intro H locs ls h1 h2 h3
  obtain ⟨hx, hb, hml, hown, hts, hK, hbs, hlk⟩ := C
  obtain ⟨hc, j, hj⟩ := A
  obtain ⟨i, g1, g2⟩ := g_aJ_spec h
  obtain ⟨n, hn, hin, rfl, hlt⟩ := g_ix_spec g1
  exact W.lald (v := .long y) hx hb ((h1.2.1 k a n hn).2.2 hc) ((hK.1.2 j _ (hj E)).1 n _) (fun q => by cases q) (by rw [arrV_size]; exact hin) (by rw [arrV_read _ _ hlt]; exact congrArg (fun z => some (g_val z)) g2) rfl rfl hd (kk H locs ls h1 h2 h3)
theorem r_zald (C : gC E bA p s m args meth c cc own nL) {k a : Nat} (A : gAk k .boolean) (hd : decode cc pc = .ok (.baload, 1)) {x y : Int32} (h : g_aI L V k a x = some y) (kk : vW E base bA nL p l e R s m args below meth c cells slots Q L V (pc + 1) lv (tI y :: st)) : vW E base bA nL p l e R s m args below meth c cells slots Q L V pc lv (tI x :: tR (some a) :: st) := by
  intro H locs ls h1 h2 h3
  obtain ⟨hx, hb, hml, hown, hts, hK, hbs, hlk⟩ := C
  obtain ⟨hc, j, hj⟩ := A
  obtain ⟨i, g1, g2⟩ := g_aI_spec h
  obtain ⟨n, hn, hin, rfl, hlt⟩ := g_ix_spec g1
  exact W.zald (v := .int y) hx hb ((h1.2.1 k a n hn).2.2 hc) ((hK.1.2 j _ (hj E)).1 n _) (fun q => by cases q) (by rw [arrV_size]; exact hin) (by rw [arrV_read _ _ hlt]; exact congrArg (fun z => some (g_val z)) g2) rfl rfl hd (kk H locs ls h1 h2 h3)
theorem r_aald (C : gC E bA p s m args meth c cc own nL) {k a : Nat} {ty : FieldType} (A : gAk k ty) (hty : ty.isReference = true) (hd : decode cc pc = .ok (.aaload, 1)) {x : Int32} {y : Option Nat} (h : g_aR L V k a x = some y) (kk : vW E base bA nL p l e R s m args below meth c cells slots Q L V (pc + 1) lv (tR y :: st)) : vW E base bA nL p l e R s m args below meth c cells slots Q L V pc lv (tI x :: tR (some a) :: st) := by
  intro H locs ls h1 h2 h3
  obtain ⟨hx, hb, hml, hown, hts, hK, hbs, hlk⟩ := C
  obtain ⟨hc, j, hj⟩ := A
  obtain ⟨i, g1, g2⟩ := g_aR_spec h
  obtain ⟨n, hn, hin, rfl, hlt⟩ := g_ix_spec g1
  exact W.aald (v := va_rf y) hx hb ((h1.2.1 k a n hn).2.2 hc) ((hK.1.2 j _ (hj E)).1 n _) hty (fun q => by cases q) (by rw [arrV_size]; exact hin) (by rw [arrV_read _ _ hlt]; exact congrArg (fun z => some (g_val z)) g2) rfl rfl hd (kk H locs ls h1 h2 h3)
theorem r_alen (C : gC E bA p s m args meth c cc own nL) {k a n : Nat} {ty : FieldType} (A : gAk k ty) (hd : decode cc pc = .ok (.arraylength, 1)) (h : L.2 k a = some n) (kk : vW E base bA nL p l e R s m args below meth c cells slots Q L V (pc + 1) lv (tI (nI n) :: st)) : vW E base bA nL p l e R s m args below meth c cells slots Q L V pc lv (tR (some a) :: st) := by
  intro H locs ls h1 h2 h3
  obtain ⟨hx, hb, hml, hown, hts, hK, hbs, hlk⟩ := C
  obtain ⟨hc, j, hj⟩ := A
  exact W.alen (n := nI n) hx hb ((h1.2.1 k a n h).2.2 hc) ((hK.1.2 j _ (hj E)).1 n _) (by rw [arrV_size]; rfl) rfl rfl hd (kk H locs ls h1 h2 h3)
theorem g_arr_put {k a n i : Nat} {H H1 : Heap} {t : gT} {v : Value} (hv : g_val t = v) (hc : g_cl[k]? = none) (h1 : g_hp E base L V H) (hn : L.2 k a = some n) (e : H1[a]? = some ((arrV (E.2.2 k) n (g_f V k a)).setSlot i v)) (z : H1.size = H.size) (oq : ∀ q : Nat, q ≠ a → H1[q]? = H[q]?) : g_hp E base L (g_st V k a i t) H1 := by
  refine h1.put hn z oq ⟨fun r hr => (by rw [hc] at hr; cases hr), fun _ => ?_⟩
  rw [e, arrV_store, hv]
theorem r_iast (C : gC E base p s m args meth c cc own nL) {k a : Nat} (A : gAk k .int) (hd : decode cc pc = .ok (.iastore, 1)) {x y : Int32} {V' : gV} (h : g_wa L V k a x (tI y) = some V') (kk : vW E base base nL p l e R s m args below meth c cells slots Q L V' (pc + 1) lv st) : vW E base base nL p l e R s m args below meth c cells slots Q L V pc lv (tI y :: tI x :: tR (some a) :: st) := by
  intro H locs ls h1 h2 h3
  obtain ⟨hx, hb, hml, hown, hts, hK, hbs, hlk⟩ := C
  obtain ⟨hc, j, hj⟩ := A
  obtain ⟨i, n, hn, hin, rfl, hlt, rfl⟩ := g_wa_spec h
  exact W.iast hx hb ((h1.2.1 k a n hn).2.2 hc) ((hK.1.2 j _ (hj E)).1 n _) (fun q => by cases q) (by rw [arrV_size]; exact hin) rfl rfl hd fun H1 e z oq => kk H1 _ ls (g_arr_put (t := tI y) rfl hc h1 hn e z oq) (h2.put z oq (h1.2.1 k a n hn).1) h3
theorem r_last (C : gC E base p s m args meth c cc own nL) {k a : Nat} (A : gAk k .long) (hd : decode cc pc = .ok (.lastore, 1)) {x : Int32} {y : Int64} {V' : gV} (h : g_wa L V k a x (tJ y) = some V') (kk : vW E base base nL p l e R s m args below meth c cells slots Q L V' (pc + 1) lv st) : vW E base base nL p l e R s m args below meth c cells slots Q L V pc lv (tJ y :: tI x :: tR (some a) :: st) := by
  intro H locs ls h1 h2 h3
  obtain ⟨hx, hb, hml, hown, hts, hK, hbs, hlk⟩ := C
  obtain ⟨hc, j, hj⟩ := A
  obtain ⟨i, n, hn, hin, rfl, hlt, rfl⟩ := g_wa_spec h
  exact W.last hx hb ((h1.2.1 k a n hn).2.2 hc) ((hK.1.2 j _ (hj E)).1 n _) (fun q => by cases q) (by rw [arrV_size]; exact hin) rfl rfl hd fun H1 e z oq => kk H1 _ ls (g_arr_put (t := tJ y) rfl hc h1 hn e z oq) (h2.put z oq (h1.2.1 k a n hn).1) h3
theorem r_zast (C : gC E base p s m args meth c cc own nL) {k a : Nat} (A : gAk k .boolean) (hd : decode cc pc = .ok (.bastore, 1)) {x y : Int32} {V' : gV} (hy : y = 0 ∨ y = 1) (h : g_wa L V k a x (tI y) = some V') (kk : vW E base base nL p l e R s m args below meth c cells slots Q L V' (pc + 1) lv st) : vW E base base nL p l e R s m args below meth c cells slots Q L V pc lv (tI y :: tI x :: tR (some a) :: st) := by
  intro H locs ls h1 h2 h3
  obtain ⟨hx, hb, hml, hown, hts, hK, hbs, hlk⟩ := C
  obtain ⟨hc, j, hj⟩ := A
  obtain ⟨i, n, hn, hin, rfl, hlt, rfl⟩ := g_wa_spec h
  have hnz : narrow .boolean (.int y) = g_val (tI y) := (g_nZ hy).1
  exact W.zast hx hb ((h1.2.1 k a n hn).2.2 hc) ((hK.1.2 j _ (hj E)).1 n _) (fun q => by cases q) (by rw [arrV_size]; exact hin) rfl rfl hd fun H1 e z oq => kk H1 _ ls (g_arr_put (t := tI y) rfl hc h1 hn (by rw [hnz] at e; exact e) z oq) (h2.put z oq (h1.2.1 k a n hn).1) h3
theorem r_aast (C : gC E base p s m args meth c cc own nL) {k a kv v : Nat} {Cn : String} (A : gAk k (.object Cn)) (hcv : ∃ (T : u_T) (N : Nat), g_cl[kv]? = some (Cn, T, N)) (hd : decode cc pc = .ok (.aastore, 1)) {x : Int32} {nv : Nat} (hv : L.2 kv v = some nv) {V' : gV} (h : g_wa L V k a x (tR (some v)) = some V') (kk : vW E base base nL p l e R s m args below meth c cells slots Q L V' (pc + 1) lv st) : vW E base base nL p l e R s m args below meth c cells slots Q L V pc lv (tR (some v) :: tI x :: tR (some a) :: st) := by
  intro H locs ls h1 h2 h3
  obtain ⟨hx, hb, hml, hown, hts, hK, hbs, hlk⟩ := C
  obtain ⟨hc, j, hj⟩ := A
  obtain ⟨T, N, hcv⟩ := hcv
  obtain ⟨i, n, hn, hin, rfl, hlt, rfl⟩ := g_wa_spec h
  have h0 : ¬ x < 0 := fun q => hin (Or.inl q)
  obtain ⟨-, cellV, g1, g2, g3, -⟩ := (h1.2.1 kv v nv hv).2.1 _ hcv
  have hcls := (hK.1.1 kv _ hcv).2
  obtain ⟨kA, comp, k1, k2, k3, -⟩ := (hK.1.2 j _ (hj E)).2
  have hcomp : comp = E.1 kv := Option.some.inj (k3.symm.trans hcls.1)
  subst hcomp
  obtain ⟨kC, hkC, -⟩ := hcls.2
  exact W.aast hx hb ((h1.2.1 k a n hn).2.2 hc) (fun q h => by cases h) (fun h => by cases h) k1 k2 rfl hkC ⟨h0, by rw [arrV_size]; exact hlt⟩ g1 (fun q h => by rw [g3] at h; cases h) (by rw [g2]; exact hkC) (by rw [g2]; exact va_assign hcls) rfl rfl hd fun H1 e z oq => kk H1 _ ls (g_arr_put (t := tR (some v)) rfl hc h1 hn e z oq) (h2.put z oq (h1.2.1 k a n hn).1) h3
-- new cells
theorem g_S_new {H H1 : Heap} {locs : List Loc} (h2 : va_S (g_A base) s.heap H locs) (z : H1.size = H.size + 1) (oq : ∀ q : Nat, q < H.size → H1[q]? = H[q]?) : va_S (g_A base) s.heap H1 locs :=
  ⟨Nat.le_trans h2.1 (by omega), fun x a1 a2 => (oq x (Nat.lt_of_lt_of_le a1 h2.1)).trans (h2.2.1 x a1 a2), h2.2.2⟩
theorem r_new (C : gC E base p s m args meth c cc own nL) {index k N : Nat} {d : Nat → gT} (F : gNw own index k N d) (hd : decode cc pc = .ok (.new index, 3)) {L' : gL} {V' : gV} (h : g_new L V k N d = some (L', V')) (hcells : cells + 1 ≤ R.cells) (hslots : slots + N ≤ R.slots) (kk : vW E base base nL p l e R s m args below meth c (cells + 1) (slots + N) Q L' V' (pc + 3) lv (tR (some L.1) :: st)) : vW E base base nL p l e R s m args below meth c cells slots Q L V pc lv st := by
  intro H locs ls h1 h2 h3
  obtain ⟨hx, hb, hml, hown, hts, hK, hbs, hlk⟩ := C
  obtain ⟨Cn, T, t, hc, hin, hty, w1, w2, w3, hdf⟩ := F
  cases h
  have hKn := hK.1.1 k _ hc
  refine W.newcK hx hb hown (hts _ w1) (hts _ w2) (hts _ w3) rfl hd hcells hslots hKn.2.1 rfl fun H1 kC hkC e1 z1 o1 => ?_
  have hz : H.size = L.1 := h1.1
  have hh := kk H1 locs ls (h1.new (Nat.le_trans hbs h2.1) z1 o1 ⟨fun r hr => ?_, fun hnn => by rw [hc] at hnn; cases hnn⟩) (g_S_new h2 z1 o1) h3
  · rw [← hz] at hh
    exact hh
  · have hre : r = (Cn, T, N) := Option.some.inj (hr.symm.trans hc)
    subst hre
    exact ⟨rfl, (u_born t hts hin hKn hkC e1 hty).to hdf⟩
theorem r_newa (C : gC E base p s m args meth c cc own nL) {k N : Nat} {at_ : ArrayType} {ty : FieldType} (hty : newarray.typeOf at_ = ty) (A : gAk k ty) (hnr : ∀ Cn, ty ≠ .object Cn) (w : Cond.arrayClass ty ∈ g_tb) (hd : decode cc pc = .ok (.newarray at_, 2)) {n : Int32} (hn0 : ¬ n < 0) (hN : n.toNatClampNeg = N) (hby : N * componentBytes ty ≤ 536870912) {dv : gT} (hdv : defaultValue ty = g_val dv) {L' : gL} {V' : gV} (h : g_new L V k N (fun _ => dv) = some (L', V')) (hcells : cells + 1 ≤ R.cells) (hslots : slots + N ≤ R.slots) (kk : vW E base base nL p l e R s m args below meth c (cells + 1) (slots + N) Q L' V' (pc + 2) lv (tR (some L.1) :: st)) : vW E base base nL p l e R s m args below meth c cells slots Q L V pc lv (tI n :: st) := by
  intro H locs ls h1 h2 h3
  obtain ⟨hx, hb, hml, hown, hts, hK, hbs, hlk⟩ := C
  obtain ⟨hc, j, hj⟩ := A
  cases h
  subst hty
  refine va_newaK hx hb (hts _ w) rfl hd rfl hn0 hN hby hcells hslots rfl fun H1 cA e1 z1 o1 hAr hNm => ?_
  have hcA : cA = E.2.2 k := by
    have h9 := (hK.1.2 j _ (hj E)).2
    have h8 : s.vm.findClass ("[" ++ (newarray.typeOf at_).toString) = some (E.2.2 k) := by
      cases at_ <;> exact h9
    exact Option.some.inj (hNm.symm.trans h8)
  subst hcA
  have hz : H.size = L.1 := h1.1
  have hh := kk H1 locs ls (h1.new (Nat.le_trans hbs h2.1) z1 o1 ⟨fun r hr => (by rw [hc] at hr; cases hr), fun _ => ?_⟩) (g_S_new h2 z1 o1) h3
  · rw [← hz] at hh
    exact hh
  · rw [e1, hdv]
theorem r_anew (C : gC E base p s m args meth c cc own nL) {k N index : Nat} {Cn : String} (A : gAk k (.object Cn)) (w1 : Cond.classLink own index Cn ∈ g_tb) (w2 : Cond.arrayOver (.object Cn) ∈ g_tb) (hd : decode cc pc = .ok (.anewarray index, 3)) {n : Int32} (hn0 : ¬ n < 0) (hN : n.toNatClampNeg = N) (hby : N * 4 ≤ 536870912) {L' : gL} {V' : gV} (h : g_new L V k N (fun _ => tR none) = some (L', V')) (hcells : cells + 1 ≤ R.cells) (hslots : slots + N ≤ R.slots) (kk : vW E base base nL p l e R s m args below meth c (cells + 1) (slots + N) Q L' V' (pc + 3) lv (tR (some L.1) :: st)) : vW E base base nL p l e R s m args below meth c cells slots Q L V pc lv (tI n :: st) := by
  intro H locs ls h1 h2 h3
  obtain ⟨hx, hb, hml, hown, hts, hK, hbs, hlk⟩ := C
  obtain ⟨hc, j, hj⟩ := A
  cases h
  subst hN
  refine W.anew hx hb hown (hts _ w1) (hts _ w2) rfl hd rfl hn0 hby hcells hslots fun cA kA comp f1 f2 f3 f4 => ?_
  generalize hH1 : H.push ({ cls := cA, slots := Array.replicate n.toNatClampNeg .null, vm := .none } : Cell) = H1
  have z1 : H1.size = H.size + 1 := by rw [← hH1, Array.size_push]
  have e1 : H1[H.size]? = some (arrV cA n.toNatClampNeg (fun _ => .null)) := by rw [← hH1, Array.getElem?_push_size, ← arrV_new]
  have o1 : ∀ q : Nat, q < H.size → H1[q]? = H[q]? := fun q hq => by rw [← hH1, Array.getElem?_push, if_neg (Nat.ne_of_lt hq)]
  have hcA : cA = E.2.2 k := by
    obtain ⟨-, -, -, -, -, h8⟩ := (hK.1.2 j _ (hj E)).2
    exact Option.some.inj (f1.symm.trans h8)
  subst hcA
  have hz : H.size = L.1 := h1.1
  have hh := kk H1 locs ls (h1.new (Nat.le_trans hbs h2.1) z1 o1 ⟨fun r hr => (by rw [hc] at hr; cases hr), fun _ => e1⟩) (g_S_new h2 z1 o1) h3
  rw [← hz] at hh
  exact hh
theorem r_objInit (C : gC E bA p s m args meth c cc own nL) {index a : Nat} (w1 : Cond.methodLink own index Lib.objectInit ∈ g_tb) (w2 : Cond.instanceMethod Lib.objectInit ∈ g_tb) (w3 : Cond.code Lib.objectInit ⟨#[0xb1]⟩ 1 none ∈ g_tb) (hd : decode cc pc = .ok (.invokespecial index, 3)) (hf : 1 ≤ R.frames) (hlo : (st.map fun t => (g_val t).category).sum + 12 ≤ R.locals) (kk : vW E base bA nL p l e R s m args below meth c cells slots Q L V (pc + 3) lv st) : vW E base bA nL p l e R s m args below meth c cells slots Q L V pc lv (tR (some a) :: st) := by
  intro H locs ls h1 h2 h3
  obtain ⟨hx, hb, hml, hown, hts, hK, hbs, hlk⟩ := C
  refine W.objInit (a := a) (rest := st.map g_val) hx hb hown (hts _ w1) (hts _ w2) (hts _ w3) rfl (by rw [hml]; exact h3.1) rfl hd hf ?_ (kk H locs ls h1 h2 h3)
  rw [List.map_map]
  show 2 * 0 + (st.map fun t => (g_val t).category).sum + 12 ≤ R.locals
  omega
theorem r_mmin (C : gC E bA p s m args meth c cc own nL) {index : Nat} (w1 : Cond.methodLink own index Lib.Math.min.name ∈ g_tb) (w2 : Cond.static Lib.Math.min.name ∈ g_tb) (w3 : Cond.initialized "java/lang/Math" ∈ g_tb) (w4 : Cond.code Lib.Math.min.name Lib.Math.min.code 2 (some .int) ∈ g_tb) {x y : Int32} (hd : decode cc pc = .ok (.invokestatic index, 3)) (hf : 1 ≤ R.frames) (hlo : (st.map fun t => (g_val t).category).sum + 13 ≤ R.locals) (hc : cells ≤ R.cells) (hs : slots ≤ R.slots) (kk : vW E base bA nL p l e R s m args below meth c cells slots Q L V (pc + 3) lv (tI (if y < x then y else x) :: st)) : vW E base bA nL p l e R s m args below meth c cells slots Q L V pc lv (tI y :: tI x :: st) := by
  intro H locs ls h1 h2 h3
  obtain ⟨hx, hb, hml, hown, hts, hK, hbs, hlk⟩ := C
  exact va_mmin (rest := st.map g_val) hx hb (by rw [hml]; exact h3.1.symm) hown (hts _ w1) (hts _ w2) (hts _ w3) (hts _ w4) hf (by rw [List.map_map]; exact hlo) hc hs hd (kk H locs ls h1 h2 h3)
-- returns
theorem g_end (C : gC E bA p s m args meth c cc own nL) {H : Heap} {locs : List Loc} (h1 : g_hp E base L V H) (h2 : va_S (g_A bA) s.heap H locs) (o : Option gT) (t : State) (ht : t.heap = H) (hW : s.WarmedH t.vm) : g_out E base bA L V o args s (.returned (o.map g_val)) t :=
  ⟨rfl, ⟨by rw [ht]; exact h1, g_K.warm hW C.2.2.2.2.2.1⟩, h2.F ht⟩
theorem r_iret (C : gC E bA p s m args meth c cc own nL) (hr : meth.sig.returnType = some .int) (hd : decode cc pc = .ok (.ireturn, 1)) {x : Int32} : vW E base bA nL p l e R s m args below meth c cells slots (g_MQ E base bA below args s cells slots L V (some (tI x))) L V pc lv [tI x] :=
  fun H locs ls h1 h2 h3 => W.iret C.1 C.2.1 hr (fun t ht hW => g_end C h1 h2 (some (tI x)) t ht hW) h2.2.2 hd C.2.2.2.2.2.2.2
theorem r_zret (C : gC E bA p s m args meth c cc own nL) (hr : meth.sig.returnType = some .boolean) (hd : decode cc pc = .ok (.ireturn, 1)) {x : Int32} (hz : x = 0 ∨ x = 1) : vW E base bA nL p l e R s m args below meth c cells slots (g_MQ E base bA below args s cells slots L V (some (tI x))) L V pc lv [tI x] :=
  fun H locs ls h1 h2 h3 => W.zret C.1 C.2.1 hr (g_nZ hz).1 (fun t ht hW => g_end C h1 h2 (some (tI x)) t ht hW) h2.2.2 hd C.2.2.2.2.2.2.2
theorem r_lret (C : gC E bA p s m args meth c cc own nL) (hr : meth.sig.returnType = some .long) (hd : decode cc pc = .ok (.lreturn, 1)) {x : Int64} : vW E base bA nL p l e R s m args below meth c cells slots (g_MQ E base bA below args s cells slots L V (some (tJ x))) L V pc lv [tJ x] :=
  fun H locs ls h1 h2 h3 => W.lret C.1 C.2.1 hr (fun t ht hW => g_end C h1 h2 (some (tJ x)) t ht hW) h2.2.2 hd C.2.2.2.2.2.2.2
theorem r_vret (C : gC E bA p s m args meth c cc own nL) (hr : meth.sig.returnType = none) (hd : decode cc pc = .ok (.return_, 1)) : vW E base bA nL p l e R s m args below meth c cells slots (g_MQ E base bA below args s cells slots L V none) L V pc lv [] :=
  fun H locs ls h1 h2 h3 => W.vret C.1 C.2.1 hr (fun t ht hW => g_end C h1 h2 none t ht hW) h2.2.2 hd C.2.2.2.2.2.2.2
theorem r_aret (C : gC E bA p s m args meth c cc own nL) {Cn : String} (hr : meth.sig.returnType = some (.object Cn)) (hd : decode cc pc = .ok (.areturn, 1)) {x : Option Nat} : vW E base bA nL p l e R s m args below meth c cells slots (g_MQ E base bA below args s cells slots L V (some (tR x))) L V pc lv [tR x] :=
  fun H locs ls h1 h2 h3 => W.aret C.1 C.2.1 hr (Or.inl ⟨_, rfl⟩) (by cases x with | none => exact Or.inl rfl | some a => exact Or.inr ⟨a, rfl⟩) (fun t ht hW => g_end C h1 h2 (some (tR x)) t ht hW) h2.2.2 hd C.2.2.2.2.2.2.2
end GF
-- entry
theorem g_blind {E : gE} {base bA : Nat} {L : gL} {V : gV} {as : List Value} : FrameBlind (va_Pc as (g_in E base bA L V)) :=
  fun a U g mk q => ⟨q.1, q.2.1, g_K.same (s := U) (U := U.calling g mk a) rfl q.2.2.1, q.2.2.2⟩
theorem r_enter {l : Launch} {E : gE} {base bA : Nat} {y : MethodName} {b : ByteArray} {mL : Nat} {ret : Option FieldType} {rm : Room} {L : gL} {V : gV} {o : Option gT} {L' : gL} {V' : gV} (own : String) (hy : plainName y.cls = true) (hown : y.cls = own) (as : List gT) (lv : List (Nat × gT)) (hlv : lv_args 0 (as.map g_val) = lv.map g_q) (hln : (lg_sl (as.map g_val)).length ≤ mL)
    (body : ∀ (p : Program) (e : Env) (s : State) (m : MethodId) (args : Array Value) (below : List Frame) (meth : Method) (c : Code), gC E bA p s m args meth c b own mL → meth.sig.returnType = ret → meth.name = y.name → vW E base bA mL p l e rm s m args below meth c 0 0 (g_MQ E base bA below args s rm.cells rm.slots L' V' o) L V 0 lv []) : g_Met l E base bA y b mL ret rm as L V o L' V' := by
  refine Met.ofW (cc := b) (maxL := mL) (ret := ret) hy rfl ?_
  intro p e s m args below meth c s₁ B hml hv
  obtain ⟨rfl, hP, hK, hbs⟩ := hv
  have hts := atoms_spec (ws := g_w y b mL ret) B.pre
  have hnm : s.vm.findClass y.cls = some m.cls := findClass_of_methodNamed B.named
  have hname : meth.name = y.name := (name_of_methodNamed B.named B.method).1
  have hl := lv_entry (as.map g_val) (n := mL) hln
  rw [hlv] at hl
  rw [lg_entry_eq]
  exact body p e s m _ below meth c ⟨B.exec, B.bytes, hml, by rw [← hown]; exact hnm, fun w hw => hts w (List.mem_cons_of_mem _ hw), hK, hbs, B.notSynchronized⟩ B.returns hname s.heap [] _ hP va_S.rf hl
-- calls
def gM (own : String) (index : Nat) (y : MethodName) (n : Nat) : Prop := Cond.methodLink own index y ∈ g_tb ∧ Cond.initialized y.cls ∈ g_tb ∧ (y.cls ≠ "java/lang/invoke/MethodHandle" ∧ y.cls ≠ "java/lang/invoke/VarHandle" ∧ (parseMethodDescriptor y.desc).map (fun d => d.parameters.length) = some n)
section GK
variable {E : gE} {base bA nL : Nat} {p : Program} {l : Launch} {e : Env} {R : Room} {s : State} {m : MethodId} {args : Array Value} {below : List Frame} {meth : Method} {c : Code} {cells slots : Nat} {Q : State → Prop} {cc : ByteArray} {own : String} {L : gL} {V : gV} {pc : Nat} {lv lv' : List (Nat × gT)} {st : List gT}
theorem r_run {st0 : List gT} {o : Option gT} {L' : gL} {V' : gV} {mc ms : Nat} {a : Array Value} (hr : ∀ (H : Heap) (locs : List Loc) (ls : Array Slot), g_hp E base L V H → va_S (g_A bA) s.heap H locs → lv_has ls nL (lv.map g_q) → va_Run p l e R s m args below meth c H locs cells slots mc ms (F0 m pc ls (st0.map g_val)) (st.map g_val) (g_out E base bA L' V' o a) (g_A bA)) (kk : vW E base bA nL p l e R s m args below meth c (cells + mc) (slots + ms) Q L' V' (pc + 3) lv (o.toList ++ st)) : vW E base bA nL p l e R s m args below meth c cells slots Q L V pc lv st0 := by
  intro H locs ls h1 h2 h3 T hT X
  obtain ⟨v, st₀, t, T', Ls, h0, X', hL, e1, e2, ⟨hv, ⟨hp', hK'⟩, hz, hk⟩, hst⟩ := hr H locs ls h1 h2 h3 T hT X
  have hv' : v = o.map g_val := Outcome.returned.inj hv
  subst hv'
  rw [h0] at hz hk
  have hw := kk T'.heap (locs ++ Ls) ls (by rw [e1]; exact hp') ⟨Nat.le_trans h2.1 (by rw [e1]; exact hz), fun q q1 q2 => by rw [e1, hk q (Nat.lt_of_lt_of_le q1 h2.1) q2]; exact h2.2.1 q q1 q2, fun q hq => by
    rcases List.mem_append.mp hq with h | h
    · exact h2.2.2 q h
    · exact hL q h⟩ h3
  obtain ⟨t2, a1, b1⟩ := hw T' rfl X'
  refine ⟨t2, hst t2 ?_, b1⟩
  cases o <;> exact a1
theorem g_good {y : MethodName} {b : ByteArray} {mL : Nat} {ret : Option FieldType} (hc : Cond.code y b mL ret ∈ g_tb) : GoodIn g_tb (g_w y b mL ret) := by
  intro w hw
  rcases List.mem_cons.mp hw with rfl | hw
  · exact g_allgood _ hc
  · exact g_allgood _ hw
theorem r_callV (C : gC E bA p s m args meth c cc own nL) {index k n mL a : Nat} {y : MethodName} {b : ByteArray} {ret : Option FieldType} {rm : Room} {As : List gT} {o : Option gT} {L' : gL} {V' : gV} (M : gM own index y n) (w1 : Cond.instanceMethod y ∈ g_tb) (w2 : Cond.selects y.cls y y ∈ g_tb) (w3 : Cond.code y b mL ret ∈ g_tb) (hcl : ∃ (T : u_T) (N : Nat), g_cl[k]? = some (y.cls, T, N)) (hM : g_Met l E base bA y b mL ret rm (tR (some a) :: As) L V o L' V') (hd : decode cc pc = .ok (.invokevirtual index, 3)) {na : Nat} (ha : L.2 k a = some na) (hn : As.length = n) (hR : rm.frames + 1 ≤ R.frames ∧ 8 + (mL + 11) + rm.locals ≤ R.locals) (hW : (st.map fun t => (g_val t).category).sum ≤ 8) (hc : cells + rm.cells ≤ R.cells) (hs : slots + rm.slots ≤ R.slots) {st0 : List gT} (hst : st0 = As.reverse ++ tR (some a) :: st) (kk : vW E base bA nL p l e R s m args below meth c (cells + rm.cells) (slots + rm.slots) Q L' V' (pc + 3) lv (o.toList ++ st)) : vW E base bA nL p l e R s m args below meth c cells slots Q L V pc lv st0 := by
  subst hst
  refine r_run (a := (Value.ref a :: As.map g_val).toArray) (fun H locs ls h1 h2 h3 => ?_) kk
  obtain ⟨hx, hb, hml, hown, hts, hK, hbs, hlk⟩ := C
  obtain ⟨T, N, hcl⟩ := hcl
  obtain ⟨-, cell, q1, q2, q3, -⟩ := (h1.2.1 k a na ha).2.1 _ hcl
  refine va_runV (C := y.cls) (As := As.map g_val) ⟨hx, hb, hml, hown, hts⟩ hM ⟨callB_of n hts (g_good w3) rfl rfl rfl (hts _ M.2.1) (hts _ M.1) M.2.2 hR, hts _ w1, hts _ w2⟩ ⟨g_blind, ⟨cell, q1, by rw [q3]; rfl, by rw [q2]; exact (hK.1.1 k _ hcl).2.1⟩, fun U hU hWm => ⟨rfl, by rw [hU]; exact h1, hK.warm hWm, by rw [hU]; exact Nat.le_trans hbs h2.1⟩⟩ rfl (by rw [List.length_map]; exact hn) h3.1 ?_ ?_ hd ⟨hc, hs⟩
  · show (As.reverse ++ tR (some a) :: st).map g_val = _
    rw [List.map_append, List.map_reverse]; rfl
  · rw [List.map_map]
    show 2 * 0 + (st.map fun t => (g_val t).category).sum ≤ 8
    omega
theorem r_callS (C : gC E bA p s m args meth c cc own nL) {index n mL : Nat} {y : MethodName} {b : ByteArray} {ret : Option FieldType} {rm : Room} {As : List gT} {o : Option gT} {L' : gL} {V' : gV} (M : gM own index y n) (w1 : Cond.static y ∈ g_tb) (w3 : Cond.code y b mL ret ∈ g_tb) (hM : g_Met l E base bA y b mL ret rm As L V o L' V') (hd : decode cc pc = .ok (.invokestatic index, 3)) (hn : As.length = n) (hR : rm.frames + 1 ≤ R.frames ∧ 8 + (mL + 11) + rm.locals ≤ R.locals) (hW : (st.map fun t => (g_val t).category).sum ≤ 8) (hc : cells + rm.cells ≤ R.cells) (hs : slots + rm.slots ≤ R.slots) {st0 : List gT} (hst : st0 = As.reverse ++ st) (kk : vW E base bA nL p l e R s m args below meth c (cells + rm.cells) (slots + rm.slots) Q L' V' (pc + 3) lv (o.toList ++ st)) : vW E base bA nL p l e R s m args below meth c cells slots Q L V pc lv st0 := by
  subst hst
  refine r_run (a := (As.map g_val).toArray) (fun H locs ls h1 h2 h3 => ?_) kk
  obtain ⟨hx, hb, hml, hown, hts, hK, hbs, hlk⟩ := C
  refine va_runS (As := As.map g_val) ⟨hx, hb, hml, hown, hts⟩ hM ⟨callB_of n hts (g_good w3) rfl rfl rfl (hts _ M.2.1) (hts _ M.1) M.2.2 hR, hts _ w1⟩ ⟨g_blind, fun U hU hWm => ⟨rfl, by rw [hU]; exact h1, hK.warm hWm, by rw [hU]; exact Nat.le_trans hbs h2.1⟩⟩ rfl (by rw [List.length_map]; exact hn) h3.1 ?_ ?_ hd ⟨hc, hs⟩
  · show (As.reverse ++ st).map g_val = _
    rw [List.map_append, List.map_reverse]
  · rw [List.map_map]
    show 2 * 0 + (st.map fun t => (g_val t).category).sum ≤ 8
    omega
theorem r_callI (C : gC E bA p s m args meth c cc own nL) {index n mL a : Nat} {y : MethodName} {b : ByteArray} {rm : Room} {As : List gT} {L' : gL} {V' : gV} (M : gM own index y n) (hy1 : y.name = "<init>") (w1 : Cond.instanceMethod y ∈ g_tb) (w3 : Cond.code y b mL none ∈ g_tb) (hM : g_Met l E base bA y b mL none rm (tR (some a) :: As) L V none L' V') (hd : decode cc pc = .ok (.invokespecial index, 3)) (hn : As.length = n) (hR : rm.frames + 1 ≤ R.frames ∧ 8 + (mL + 11) + rm.locals ≤ R.locals) (hW : (st.map fun t => (g_val t).category).sum ≤ 8) (hc : cells + rm.cells ≤ R.cells) (hs : slots + rm.slots ≤ R.slots) {st0 : List gT} (hst : st0 = As.reverse ++ tR (some a) :: st) (kk : vW E base bA nL p l e R s m args below meth c (cells + rm.cells) (slots + rm.slots) Q L' V' (pc + 3) lv st) : vW E base bA nL p l e R s m args below meth c cells slots Q L V pc lv st0 := by
  subst hst
  refine r_run (o := none) (a := (Value.ref a :: As.map g_val).toArray) (fun H locs ls h1 h2 h3 => ?_) kk
  obtain ⟨hx, hb, hml, hown, hts, hK, hbs, hlk⟩ := C
  refine va_runI (As := As.map g_val) ⟨hx, hb, hml, hown, hts⟩ hM ⟨callB_of n hts (g_good w3) rfl rfl rfl (hts _ M.2.1) (hts _ M.1) M.2.2 hR, hy1, hts _ w1⟩ ⟨g_blind, fun U hU hWm => ⟨rfl, by rw [hU]; exact h1, hK.warm hWm, by rw [hU]; exact Nat.le_trans hbs h2.1⟩⟩ rfl (by rw [List.length_map]; exact hn) h3.1 ?_ ?_ hd ⟨hc, hs⟩
  · show (As.reverse ++ tR (some a) :: st).map g_val = _
    rw [List.map_append, List.map_reverse]; rfl
  · rw [List.map_map]
    show 2 * 0 + (st.map fun t => (g_val t).category).sum ≤ 8
    omega
theorem r_callIN (C : gC E bA p s m args meth c cc own nL) {index n mL a : Nat} {y : MethodName} {b : ByteArray} {rm : Room} {As : List gT} {L' : gL} {V' : gV} (hg : g_nest = .methodLinkNest own index y "EarlyCut") (w0 : Cond.initialized y.cls ∈ g_tb) (hdd : y.cls ≠ "java/lang/invoke/MethodHandle" ∧ y.cls ≠ "java/lang/invoke/VarHandle" ∧ (parseMethodDescriptor y.desc).map (fun d => d.parameters.length) = some n) (hy1 : y.name = "<init>") (w1 : Cond.instanceMethod y ∈ g_tb) (w3 : Cond.code y b mL none ∈ g_tb) (hM : g_Met l E base bA y b mL none rm (tR (some a) :: As) L V none L' V') (hd : decode cc pc = .ok (.invokespecial index, 3)) (hn : As.length = n) (hR : rm.frames + 1 ≤ R.frames ∧ 8 + (mL + 11) + rm.locals ≤ R.locals) (hW : (st.map fun t => (g_val t).category).sum ≤ 8) (hc : cells + rm.cells ≤ R.cells) (hs : slots + rm.slots ≤ R.slots) {st0 : List gT} (hst : st0 = As.reverse ++ tR (some a) :: st) (kk : vW E base bA nL p l e R s m args below meth c (cells + rm.cells) (slots + rm.slots) Q L' V' (pc + 3) lv st) : vW E base bA nL p l e R s m args below meth c cells slots Q L V pc lv st0 := by
  subst hst
  refine r_run (o := none) (a := (Value.ref a :: As.map g_val).toArray) (fun H locs ls h1 h2 h3 => ?_) kk
  obtain ⟨hx, hb, hml, hown, hts, hK, hbs, hlk⟩ := C
  have hl : va_Nw (.methodLinkNest own index y "EarlyCut") s := by rw [← hg]; exact hK.2
  refine va_runIN (As := As.map g_val) ⟨hx, hb, hml, hown, hts⟩ hM ⟨va_cnB n hts (g_good w3) rfl rfl rfl hl (hts _ w0) hdd hR, hy1, hts _ w1⟩ ⟨g_blind, fun U hU hWm => ⟨rfl, by rw [hU]; exact h1, hK.warm hWm, by rw [hU]; exact Nat.le_trans hbs h2.1⟩⟩ rfl (by rw [List.length_map]; exact hn) h3.1 ?_ ?_ hd ⟨hc, hs⟩
  · show (As.reverse ++ tR (some a) :: st).map g_val = _
    rw [List.map_append, List.map_reverse]; rfl
  · rw [List.map_map]
    show 2 * 0 + (st.map fun t => (g_val t).category).sum ≤ 8
    omega
end GK
end
