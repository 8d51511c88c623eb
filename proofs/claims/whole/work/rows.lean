section
-- ===== PART A: goes FIRST, ahead of the names: the tables' words, and 'selects' of the private methods out of them =====
/-- a private method of a class that the tables say can be made, by its rows of tables_1 -/
def lw_okq (q : MethodName × Nat) : Prop := (q.1.cls ≠ "java/lang/invoke/MethodHandle" ∧ q.1.cls ≠ "java/lang/invoke/VarHandle") ∧ Cond.instantiable q.1.cls q.2 ∈ tables_1 ∧ Cond.privateMethod q.1 ∈ tables_1 ∧ Cond.instanceMethod q.1 ∈ tables_1
theorem lw_p0 : lw_okq (⟨"FrankDesk$Journal", "startSector", "(II)Z"⟩, 5) := ⟨⟨by decide +kernel, by decide +kernel⟩, List.mem_of_getElem? (i := 84) (by decide +kernel), List.mem_of_getElem? (i := 90) (by decide +kernel), List.mem_of_getElem? (i := 91) (by decide +kernel)⟩
theorem lw_p1 : lw_okq (⟨"FrankDesk$Memory", "spendOne", "()Z"⟩, 7) := ⟨⟨by decide +kernel, by decide +kernel⟩, List.mem_of_getElem? (i := 39) (by decide +kernel), List.mem_of_getElem? (i := 102) (by decide +kernel), List.mem_of_getElem? (i := 103) (by decide +kernel)⟩
theorem lw_p2 : lw_okq (⟨"FrankDesk$Journal", "writeBooks", "(I)Z"⟩, 5) := ⟨⟨by decide +kernel, by decide +kernel⟩, List.mem_of_getElem? (i := 84) (by decide +kernel), List.mem_of_getElem? (i := 110) (by decide +kernel), List.mem_of_getElem? (i := 111) (by decide +kernel)⟩
theorem lw_p3 : lw_okq (⟨"FrankDesk$Journal", "hasRoom", "()Z"⟩, 5) := ⟨⟨by decide +kernel, by decide +kernel⟩, List.mem_of_getElem? (i := 84) (by decide +kernel), List.mem_of_getElem? (i := 190) (by decide +kernel), List.mem_of_getElem? (i := 191) (by decide +kernel)⟩
theorem lw_p4 : lw_okq (⟨"FrankDesk$Books", "addPiece", "(II)V"⟩, 1) := ⟨⟨by decide +kernel, by decide +kernel⟩, List.mem_of_getElem? (i := 70) (by decide +kernel), List.mem_of_getElem? (i := 206) (by decide +kernel), List.mem_of_getElem? (i := 207) (by decide +kernel)⟩
theorem lw_p5 : lw_okq (⟨"FrankDesk$Books", "addToSum", "(II)V"⟩, 1) := ⟨⟨by decide +kernel, by decide +kernel⟩, List.mem_of_getElem? (i := 70) (by decide +kernel), List.mem_of_getElem? (i := 210) (by decide +kernel), List.mem_of_getElem? (i := 211) (by decide +kernel)⟩
theorem lw_p6 : lw_okq (⟨"FrankDesk$Books", "addOne", "(I)V"⟩, 1) := ⟨⟨by decide +kernel, by decide +kernel⟩, List.mem_of_getElem? (i := 70) (by decide +kernel), List.mem_of_getElem? (i := 220) (by decide +kernel), List.mem_of_getElem? (i := 221) (by decide +kernel)⟩
theorem lw_p7 : lw_okq (⟨"FrankDesk$Books", "addToDay", "(II)V"⟩, 1) := ⟨⟨by decide +kernel, by decide +kernel⟩, List.mem_of_getElem? (i := 70) (by decide +kernel), List.mem_of_getElem? (i := 227) (by decide +kernel), List.mem_of_getElem? (i := 228) (by decide +kernel)⟩
theorem lw_p8 : lw_okq (⟨"FrankDesk$Books", "settleFor", "(I)V"⟩, 1) := ⟨⟨by decide +kernel, by decide +kernel⟩, List.mem_of_getElem? (i := 70) (by decide +kernel), List.mem_of_getElem? (i := 234) (by decide +kernel), List.mem_of_getElem? (i := 235) (by decide +kernel)⟩
theorem lw_p9 : lw_okq (⟨"FrankDesk", "mayFrank", "(III)Z"⟩, 7) := ⟨⟨by decide +kernel, by decide +kernel⟩, List.mem_of_getElem? (i := 10) (by decide +kernel), List.mem_of_getElem? (i := 254) (by decide +kernel), List.mem_of_getElem? (i := 255) (by decide +kernel)⟩
theorem lw_p10 : lw_okq (⟨"FrankDesk", "isLocked", "()Z"⟩, 7) := ⟨⟨by decide +kernel, by decide +kernel⟩, List.mem_of_getElem? (i := 10) (by decide +kernel), List.mem_of_getElem? (i := 269) (by decide +kernel), List.mem_of_getElem? (i := 270) (by decide +kernel)⟩
theorem lw_p11 : lw_okq (⟨"FrankDesk", "isUncertain", "()Z"⟩, 7) := ⟨⟨by decide +kernel, by decide +kernel⟩, List.mem_of_getElem? (i := 10) (by decide +kernel), List.mem_of_getElem? (i := 273) (by decide +kernel), List.mem_of_getElem? (i := 274) (by decide +kernel)⟩
theorem lw_p12 : lw_okq (⟨"FrankDesk$Journal", "newestSector", "()I"⟩, 5) := ⟨⟨by decide +kernel, by decide +kernel⟩, List.mem_of_getElem? (i := 84) (by decide +kernel), List.mem_of_getElem? (i := 364) (by decide +kernel), List.mem_of_getElem? (i := 365) (by decide +kernel)⟩
theorem lw_p13 : lw_okq (⟨"FrankDesk$Journal", "isMarked", "(I)Z"⟩, 5) := ⟨⟨by decide +kernel, by decide +kernel⟩, List.mem_of_getElem? (i := 84) (by decide +kernel), List.mem_of_getElem? (i := 368) (by decide +kernel), List.mem_of_getElem? (i := 369) (by decide +kernel)⟩
theorem lw_p14 : lw_okq (⟨"FrankDesk$Journal", "isNewer", "(II)Z"⟩, 5) := ⟨⟨by decide +kernel, by decide +kernel⟩, List.mem_of_getElem? (i := 84) (by decide +kernel), List.mem_of_getElem? (i := 372) (by decide +kernel), List.mem_of_getElem? (i := 373) (by decide +kernel)⟩
theorem lw_p15 : lw_okq (⟨"FrankDesk$Journal", "isNextRecord", "(I)Z"⟩, 5) := ⟨⟨by decide +kernel, by decide +kernel⟩, List.mem_of_getElem? (i := 84) (by decide +kernel), List.mem_of_getElem? (i := 377) (by decide +kernel), List.mem_of_getElem? (i := 378) (by decide +kernel)⟩
def lw_privs_1 : List (MethodName × Nat) := [(⟨"FrankDesk$Journal", "startSector", "(II)Z"⟩, 5), (⟨"FrankDesk$Memory", "spendOne", "()Z"⟩, 7), (⟨"FrankDesk$Journal", "writeBooks", "(I)Z"⟩, 5), (⟨"FrankDesk$Journal", "hasRoom", "()Z"⟩, 5), (⟨"FrankDesk$Books", "addPiece", "(II)V"⟩, 1), (⟨"FrankDesk$Books", "addToSum", "(II)V"⟩, 1), (⟨"FrankDesk$Books", "addOne", "(I)V"⟩, 1), (⟨"FrankDesk$Books", "addToDay", "(II)V"⟩, 1), (⟨"FrankDesk$Books", "settleFor", "(I)V"⟩, 1), (⟨"FrankDesk", "mayFrank", "(III)Z"⟩, 7), (⟨"FrankDesk", "isLocked", "()Z"⟩, 7), (⟨"FrankDesk", "isUncertain", "()Z"⟩, 7), (⟨"FrankDesk$Journal", "newestSector", "()I"⟩, 5), (⟨"FrankDesk$Journal", "isMarked", "(I)Z"⟩, 5), (⟨"FrankDesk$Journal", "isNewer", "(II)Z"⟩, 5), (⟨"FrankDesk$Journal", "isNextRecord", "(I)Z"⟩, 5)]
theorem lw_r1 : ∀ q ∈ lw_privs_1, lw_okq q := List.forall_mem_cons.mpr ⟨lw_p0, List.forall_mem_cons.mpr ⟨lw_p1, List.forall_mem_cons.mpr ⟨lw_p2, List.forall_mem_cons.mpr ⟨lw_p3, List.forall_mem_cons.mpr ⟨lw_p4, List.forall_mem_cons.mpr ⟨lw_p5, List.forall_mem_cons.mpr ⟨lw_p6, List.forall_mem_cons.mpr ⟨lw_p7, List.forall_mem_cons.mpr ⟨lw_p8, List.forall_mem_cons.mpr ⟨lw_p9, List.forall_mem_cons.mpr ⟨lw_p10, List.forall_mem_cons.mpr ⟨lw_p11, List.forall_mem_cons.mpr ⟨lw_p12, List.forall_mem_cons.mpr ⟨lw_p13, List.forall_mem_cons.mpr ⟨lw_p14, List.forall_mem_cons.mpr ⟨lw_p15, fun _ h => absurd h List.not_mem_nil⟩⟩⟩⟩⟩⟩⟩⟩⟩⟩⟩⟩⟩⟩⟩⟩
theorem lw_p16 : lw_okq (⟨"FrankDeskModel", "begin", "(I)V"⟩, 16) := ⟨⟨by decide +kernel, by decide +kernel⟩, List.mem_of_getElem? (i := 435) (by decide +kernel), List.mem_of_getElem? (i := 442) (by decide +kernel), List.mem_of_getElem? (i := 443) (by decide +kernel)⟩
theorem lw_p17 : lw_okq (⟨"FrankDeskModel", "erase", "(I)V"⟩, 16) := ⟨⟨by decide +kernel, by decide +kernel⟩, List.mem_of_getElem? (i := 435) (by decide +kernel), List.mem_of_getElem? (i := 446) (by decide +kernel), List.mem_of_getElem? (i := 447) (by decide +kernel)⟩
theorem lw_p18 : lw_okq (⟨"FrankDeskModel", "isDone", "()Z"⟩, 16) := ⟨⟨by decide +kernel, by decide +kernel⟩, List.mem_of_getElem? (i := 435) (by decide +kernel), List.mem_of_getElem? (i := 450) (by decide +kernel), List.mem_of_getElem? (i := 451) (by decide +kernel)⟩
theorem lw_p19 : lw_okq (⟨"FrankDeskModel", "write", "(II)V"⟩, 16) := ⟨⟨by decide +kernel, by decide +kernel⟩, List.mem_of_getElem? (i := 435) (by decide +kernel), List.mem_of_getElem? (i := 454) (by decide +kernel), List.mem_of_getElem? (i := 455) (by decide +kernel)⟩
theorem lw_p20 : lw_okq (⟨"FrankDeskModel", "put", "(III)Z"⟩, 16) := ⟨⟨by decide +kernel, by decide +kernel⟩, List.mem_of_getElem? (i := 435) (by decide +kernel), List.mem_of_getElem? (i := 532) (by decide +kernel), List.mem_of_getElem? (i := 533) (by decide +kernel)⟩
theorem lw_p21 : lw_okq (⟨"FrankDeskModel", "isFree", "(I)Z"⟩, 16) := ⟨⟨by decide +kernel, by decide +kernel⟩, List.mem_of_getElem? (i := 435) (by decide +kernel), List.mem_of_getElem? (i := 536) (by decide +kernel), List.mem_of_getElem? (i := 537) (by decide +kernel)⟩
theorem lw_p22 : lw_okq (⟨"FrankDeskModel", "act", "(III)V"⟩, 16) := ⟨⟨by decide +kernel, by decide +kernel⟩, List.mem_of_getElem? (i := 435) (by decide +kernel), List.mem_of_getElem? (i := 540) (by decide +kernel), List.mem_of_getElem? (i := 541) (by decide +kernel)⟩
theorem lw_p23 : lw_okq (⟨"FrankDeskModel", "piece", "(III)V"⟩, 16) := ⟨⟨by decide +kernel, by decide +kernel⟩, List.mem_of_getElem? (i := 435) (by decide +kernel), List.mem_of_getElem? (i := 544) (by decide +kernel), List.mem_of_getElem? (i := 545) (by decide +kernel)⟩
theorem lw_p24 : lw_okq (⟨"FrankDeskModel", "more", "(IJ)V"⟩, 16) := ⟨⟨by decide +kernel, by decide +kernel⟩, List.mem_of_getElem? (i := 435) (by decide +kernel), List.mem_of_getElem? (i := 548) (by decide +kernel), List.mem_of_getElem? (i := 549) (by decide +kernel)⟩
theorem lw_p25 : lw_okq (⟨"FrankDeskModel", "sum", "(I)J"⟩, 16) := ⟨⟨by decide +kernel, by decide +kernel⟩, List.mem_of_getElem? (i := 435) (by decide +kernel), List.mem_of_getElem? (i := 552) (by decide +kernel), List.mem_of_getElem? (i := 553) (by decide +kernel)⟩
theorem lw_p26 : lw_okq (⟨"FrankDeskModel", "code", "(II)I"⟩, 16) := ⟨⟨by decide +kernel, by decide +kernel⟩, List.mem_of_getElem? (i := 435) (by decide +kernel), List.mem_of_getElem? (i := 583) (by decide +kernel), List.mem_of_getElem? (i := 584) (by decide +kernel)⟩
theorem lw_p27 : lw_okq (⟨"FrankDeskModel", "markOf", "(II)I"⟩, 16) := ⟨⟨by decide +kernel, by decide +kernel⟩, List.mem_of_getElem? (i := 435) (by decide +kernel), List.mem_of_getElem? (i := 633) (by decide +kernel), List.mem_of_getElem? (i := 634) (by decide +kernel)⟩
def lw_privs_2 : List (MethodName × Nat) := [(⟨"FrankDeskModel", "begin", "(I)V"⟩, 16), (⟨"FrankDeskModel", "erase", "(I)V"⟩, 16), (⟨"FrankDeskModel", "isDone", "()Z"⟩, 16), (⟨"FrankDeskModel", "write", "(II)V"⟩, 16), (⟨"FrankDeskModel", "put", "(III)Z"⟩, 16), (⟨"FrankDeskModel", "isFree", "(I)Z"⟩, 16), (⟨"FrankDeskModel", "act", "(III)V"⟩, 16), (⟨"FrankDeskModel", "piece", "(III)V"⟩, 16), (⟨"FrankDeskModel", "more", "(IJ)V"⟩, 16), (⟨"FrankDeskModel", "sum", "(I)J"⟩, 16), (⟨"FrankDeskModel", "code", "(II)I"⟩, 16), (⟨"FrankDeskModel", "markOf", "(II)I"⟩, 16)]
theorem lw_r2 : ∀ q ∈ lw_privs_2, lw_okq q := List.forall_mem_cons.mpr ⟨lw_p16, List.forall_mem_cons.mpr ⟨lw_p17, List.forall_mem_cons.mpr ⟨lw_p18, List.forall_mem_cons.mpr ⟨lw_p19, List.forall_mem_cons.mpr ⟨lw_p20, List.forall_mem_cons.mpr ⟨lw_p21, List.forall_mem_cons.mpr ⟨lw_p22, List.forall_mem_cons.mpr ⟨lw_p23, List.forall_mem_cons.mpr ⟨lw_p24, List.forall_mem_cons.mpr ⟨lw_p25, List.forall_mem_cons.mpr ⟨lw_p26, List.forall_mem_cons.mpr ⟨lw_p27, fun _ h => absurd h List.not_mem_nil⟩⟩⟩⟩⟩⟩⟩⟩⟩⟩⟩⟩
def lw_privs : List (MethodName × Nat) := lw_privs_1 ++ (lw_privs_2)
def lw_tbl : List Cond := k2_sels lw_privs ++ tables_1
theorem lw_privs_ok : ∀ q ∈ lw_privs, lw_okq q := by
  show ∀ q ∈ lw_privs_1 ++ (lw_privs_2), lw_okq q
  exact List.forall_mem_append.mpr ⟨lw_r1, lw_r2⟩
end
section
def RX0 : String := "FrankDesk$Books"
def TX0 : u_T := fun k => match k with
  | _ => ("FrankDesk$Books", "words", "[I", true)
def tyX0 : Nat → FieldType := fun k => match k with
  | _ => .array .int
abbrev wsX00 : List Cond := u_ws RX0 TX0 1
theorem nmX0 : ∀ a, a < 1 → ∀ b, b < 1 → a ≠ b → (TX0 a).2.1 ≠ (TX0 b).2.1 := by decide +kernel
theorem tyX0_ok : ∀ k, k < 1 → parseFieldDescriptor (TX0 k).2.2.1 = some (tyX0 k) := by decide +kernel
abbrev cX0_init : ByteArray := prog_2_method_1_code
def yX0_init : MethodName := ⟨RX0, "<init>", "()V"⟩
abbrev cX0_at : ByteArray := prog_2_method_2_code
def yX0_at : MethodName := ⟨RX0, "at", "(I)I"⟩
abbrev cX0_put : ByteArray := prog_2_method_3_code
def yX0_put : MethodName := ⟨RX0, "put", "(II)V"⟩
abbrev cX0_sumAt : ByteArray := prog_2_method_4_code
def yX0_sumAt : MethodName := ⟨RX0, "sumAt", "(I)J"⟩
abbrev cX0_piecesOf : ByteArray := prog_2_method_5_code
def yX0_piecesOf : MethodName := ⟨RX0, "piecesOf", "(I)I"⟩
abbrev cX0_centsOf : ByteArray := prog_2_method_6_code
def yX0_centsOf : MethodName := ⟨RX0, "centsOf", "(I)J"⟩
abbrev cX0_piecesOn : ByteArray := prog_2_method_7_code
def yX0_piecesOn : MethodName := ⟨RX0, "piecesOn", "(I)I"⟩
abbrev cX0_centsOn : ByteArray := prog_2_method_8_code
def yX0_centsOn : MethodName := ⟨RX0, "centsOn", "(I)J"⟩
abbrev cX0_registersAddUp : ByteArray := prog_2_method_9_code
def yX0_registersAddUp : MethodName := ⟨RX0, "registersAddUp", "()Z"⟩
abbrev cX0_departmentsAddUp : ByteArray := prog_2_method_10_code
def yX0_departmentsAddUp : MethodName := ⟨RX0, "departmentsAddUp", "()Z"⟩
abbrev cX0_apply : ByteArray := prog_2_method_11_code
def yX0_apply : MethodName := ⟨RX0, "apply", "(III)V"⟩
abbrev cX0_addPiece : ByteArray := prog_2_method_12_code
def yX0_addPiece : MethodName := ⟨RX0, "addPiece", "(II)V"⟩
abbrev cX0_addToDay : ByteArray := prog_2_method_13_code
def yX0_addToDay : MethodName := ⟨RX0, "addToDay", "(II)V"⟩
abbrev cX0_settleFor : ByteArray := prog_2_method_14_code
def yX0_settleFor : MethodName := ⟨RX0, "settleFor", "(I)V"⟩
abbrev cX0_addOne : ByteArray := prog_2_method_15_code
def yX0_addOne : MethodName := ⟨RX0, "addOne", "(I)V"⟩
abbrev cX0_addToSum : ByteArray := prog_2_method_16_code
def yX0_addToSum : MethodName := ⟨RX0, "addToSum", "(II)V"⟩
abbrev cX0_departmentAt : ByteArray := prog_2_method_17_code
def yX0_departmentAt : MethodName := ⟨RX0, "departmentAt", "(I)I"⟩
abbrev cX0_placeOfDay : ByteArray := prog_2_method_18_code
def yX0_placeOfDay : MethodName := ⟨RX0, "placeOfDay", "(I)I"⟩
def RX1 : String := "FrankDesk$Journal"
def TX1 : u_T := fun k => match k with
  | 0 => ("FrankDesk$Journal", "memory", "LFrankDesk$Memory;", true)
  | 1 => ("FrankDesk$Journal", "books", "LFrankDesk$Books;", true)
  | 2 => ("FrankDesk$Journal", "sector", "I", false)
  | 3 => ("FrankDesk$Journal", "records", "I", false)
  | _ => ("FrankDesk$Journal", "last", "I", false)
def tyX1 : Nat → FieldType := fun k => match k with
  | 0 => .object "FrankDesk$Memory"
  | 1 => .object "FrankDesk$Books"
  | 2 => .int
  | 3 => .int
  | _ => .int
abbrev wsX10 : List Cond := u_ws RX1 TX1 5
theorem nmX1 : ∀ a, a < 5 → ∀ b, b < 5 → a ≠ b → (TX1 a).2.1 ≠ (TX1 b).2.1 := by decide +kernel
theorem tyX1_ok : ∀ k, k < 5 → parseFieldDescriptor (TX1 k).2.2.1 = some (tyX1 k) := by decide +kernel
abbrev cX1_init : ByteArray := prog_3_method_1_code
def yX1_init : MethodName := ⟨RX1, "<init>", "(LFrankDesk$Memory;LFrankDesk$Books;)V"⟩
abbrev cX1_lastNumber : ByteArray := prog_3_method_2_code
def yX1_lastNumber : MethodName := ⟨RX1, "lastNumber", "()I"⟩
abbrev cX1_append : ByteArray := prog_3_method_3_code
def yX1_append : MethodName := ⟨RX1, "append", "(III)I"⟩
abbrev cX1_reopen : ByteArray := prog_3_method_4_code
def yX1_reopen : MethodName := ⟨RX1, "reopen", "()V"⟩
abbrev cX1_hasRoom : ByteArray := prog_3_method_5_code
def yX1_hasRoom : MethodName := ⟨RX1, "hasRoom", "()Z"⟩
abbrev cX1_startSector : ByteArray := prog_3_method_6_code
def yX1_startSector : MethodName := ⟨RX1, "startSector", "(II)Z"⟩
abbrev cX1_writeBooks : ByteArray := prog_3_method_7_code
def yX1_writeBooks : MethodName := ⟨RX1, "writeBooks", "(I)Z"⟩
abbrev cX1_newestSector : ByteArray := prog_3_method_8_code
def yX1_newestSector : MethodName := ⟨RX1, "newestSector", "()I"⟩
abbrev cX1_isMarked : ByteArray := prog_3_method_9_code
def yX1_isMarked : MethodName := ⟨RX1, "isMarked", "(I)Z"⟩
abbrev cX1_isNewer : ByteArray := prog_3_method_10_code
def yX1_isNewer : MethodName := ⟨RX1, "isNewer", "(II)Z"⟩
abbrev cX1_isNextRecord : ByteArray := prog_3_method_11_code
def yX1_isNextRecord : MethodName := ⟨RX1, "isNextRecord", "(I)Z"⟩
abbrev cX1_recordAt : ByteArray := prog_3_method_12_code
def yX1_recordAt : MethodName := ⟨RX1, "recordAt", "(I)I"⟩
def RX2 : String := "FrankDesk$Memory"
def TX2 : u_T := fun k => match k with
  | 0 => ("FrankDesk$Memory", "words", "[I", true)
  | 1 => ("FrankDesk$Memory", "erases", "[I", true)
  | 2 => ("FrankDesk$Memory", "power", "Z", false)
  | 3 => ("FrankDesk$Memory", "cutExpected", "Z", false)
  | 4 => ("FrankDesk$Memory", "left", "I", false)
  | 5 => ("FrankDesk$Memory", "mask", "I", false)
  | _ => ("FrankDesk$Memory", "cuts", "I", false)
def tyX2 : Nat → FieldType := fun k => match k with
  | 0 => .array .int
  | 1 => .array .int
  | 2 => .boolean
  | 3 => .boolean
  | 4 => .int
  | 5 => .int
  | _ => .int
abbrev wsX20 : List Cond := u_ws RX2 TX2 7
theorem nmX2 : ∀ a, a < 7 → ∀ b, b < 7 → a ≠ b → (TX2 a).2.1 ≠ (TX2 b).2.1 := by decide +kernel
theorem tyX2_ok : ∀ k, k < 7 → parseFieldDescriptor (TX2 k).2.2.1 = some (tyX2 k) := by decide +kernel
abbrev cX2_init : ByteArray := prog_4_method_1_code
def yX2_init : MethodName := ⟨RX2, "<init>", "()V"⟩
abbrev cX2_holds : ByteArray := prog_4_method_2_code
def yX2_holds : MethodName := ⟨RX2, "holds", "(II)Z"⟩
abbrev cX2_read : ByteArray := prog_4_method_3_code
def yX2_read : MethodName := ⟨RX2, "read", "(II)I"⟩
abbrev cX2_write : ByteArray := prog_4_method_4_code
def yX2_write : MethodName := ⟨RX2, "write", "(III)Z"⟩
abbrev cX2_eraseSector : ByteArray := prog_4_method_5_code
def yX2_eraseSector : MethodName := ⟨RX2, "eraseSector", "(I)Z"⟩
abbrev cX2_markOf : ByteArray := prog_4_method_6_code
def yX2_markOf : MethodName := ⟨RX2, "markOf", "(III)I"⟩
abbrev cX2_areBlank : ByteArray := prog_4_method_7_code
def yX2_areBlank : MethodName := ⟨RX2, "areBlank", "(III)Z"⟩
abbrev cX2_erasesOf : ByteArray := prog_4_method_8_code
def yX2_erasesOf : MethodName := ⟨RX2, "erasesOf", "(I)I"⟩
abbrev cX2_wearSpread : ByteArray := prog_4_method_9_code
def yX2_wearSpread : MethodName := ⟨RX2, "wearSpread", "()I"⟩
abbrev cX2_expectCut : ByteArray := prog_4_method_10_code
def yX2_expectCut : MethodName := ⟨RX2, "expectCut", "(II)V"⟩
abbrev cX2_cutsSuffered : ByteArray := prog_4_method_11_code
def yX2_cutsSuffered : MethodName := ⟨RX2, "cutsSuffered", "()I"⟩
abbrev cX2_hasPower : ByteArray := prog_4_method_12_code
def yX2_hasPower : MethodName := ⟨RX2, "hasPower", "()Z"⟩
abbrev cX2_restorePower : ByteArray := prog_4_method_13_code
def yX2_restorePower : MethodName := ⟨RX2, "restorePower", "()V"⟩
abbrev cX2_spendOne : ByteArray := prog_4_method_14_code
def yX2_spendOne : MethodName := ⟨RX2, "spendOne", "()Z"⟩
def RX3 : String := "FrankDesk$Rates"
def TX3 : u_T := fun k => match k with
  | 0 => ("FrankDesk$Rates", "drafts", "[I", true)
  | _ => ("FrankDesk$Rates", "table", "[I", true)
def tyX3 : Nat → FieldType := fun k => match k with
  | 0 => .array .int
  | _ => .array .int
abbrev wsX30 : List Cond := u_ws RX3 TX3 2
theorem nmX3 : ∀ a, a < 2 → ∀ b, b < 2 → a ≠ b → (TX3 a).2.1 ≠ (TX3 b).2.1 := by decide +kernel
theorem tyX3_ok : ∀ k, k < 2 → parseFieldDescriptor (TX3 k).2.2.1 = some (tyX3 k) := by decide +kernel
abbrev cX3_init : ByteArray := prog_5_method_1_code
def yX3_init : MethodName := ⟨RX3, "<init>", "()V"⟩
abbrev cX3_draft : ByteArray := prog_5_method_2_code
def yX3_draft : MethodName := ⟨RX3, "draft", "(IIII)Z"⟩
abbrev cX3_useDrafts : ByteArray := prog_5_method_3_code
def yX3_useDrafts : MethodName := ⟨RX3, "useDrafts", "()V"⟩
abbrev cX3_priceOf : ByteArray := prog_5_method_4_code
def yX3_priceOf : MethodName := ⟨RX3, "priceOf", "(III)I"⟩
abbrev cX3_placeOf : ByteArray := prog_5_method_5_code
def yX3_placeOf : MethodName := ⟨RX3, "placeOf", "(III)I"⟩
def RX4 : String := "FrankDesk"
def TX4 : u_T := fun k => match k with
  | 0 => ("FrankDesk", "machine", "I", true)
  | 1 => ("FrankDesk", "rates", "LFrankDesk$Rates;", true)
  | 2 => ("FrankDesk", "memory", "LFrankDesk$Memory;", true)
  | 3 => ("FrankDesk", "books", "LFrankDesk$Books;", true)
  | 4 => ("FrankDesk", "journal", "LFrankDesk$Journal;", true)
  | 5 => ("FrankDesk", "piecesOut", "J", false)
  | _ => ("FrankDesk", "centsOut", "J", false)
def tyX4 : Nat → FieldType := fun k => match k with
  | 0 => .int
  | 1 => .object "FrankDesk$Rates"
  | 2 => .object "FrankDesk$Memory"
  | 3 => .object "FrankDesk$Books"
  | 4 => .object "FrankDesk$Journal"
  | 5 => .long
  | _ => .long
abbrev wsX40 : List Cond := u_ws RX4 TX4 7
theorem nmX4 : ∀ a, a < 7 → ∀ b, b < 7 → a ≠ b → (TX4 a).2.1 ≠ (TX4 b).2.1 := by decide +kernel
theorem tyX4_ok : ∀ k, k < 7 → parseFieldDescriptor (TX4 k).2.2.1 = some (tyX4 k) := by decide +kernel
abbrev cX4_init : ByteArray := prog_1_method_1_code
def yX4_init : MethodName := ⟨RX4, "<init>", "(I)V"⟩
abbrev cX4_rate : ByteArray := prog_1_method_2_code
def yX4_rate : MethodName := ⟨RX4, "rate", "(IIII)I"⟩
abbrev cX4_loadTable : ByteArray := prog_1_method_3_code
def yX4_loadTable : MethodName := ⟨RX4, "loadTable", "(I)I"⟩
abbrev cX4_weigh : ByteArray := prog_1_method_4_code
def yX4_weigh : MethodName := ⟨RX4, "weigh", "(III)I"⟩
abbrev cX4_frank : ByteArray := prog_1_method_5_code
def yX4_frank : MethodName := ⟨RX4, "frank", "(III)I"⟩
abbrev cX4_printed : ByteArray := prog_1_method_6_code
def yX4_printed : MethodName := ⟨RX4, "printed", "(I)J"⟩
abbrev cX4_refill : ByteArray := prog_1_method_7_code
def yX4_refill : MethodName := ⟨RX4, "refill", "(II)I"⟩
abbrev cX4_codeFor : ByteArray := prog_1_method_8_code
def yX4_codeFor : MethodName := ⟨RX4, "codeFor", "(II)I"⟩
abbrev cX4_claimBack : ByteArray := prog_1_method_9_code
def yX4_claimBack : MethodName := ⟨RX4, "claimBack", "(II)I"⟩
abbrev cX4_book : ByteArray := prog_1_method_10_code
def yX4_book : MethodName := ⟨RX4, "book", "(I)J"⟩
abbrev cX4_counter : ByteArray := prog_1_method_11_code
def yX4_counter : MethodName := ⟨RX4, "counter", "(II)J"⟩
abbrev cX4_dayTotal : ByteArray := prog_1_method_12_code
def yX4_dayTotal : MethodName := ⟨RX4, "dayTotal", "(II)J"⟩
abbrev cX4_inspect : ByteArray := prog_1_method_13_code
def yX4_inspect : MethodName := ⟨RX4, "inspect", "(I)I"⟩
abbrev cX4_lock : ByteArray := prog_1_method_14_code
def yX4_lock : MethodName := ⟨RX4, "lock", "()I"⟩
abbrev cX4_unlock : ByteArray := prog_1_method_15_code
def yX4_unlock : MethodName := ⟨RX4, "unlock", "(I)I"⟩
abbrev cX4_cut : ByteArray := prog_1_method_16_code
def yX4_cut : MethodName := ⟨RX4, "cut", "(II)I"⟩
abbrev cX4_mount : ByteArray := prog_1_method_17_code
def yX4_mount : MethodName := ⟨RX4, "mount", "()I"⟩
abbrev cX4_uncertain : ByteArray := prog_1_method_18_code
def yX4_uncertain : MethodName := ⟨RX4, "uncertain", "()I"⟩
abbrev cX4_settle : ByteArray := prog_1_method_19_code
def yX4_settle : MethodName := ⟨RX4, "settle", "(Z)I"⟩
abbrev cX4_wear : ByteArray := prog_1_method_20_code
def yX4_wear : MethodName := ⟨RX4, "wear", "(I)I"⟩
abbrev cX4_word : ByteArray := prog_1_method_21_code
def yX4_word : MethodName := ⟨RX4, "word", "(II)I"⟩
abbrev cX4_sound : ByteArray := prog_1_method_22_code
def yX4_sound : MethodName := ⟨RX4, "sound", "()I"⟩
abbrev cX4_mayFrank : ByteArray := prog_1_method_23_code
def yX4_mayFrank : MethodName := ⟨RX4, "mayFrank", "(III)Z"⟩
abbrev cX4_isLocked : ByteArray := prog_1_method_24_code
def yX4_isLocked : MethodName := ⟨RX4, "isLocked", "()Z"⟩
abbrev cX4_isUncertain : ByteArray := prog_1_method_25_code
def yX4_isUncertain : MethodName := ⟨RX4, "isUncertain", "()Z"⟩
abbrev cX4_areCents : ByteArray := prog_1_method_26_code
def yX4_areCents : MethodName := ⟨RX4, "areCents", "(I)Z"⟩
abbrev cX4_isDay : ByteArray := prog_1_method_27_code
def yX4_isDay : MethodName := ⟨RX4, "isDay", "(I)Z"⟩
abbrev cX4_isDepartment : ByteArray := prog_1_method_28_code
def yX4_isDepartment : MethodName := ⟨RX4, "isDepartment", "(I)Z"⟩
abbrev cX4_isPiecesOrCents : ByteArray := prog_1_method_29_code
def yX4_isPiecesOrCents : MethodName := ⟨RX4, "isPiecesOrCents", "(I)Z"⟩
def RX5 : String := "FrankDeskModel"
def TX5 : u_T := fun k => match k with
  | 0 => ("FrankDeskModel", "thrown", "I", false)
  | 1 => ("FrankDeskModel", "machine", "I", true)
  | 2 => ("FrankDeskModel", "memory", "[I", true)
  | 3 => ("FrankDeskModel", "wear", "[I", true)
  | 4 => ("FrankDeskModel", "books", "[I", true)
  | 5 => ("FrankDeskModel", "record", "[I", true)
  | 6 => ("FrankDeskModel", "drafts", "[I", true)
  | 7 => ("FrankDeskModel", "table", "[I", true)
  | 8 => ("FrankDeskModel", "power", "Z", false)
  | 9 => ("FrankDeskModel", "left", "I", false)
  | 10 => ("FrankDeskModel", "mask", "I", false)
  | 11 => ("FrankDeskModel", "sector", "I", false)
  | 12 => ("FrankDeskModel", "records", "I", false)
  | 13 => ("FrankDeskModel", "number", "I", false)
  | 14 => ("FrankDeskModel", "printedPieces", "I", false)
  | _ => ("FrankDeskModel", "printedCents", "J", false)
def tyX5 : Nat → FieldType := fun k => match k with
  | 0 => .int
  | 1 => .int
  | 2 => .array .int
  | 3 => .array .int
  | 4 => .array .int
  | 5 => .array .int
  | 6 => .array .int
  | 7 => .array .int
  | 8 => .boolean
  | 9 => .int
  | 10 => .int
  | 11 => .int
  | 12 => .int
  | 13 => .int
  | 14 => .int
  | _ => .long
abbrev wsX50 : List Cond := u_ws RX5 TX5 16
theorem nmX5 : ∀ a, a < 16 → ∀ b, b < 16 → a ≠ b → (TX5 a).2.1 ≠ (TX5 b).2.1 := by decide +kernel
theorem tyX5_ok : ∀ k, k < 16 → parseFieldDescriptor (TX5 k).2.2.1 = some (tyX5 k) := by decide +kernel
abbrev cX5_init : ByteArray := prog_7_method_1_code
def yX5_init : MethodName := ⟨RX5, "<init>", "(I)V"⟩
abbrev cX5_in : ByteArray := prog_7_method_3_code
def yX5_in : MethodName := ⟨RX5, "in", "(JJJ)Z"⟩
abbrev cX5_isMoney : ByteArray := prog_7_method_4_code
def yX5_isMoney : MethodName := ⟨RX5, "isMoney", "(I)Z"⟩
abbrev cX5_isDone : ByteArray := prog_7_method_5_code
def yX5_isDone : MethodName := ⟨RX5, "isDone", "()Z"⟩
abbrev cX5_write : ByteArray := prog_7_method_6_code
def yX5_write : MethodName := ⟨RX5, "write", "(II)V"⟩
abbrev cX5_erase : ByteArray := prog_7_method_7_code
def yX5_erase : MethodName := ⟨RX5, "erase", "(I)V"⟩
abbrev cX5_marked : ByteArray := prog_7_method_8_code
def yX5_marked : MethodName := ⟨RX5, "marked", "(I)I"⟩
abbrev cX5_markOf : ByteArray := prog_7_method_9_code
def yX5_markOf : MethodName := ⟨RX5, "markOf", "(II)I"⟩
abbrev cX5_begin : ByteArray := prog_7_method_10_code
def yX5_begin : MethodName := ⟨RX5, "begin", "(I)V"⟩
abbrev cX5_isFree : ByteArray := prog_7_method_11_code
def yX5_isFree : MethodName := ⟨RX5, "isFree", "(I)Z"⟩
abbrev cX5_put : ByteArray := prog_7_method_12_code
def yX5_put : MethodName := ⟨RX5, "put", "(III)Z"⟩
abbrev cX5_sum : ByteArray := prog_7_method_13_code
def yX5_sum : MethodName := ⟨RX5, "sum", "(I)J"⟩
abbrev cX5_more : ByteArray := prog_7_method_14_code
def yX5_more : MethodName := ⟨RX5, "more", "(IJ)V"⟩
abbrev cX5_act : ByteArray := prog_7_method_15_code
def yX5_act : MethodName := ⟨RX5, "act", "(III)V"⟩
abbrev cX5_piece : ByteArray := prog_7_method_16_code
def yX5_piece : MethodName := ⟨RX5, "piece", "(III)V"⟩
abbrev cX5_isRate : ByteArray := prog_7_method_17_code
def yX5_isRate : MethodName := ⟨RX5, "isRate", "(III)Z"⟩
abbrev cX5_place : ByteArray := prog_7_method_18_code
def yX5_place : MethodName := ⟨RX5, "place", "(III)I"⟩
abbrev cX5_rate : ByteArray := prog_7_method_19_code
def yX5_rate : MethodName := ⟨RX5, "rate", "(IIII)I"⟩
abbrev cX5_loadTable : ByteArray := prog_7_method_20_code
def yX5_loadTable : MethodName := ⟨RX5, "loadTable", "(I)I"⟩
abbrev cX5_weigh : ByteArray := prog_7_method_21_code
def yX5_weigh : MethodName := ⟨RX5, "weigh", "(III)I"⟩
abbrev cX5_isDay : ByteArray := prog_7_method_22_code
def yX5_isDay : MethodName := ⟨RX5, "isDay", "(I)Z"⟩
abbrev cX5_frank : ByteArray := prog_7_method_23_code
def yX5_frank : MethodName := ⟨RX5, "frank", "(III)I"⟩
abbrev cX5_printed : ByteArray := prog_7_method_24_code
def yX5_printed : MethodName := ⟨RX5, "printed", "(I)J"⟩
abbrev cX5_code : ByteArray := prog_7_method_25_code
def yX5_code : MethodName := ⟨RX5, "code", "(II)I"⟩
abbrev cX5_refill : ByteArray := prog_7_method_26_code
def yX5_refill : MethodName := ⟨RX5, "refill", "(II)I"⟩
abbrev cX5_codeFor : ByteArray := prog_7_method_27_code
def yX5_codeFor : MethodName := ⟨RX5, "codeFor", "(II)I"⟩
abbrev cX5_claimBack : ByteArray := prog_7_method_28_code
def yX5_claimBack : MethodName := ⟨RX5, "claimBack", "(II)I"⟩
abbrev cX5_book : ByteArray := prog_7_method_29_code
def yX5_book : MethodName := ⟨RX5, "book", "(I)J"⟩
abbrev cX5_counter : ByteArray := prog_7_method_30_code
def yX5_counter : MethodName := ⟨RX5, "counter", "(II)J"⟩
abbrev cX5_dayTotal : ByteArray := prog_7_method_31_code
def yX5_dayTotal : MethodName := ⟨RX5, "dayTotal", "(II)J"⟩
abbrev cX5_inspect : ByteArray := prog_7_method_32_code
def yX5_inspect : MethodName := ⟨RX5, "inspect", "(I)I"⟩
abbrev cX5_lock : ByteArray := prog_7_method_33_code
def yX5_lock : MethodName := ⟨RX5, "lock", "()I"⟩
abbrev cX5_unlock : ByteArray := prog_7_method_34_code
def yX5_unlock : MethodName := ⟨RX5, "unlock", "(I)I"⟩
abbrev cX5_cut : ByteArray := prog_7_method_35_code
def yX5_cut : MethodName := ⟨RX5, "cut", "(II)I"⟩
abbrev cX5_mount : ByteArray := prog_7_method_36_code
def yX5_mount : MethodName := ⟨RX5, "mount", "()I"⟩
abbrev cX5_uncertain : ByteArray := prog_7_method_37_code
def yX5_uncertain : MethodName := ⟨RX5, "uncertain", "()I"⟩
abbrev cX5_settle : ByteArray := prog_7_method_38_code
def yX5_settle : MethodName := ⟨RX5, "settle", "(Z)I"⟩
abbrev cX5_wear : ByteArray := prog_7_method_39_code
def yX5_wear : MethodName := ⟨RX5, "wear", "(I)I"⟩
abbrev cX5_word : ByteArray := prog_7_method_40_code
def yX5_word : MethodName := ⟨RX5, "word", "(II)I"⟩
abbrev cX5_sound : ByteArray := prog_7_method_41_code
def yX5_sound : MethodName := ⟨RX5, "sound", "()I"⟩
def RJ9 : String := "java/lang/Math"
def TJ9 : u_T := fun k => match k with
  | _ => ("", "", "", false)
def tyJ9 : Nat → FieldType := fun k => match k with
  | _ => .int
abbrev wsJ90 : List Cond := u_ws RJ9 TJ9 0
theorem nmJ9 : ∀ a, a < 0 → ∀ b, b < 0 → a ≠ b → (TJ9 a).2.1 ≠ (TJ9 b).2.1 := by decide +kernel
theorem tyJ9_ok : ∀ k, k < 0 → parseFieldDescriptor (TJ9 k).2.2.1 = some (tyJ9 k) := by decide +kernel
abbrev cJ9_max_7cf53 : ByteArray := prog_8_method_65_code
def yJ9_max_7cf53 : MethodName := ⟨RJ9, "max", "(II)I"⟩
abbrev cJ9_min_7cf53 : ByteArray := prog_8_method_69_code
def yJ9_min_7cf53 : MethodName := ⟨RJ9, "min", "(II)I"⟩
def RJ7 : String := "java/util/Arrays"
def TJ7 : u_T := fun k => match k with
  | _ => ("", "", "", false)
def tyJ7 : Nat → FieldType := fun k => match k with
  | _ => .int
abbrev wsJ70 : List Cond := u_ws RJ7 TJ7 0
theorem nmJ7 : ∀ a, a < 0 → ∀ b, b < 0 → a ≠ b → (TJ7 a).2.1 ≠ (TJ7 b).2.1 := by decide +kernel
theorem tyJ7_ok : ∀ k, k < 0 → parseFieldDescriptor (TJ7 k).2.2.1 = some (tyJ7 k) := by decide +kernel
abbrev cJ7_fill_53178 : ByteArray := prog_9_method_103_code
def yJ7_fill_53178 : MethodName := ⟨RJ7, "fill", "([II)V"⟩
def RL : String := "FrankDeskLaw"
abbrev cL_cell : ByteArray := method_2_code
def yL_cell : MethodName := ⟨RL, "cell", "([II)I"⟩
abbrev cL_law : ByteArray := code
def yL_law : MethodName := ⟨RL, "law", "([I)Z"⟩
abbrev vwCl : List vw_C := [(RX0, TX0, 1), (RX1, TX1, 5), (RX2, TX2, 7), (RX3, TX3, 2), (RX4, TX4, 7), (RX5, TX5, 16)]
end
section
theorem dX0_init_0 : decode cX0_init 0 = .ok (.aload_n 0, 1) := by decide +kernel
theorem dX0_init_1 : decode cX0_init 1 = .ok (.invokespecial 3, 3) := by decide +kernel
theorem dX0_init_4 : decode cX0_init 4 = .ok (.aload_n 0, 1) := by decide +kernel
theorem dX0_init_5 : decode cX0_init 5 = .ok (.sipush 191, 3) := by decide +kernel
theorem dX0_init_8 : decode cX0_init 8 = .ok (.newarray .int, 2) := by decide +kernel
theorem dX0_init_10 : decode cX0_init 10 = .ok (.putfield 9, 3) := by decide +kernel
theorem dX0_init_13 : decode cX0_init 13 = .ok (.aload_n 0, 1) := by decide +kernel
theorem dX0_init_14 : decode cX0_init 14 = .ok (.bipush 12, 2) := by decide +kernel
theorem dX0_init_16 : decode cX0_init 16 = .ok (.sipush 1000, 3) := by decide +kernel
theorem dX0_init_19 : decode cX0_init 19 = .ok (.invokevirtual 13, 3) := by decide +kernel
theorem dX0_init_22 : decode cX0_init 22 = .ok (.iconst 0, 1) := by decide +kernel
theorem dX0_init_23 : decode cX0_init 23 = .ok (.istore_n 1, 1) := by decide +kernel
theorem dX0_init_24 : decode cX0_init 24 = .ok (.iload_n 1, 1) := by decide +kernel
theorem dX0_init_25 : decode cX0_init 25 = .ok (.bipush 32, 2) := by decide +kernel
theorem dX0_init_27 : decode cX0_init 27 = .ok (.if_icmp .ge 20, 3) := by decide +kernel
theorem dX0_init_30 : decode cX0_init 30 = .ok (.aload_n 0, 1) := by decide +kernel
theorem dX0_init_31 : decode cX0_init 31 = .ok (.bipush 63, 2) := by decide +kernel
theorem dX0_init_33 : decode cX0_init 33 = .ok (.iload_n 1, 1) := by decide +kernel
theorem dX0_init_34 : decode cX0_init 34 = .ok (.iconst 4, 1) := by decide +kernel
theorem dX0_init_35 : decode cX0_init 35 = .ok (.imul, 1) := by decide +kernel
theorem dX0_init_36 : decode cX0_init 36 = .ok (.iadd, 1) := by decide +kernel
theorem dX0_init_37 : decode cX0_init 37 = .ok (.iconst (-1), 1) := by decide +kernel
theorem dX0_init_38 : decode cX0_init 38 = .ok (.invokevirtual 13, 3) := by decide +kernel
theorem dX0_init_41 : decode cX0_init 41 = .ok (.iinc 1 1, 3) := by decide +kernel
theorem dX0_init_44 : decode cX0_init 44 = .ok (.goto (-20), 3) := by decide +kernel
theorem dX0_init_47 : decode cX0_init 47 = .ok (.return_, 1) := by decide +kernel
theorem dX0_at_0 : decode cX0_at 0 = .ok (.iload_n 1, 1) := by decide +kernel
theorem dX0_at_1 : decode cX0_at 1 = .ok (.ifCond .lt 21, 3) := by decide +kernel
theorem dX0_at_4 : decode cX0_at 4 = .ok (.iload_n 1, 1) := by decide +kernel
theorem dX0_at_5 : decode cX0_at 5 = .ok (.aload_n 0, 1) := by decide +kernel
theorem dX0_at_6 : decode cX0_at 6 = .ok (.getfield 9, 3) := by decide +kernel
theorem dX0_at_9 : decode cX0_at 9 = .ok (.arraylength, 1) := by decide +kernel
theorem dX0_at_10 : decode cX0_at 10 = .ok (.if_icmp .ge 12, 3) := by decide +kernel
theorem dX0_at_13 : decode cX0_at 13 = .ok (.aload_n 0, 1) := by decide +kernel
theorem dX0_at_14 : decode cX0_at 14 = .ok (.getfield 9, 3) := by decide +kernel
theorem dX0_at_17 : decode cX0_at 17 = .ok (.iload_n 1, 1) := by decide +kernel
theorem dX0_at_18 : decode cX0_at 18 = .ok (.iaload, 1) := by decide +kernel
theorem dX0_at_19 : decode cX0_at 19 = .ok (.goto 4, 3) := by decide +kernel
theorem dX0_at_22 : decode cX0_at 22 = .ok (.iconst 0, 1) := by decide +kernel
theorem dX0_at_23 : decode cX0_at 23 = .ok (.ireturn, 1) := by decide +kernel
theorem dX0_put_0 : decode cX0_put 0 = .ok (.iload_n 1, 1) := by decide +kernel
theorem dX0_put_1 : decode cX0_put 1 = .ok (.ifCond .lt 19, 3) := by decide +kernel
theorem dX0_put_4 : decode cX0_put 4 = .ok (.iload_n 1, 1) := by decide +kernel
theorem dX0_put_5 : decode cX0_put 5 = .ok (.aload_n 0, 1) := by decide +kernel
theorem dX0_put_6 : decode cX0_put 6 = .ok (.getfield 9, 3) := by decide +kernel
theorem dX0_put_9 : decode cX0_put 9 = .ok (.arraylength, 1) := by decide +kernel
theorem dX0_put_10 : decode cX0_put 10 = .ok (.if_icmp .ge 10, 3) := by decide +kernel
theorem dX0_put_13 : decode cX0_put 13 = .ok (.aload_n 0, 1) := by decide +kernel
theorem dX0_put_14 : decode cX0_put 14 = .ok (.getfield 9, 3) := by decide +kernel
theorem dX0_put_17 : decode cX0_put 17 = .ok (.iload_n 1, 1) := by decide +kernel
theorem dX0_put_18 : decode cX0_put 18 = .ok (.iload_n 2, 1) := by decide +kernel
theorem dX0_put_19 : decode cX0_put 19 = .ok (.iastore, 1) := by decide +kernel
theorem dX0_put_20 : decode cX0_put 20 = .ok (.return_, 1) := by decide +kernel
theorem dX0_sumAt_0 : decode cX0_sumAt 0 = .ok (.aload_n 0, 1) := by decide +kernel
theorem dX0_sumAt_1 : decode cX0_sumAt 1 = .ok (.iload_n 1, 1) := by decide +kernel
theorem dX0_sumAt_2 : decode cX0_sumAt 2 = .ok (.iconst 1, 1) := by decide +kernel
theorem dX0_sumAt_3 : decode cX0_sumAt 3 = .ok (.iadd, 1) := by decide +kernel
theorem dX0_sumAt_4 : decode cX0_sumAt 4 = .ok (.invokevirtual 17, 3) := by decide +kernel
theorem dX0_sumAt_7 : decode cX0_sumAt 7 = .ok (.i2l, 1) := by decide +kernel
theorem dX0_sumAt_8 : decode cX0_sumAt 8 = .ok (.bipush 32, 2) := by decide +kernel
theorem dX0_sumAt_10 : decode cX0_sumAt 10 = .ok (.lshl, 1) := by decide +kernel
theorem dX0_sumAt_11 : decode cX0_sumAt 11 = .ok (.aload_n 0, 1) := by decide +kernel
theorem dX0_sumAt_12 : decode cX0_sumAt 12 = .ok (.iload_n 1, 1) := by decide +kernel
theorem dX0_sumAt_13 : decode cX0_sumAt 13 = .ok (.invokevirtual 17, 3) := by decide +kernel
theorem dX0_sumAt_16 : decode cX0_sumAt 16 = .ok (.i2l, 1) := by decide +kernel
theorem dX0_sumAt_17 : decode cX0_sumAt 17 = .ok (.ldc2_w 21, 3) := by decide +kernel
theorem dX0_sumAt_20 : decode cX0_sumAt 20 = .ok (.land, 1) := by decide +kernel
theorem dX0_sumAt_21 : decode cX0_sumAt 21 = .ok (.lor, 1) := by decide +kernel
theorem dX0_sumAt_22 : decode cX0_sumAt 22 = .ok (.lreturn, 1) := by decide +kernel
theorem dX0_piecesOf_0 : decode cX0_piecesOf 0 = .ok (.aload_n 0, 1) := by decide +kernel
theorem dX0_piecesOf_1 : decode cX0_piecesOf 1 = .ok (.iload_n 1, 1) := by decide +kernel
theorem dX0_piecesOf_2 : decode cX0_piecesOf 2 = .ok (.invokestatic 23, 3) := by decide +kernel
theorem dX0_piecesOf_5 : decode cX0_piecesOf 5 = .ok (.invokevirtual 17, 3) := by decide +kernel
theorem dX0_piecesOf_8 : decode cX0_piecesOf 8 = .ok (.ireturn, 1) := by decide +kernel
theorem dX0_centsOf_0 : decode cX0_centsOf 0 = .ok (.aload_n 0, 1) := by decide +kernel
theorem dX0_centsOf_1 : decode cX0_centsOf 1 = .ok (.iload_n 1, 1) := by decide +kernel
theorem dX0_centsOf_2 : decode cX0_centsOf 2 = .ok (.invokestatic 23, 3) := by decide +kernel
theorem dX0_centsOf_5 : decode cX0_centsOf 5 = .ok (.iconst 1, 1) := by decide +kernel
theorem dX0_centsOf_6 : decode cX0_centsOf 6 = .ok (.iadd, 1) := by decide +kernel
theorem dX0_centsOf_7 : decode cX0_centsOf 7 = .ok (.invokevirtual 26, 3) := by decide +kernel
theorem dX0_centsOf_10 : decode cX0_centsOf 10 = .ok (.lreturn, 1) := by decide +kernel
theorem dX0_piecesOn_0 : decode cX0_piecesOn 0 = .ok (.iload_n 1, 1) := by decide +kernel
theorem dX0_piecesOn_1 : decode cX0_piecesOn 1 = .ok (.invokestatic 30, 3) := by decide +kernel
theorem dX0_piecesOn_4 : decode cX0_piecesOn 4 = .ok (.istore_n 2, 1) := by decide +kernel
theorem dX0_piecesOn_5 : decode cX0_piecesOn 5 = .ok (.aload_n 0, 1) := by decide +kernel
theorem dX0_piecesOn_6 : decode cX0_piecesOn 6 = .ok (.iload_n 2, 1) := by decide +kernel
theorem dX0_piecesOn_7 : decode cX0_piecesOn 7 = .ok (.invokevirtual 17, 3) := by decide +kernel
theorem dX0_piecesOn_10 : decode cX0_piecesOn 10 = .ok (.iload_n 1, 1) := by decide +kernel
theorem dX0_piecesOn_11 : decode cX0_piecesOn 11 = .ok (.if_icmp .ne 13, 3) := by decide +kernel
theorem dX0_piecesOn_14 : decode cX0_piecesOn 14 = .ok (.aload_n 0, 1) := by decide +kernel
theorem dX0_piecesOn_15 : decode cX0_piecesOn 15 = .ok (.iload_n 2, 1) := by decide +kernel
theorem dX0_piecesOn_16 : decode cX0_piecesOn 16 = .ok (.iconst 1, 1) := by decide +kernel
theorem dX0_piecesOn_17 : decode cX0_piecesOn 17 = .ok (.iadd, 1) := by decide +kernel
theorem dX0_piecesOn_18 : decode cX0_piecesOn 18 = .ok (.invokevirtual 17, 3) := by decide +kernel
theorem dX0_piecesOn_21 : decode cX0_piecesOn 21 = .ok (.goto 4, 3) := by decide +kernel
theorem dX0_piecesOn_24 : decode cX0_piecesOn 24 = .ok (.iconst 0, 1) := by decide +kernel
theorem dX0_piecesOn_25 : decode cX0_piecesOn 25 = .ok (.ireturn, 1) := by decide +kernel
theorem dX0_centsOn_0 : decode cX0_centsOn 0 = .ok (.iload_n 1, 1) := by decide +kernel
theorem dX0_centsOn_1 : decode cX0_centsOn 1 = .ok (.invokestatic 30, 3) := by decide +kernel
theorem dX0_centsOn_4 : decode cX0_centsOn 4 = .ok (.istore_n 2, 1) := by decide +kernel
theorem dX0_centsOn_5 : decode cX0_centsOn 5 = .ok (.aload_n 0, 1) := by decide +kernel
theorem dX0_centsOn_6 : decode cX0_centsOn 6 = .ok (.iload_n 2, 1) := by decide +kernel
theorem dX0_centsOn_7 : decode cX0_centsOn 7 = .ok (.invokevirtual 17, 3) := by decide +kernel
theorem dX0_centsOn_10 : decode cX0_centsOn 10 = .ok (.iload_n 1, 1) := by decide +kernel
theorem dX0_centsOn_11 : decode cX0_centsOn 11 = .ok (.if_icmp .ne 13, 3) := by decide +kernel
theorem dX0_centsOn_14 : decode cX0_centsOn 14 = .ok (.aload_n 0, 1) := by decide +kernel
theorem dX0_centsOn_15 : decode cX0_centsOn 15 = .ok (.iload_n 2, 1) := by decide +kernel
theorem dX0_centsOn_16 : decode cX0_centsOn 16 = .ok (.iconst 2, 1) := by decide +kernel
theorem dX0_centsOn_17 : decode cX0_centsOn 17 = .ok (.iadd, 1) := by decide +kernel
theorem dX0_centsOn_18 : decode cX0_centsOn 18 = .ok (.invokevirtual 26, 3) := by decide +kernel
theorem dX0_centsOn_21 : decode cX0_centsOn 21 = .ok (.goto 4, 3) := by decide +kernel
theorem dX0_centsOn_24 : decode cX0_centsOn 24 = .ok (.lconst 0, 1) := by decide +kernel
theorem dX0_centsOn_25 : decode cX0_centsOn 25 = .ok (.lreturn, 1) := by decide +kernel
theorem dX0_registersAddUp_0 : decode cX0_registersAddUp 0 = .ok (.aload_n 0, 1) := by decide +kernel
theorem dX0_registersAddUp_1 : decode cX0_registersAddUp 1 = .ok (.iconst 0, 1) := by decide +kernel
theorem dX0_registersAddUp_2 : decode cX0_registersAddUp 2 = .ok (.invokevirtual 26, 3) := by decide +kernel
theorem dX0_registersAddUp_5 : decode cX0_registersAddUp 5 = .ok (.aload_n 0, 1) := by decide +kernel
theorem dX0_registersAddUp_6 : decode cX0_registersAddUp 6 = .ok (.iconst 2, 1) := by decide +kernel
theorem dX0_registersAddUp_7 : decode cX0_registersAddUp 7 = .ok (.invokevirtual 26, 3) := by decide +kernel
theorem dX0_registersAddUp_10 : decode cX0_registersAddUp 10 = .ok (.ladd, 1) := by decide +kernel
theorem dX0_registersAddUp_11 : decode cX0_registersAddUp 11 = .ok (.aload_n 0, 1) := by decide +kernel
theorem dX0_registersAddUp_12 : decode cX0_registersAddUp 12 = .ok (.iconst 4, 1) := by decide +kernel
theorem dX0_registersAddUp_13 : decode cX0_registersAddUp 13 = .ok (.invokevirtual 26, 3) := by decide +kernel
theorem dX0_registersAddUp_16 : decode cX0_registersAddUp 16 = .ok (.aload_n 0, 1) := by decide +kernel
theorem dX0_registersAddUp_17 : decode cX0_registersAddUp 17 = .ok (.bipush 6, 2) := by decide +kernel
theorem dX0_registersAddUp_19 : decode cX0_registersAddUp 19 = .ok (.invokevirtual 26, 3) := by decide +kernel
theorem dX0_registersAddUp_22 : decode cX0_registersAddUp 22 = .ok (.ladd, 1) := by decide +kernel
theorem dX0_registersAddUp_23 : decode cX0_registersAddUp 23 = .ok (.lcmp, 1) := by decide +kernel
theorem dX0_registersAddUp_24 : decode cX0_registersAddUp 24 = .ok (.ifCond .ne 7, 3) := by decide +kernel
theorem dX0_registersAddUp_27 : decode cX0_registersAddUp 27 = .ok (.iconst 1, 1) := by decide +kernel
theorem dX0_registersAddUp_28 : decode cX0_registersAddUp 28 = .ok (.goto 4, 3) := by decide +kernel
theorem dX0_registersAddUp_31 : decode cX0_registersAddUp 31 = .ok (.iconst 0, 1) := by decide +kernel
theorem dX0_registersAddUp_32 : decode cX0_registersAddUp 32 = .ok (.ireturn, 1) := by decide +kernel
theorem dX0_departmentsAddUp_0 : decode cX0_departmentsAddUp 0 = .ok (.lconst 0, 1) := by decide +kernel
theorem dX0_departmentsAddUp_1 : decode cX0_departmentsAddUp 1 = .ok (.lstore_n 1, 1) := by decide +kernel
theorem dX0_departmentsAddUp_2 : decode cX0_departmentsAddUp 2 = .ok (.lconst 0, 1) := by decide +kernel
theorem dX0_departmentsAddUp_3 : decode cX0_departmentsAddUp 3 = .ok (.lstore_n 3, 1) := by decide +kernel
theorem dX0_departmentsAddUp_4 : decode cX0_departmentsAddUp 4 = .ok (.iconst 0, 1) := by decide +kernel
theorem dX0_departmentsAddUp_5 : decode cX0_departmentsAddUp 5 = .ok (.istore 5, 2) := by decide +kernel
theorem dX0_departmentsAddUp_7 : decode cX0_departmentsAddUp 7 = .ok (.iload 5, 2) := by decide +kernel
theorem dX0_departmentsAddUp_9 : decode cX0_departmentsAddUp 9 = .ok (.bipush 16, 2) := by decide +kernel
theorem dX0_departmentsAddUp_11 : decode cX0_departmentsAddUp 11 = .ok (.if_icmp .ge 28, 3) := by decide +kernel
theorem dX0_departmentsAddUp_14 : decode cX0_departmentsAddUp 14 = .ok (.lload_n 1, 1) := by decide +kernel
theorem dX0_departmentsAddUp_15 : decode cX0_departmentsAddUp 15 = .ok (.aload_n 0, 1) := by decide +kernel
theorem dX0_departmentsAddUp_16 : decode cX0_departmentsAddUp 16 = .ok (.iload 5, 2) := by decide +kernel
theorem dX0_departmentsAddUp_18 : decode cX0_departmentsAddUp 18 = .ok (.invokevirtual 33, 3) := by decide +kernel
theorem dX0_departmentsAddUp_21 : decode cX0_departmentsAddUp 21 = .ok (.i2l, 1) := by decide +kernel
theorem dX0_departmentsAddUp_22 : decode cX0_departmentsAddUp 22 = .ok (.ladd, 1) := by decide +kernel
theorem dX0_departmentsAddUp_23 : decode cX0_departmentsAddUp 23 = .ok (.lstore_n 1, 1) := by decide +kernel
theorem dX0_departmentsAddUp_24 : decode cX0_departmentsAddUp 24 = .ok (.lload_n 3, 1) := by decide +kernel
theorem dX0_departmentsAddUp_25 : decode cX0_departmentsAddUp 25 = .ok (.aload_n 0, 1) := by decide +kernel
theorem dX0_departmentsAddUp_26 : decode cX0_departmentsAddUp 26 = .ok (.iload 5, 2) := by decide +kernel
theorem dX0_departmentsAddUp_28 : decode cX0_departmentsAddUp 28 = .ok (.invokevirtual 36, 3) := by decide +kernel
theorem dX0_departmentsAddUp_31 : decode cX0_departmentsAddUp 31 = .ok (.ladd, 1) := by decide +kernel
theorem dX0_departmentsAddUp_32 : decode cX0_departmentsAddUp 32 = .ok (.lstore_n 3, 1) := by decide +kernel
theorem dX0_departmentsAddUp_33 : decode cX0_departmentsAddUp 33 = .ok (.iinc 5 1, 3) := by decide +kernel
theorem dX0_departmentsAddUp_36 : decode cX0_departmentsAddUp 36 = .ok (.goto (-29), 3) := by decide +kernel
theorem dX0_departmentsAddUp_39 : decode cX0_departmentsAddUp 39 = .ok (.lload_n 1, 1) := by decide +kernel
theorem dX0_departmentsAddUp_40 : decode cX0_departmentsAddUp 40 = .ok (.aload_n 0, 1) := by decide +kernel
theorem dX0_departmentsAddUp_41 : decode cX0_departmentsAddUp 41 = .ok (.bipush 8, 2) := by decide +kernel
theorem dX0_departmentsAddUp_43 : decode cX0_departmentsAddUp 43 = .ok (.invokevirtual 17, 3) := by decide +kernel
theorem dX0_departmentsAddUp_46 : decode cX0_departmentsAddUp 46 = .ok (.i2l, 1) := by decide +kernel
theorem dX0_departmentsAddUp_47 : decode cX0_departmentsAddUp 47 = .ok (.lcmp, 1) := by decide +kernel
theorem dX0_departmentsAddUp_48 : decode cX0_departmentsAddUp 48 = .ok (.ifCond .ne 17, 3) := by decide +kernel
theorem dX0_departmentsAddUp_51 : decode cX0_departmentsAddUp 51 = .ok (.lload_n 3, 1) := by decide +kernel
theorem dX0_departmentsAddUp_52 : decode cX0_departmentsAddUp 52 = .ok (.aload_n 0, 1) := by decide +kernel
theorem dX0_departmentsAddUp_53 : decode cX0_departmentsAddUp 53 = .ok (.iconst 0, 1) := by decide +kernel
theorem dX0_departmentsAddUp_54 : decode cX0_departmentsAddUp 54 = .ok (.invokevirtual 26, 3) := by decide +kernel
theorem dX0_departmentsAddUp_57 : decode cX0_departmentsAddUp 57 = .ok (.lcmp, 1) := by decide +kernel
theorem dX0_departmentsAddUp_58 : decode cX0_departmentsAddUp 58 = .ok (.ifCond .ne 7, 3) := by decide +kernel
theorem dX0_departmentsAddUp_61 : decode cX0_departmentsAddUp 61 = .ok (.iconst 1, 1) := by decide +kernel
theorem dX0_departmentsAddUp_62 : decode cX0_departmentsAddUp 62 = .ok (.goto 4, 3) := by decide +kernel
theorem dX0_departmentsAddUp_65 : decode cX0_departmentsAddUp 65 = .ok (.iconst 0, 1) := by decide +kernel
theorem dX0_departmentsAddUp_66 : decode cX0_departmentsAddUp 66 = .ok (.ireturn, 1) := by decide +kernel
theorem dX0_apply_0 : decode cX0_apply 0 = .ok (.iload_n 1, 1) := by decide +kernel
theorem dX0_apply_1 : decode cX0_apply 1 = .ok (.tableswitch 173 1 9 #[51, 72, 82, 90, 111, 133, 143, 153, 163], 51) := by decide +kernel
theorem dX0_apply_52 : decode cX0_apply 52 = .ok (.aload_n 0, 1) := by decide +kernel
theorem dX0_apply_53 : decode cX0_apply 53 = .ok (.iload_n 2, 1) := by decide +kernel
theorem dX0_apply_54 : decode cX0_apply 54 = .ok (.iload_n 3, 1) := by decide +kernel
theorem dX0_apply_55 : decode cX0_apply 55 = .ok (.bipush 16, 2) := by decide +kernel
theorem dX0_apply_57 : decode cX0_apply 57 = .ok (.irem, 1) := by decide +kernel
theorem dX0_apply_58 : decode cX0_apply 58 = .ok (.invokevirtual 39, 3) := by decide +kernel
theorem dX0_apply_61 : decode cX0_apply 61 = .ok (.aload_n 0, 1) := by decide +kernel
theorem dX0_apply_62 : decode cX0_apply 62 = .ok (.iload_n 2, 1) := by decide +kernel
theorem dX0_apply_63 : decode cX0_apply 63 = .ok (.iload_n 3, 1) := by decide +kernel
theorem dX0_apply_64 : decode cX0_apply 64 = .ok (.bipush 16, 2) := by decide +kernel
theorem dX0_apply_66 : decode cX0_apply 66 = .ok (.idiv, 1) := by decide +kernel
theorem dX0_apply_67 : decode cX0_apply 67 = .ok (.invokevirtual 42, 3) := by decide +kernel
theorem dX0_apply_70 : decode cX0_apply 70 = .ok (.goto 104, 3) := by decide +kernel
theorem dX0_apply_73 : decode cX0_apply 73 = .ok (.aload_n 0, 1) := by decide +kernel
theorem dX0_apply_74 : decode cX0_apply 74 = .ok (.bipush 14, 2) := by decide +kernel
theorem dX0_apply_76 : decode cX0_apply 76 = .ok (.iconst 0, 1) := by decide +kernel
theorem dX0_apply_77 : decode cX0_apply 77 = .ok (.invokevirtual 13, 3) := by decide +kernel
theorem dX0_apply_80 : decode cX0_apply 80 = .ok (.goto 94, 3) := by decide +kernel
theorem dX0_apply_83 : decode cX0_apply 83 = .ok (.aload_n 0, 1) := by decide +kernel
theorem dX0_apply_84 : decode cX0_apply 84 = .ok (.iload_n 2, 1) := by decide +kernel
theorem dX0_apply_85 : decode cX0_apply 85 = .ok (.invokevirtual 45, 3) := by decide +kernel
theorem dX0_apply_88 : decode cX0_apply 88 = .ok (.goto 86, 3) := by decide +kernel
theorem dX0_apply_91 : decode cX0_apply 91 = .ok (.aload_n 0, 1) := by decide +kernel
theorem dX0_apply_92 : decode cX0_apply 92 = .ok (.iconst 2, 1) := by decide +kernel
theorem dX0_apply_93 : decode cX0_apply 93 = .ok (.iload_n 2, 1) := by decide +kernel
theorem dX0_apply_94 : decode cX0_apply 94 = .ok (.invokevirtual 49, 3) := by decide +kernel
theorem dX0_apply_97 : decode cX0_apply 97 = .ok (.aload_n 0, 1) := by decide +kernel
theorem dX0_apply_98 : decode cX0_apply 98 = .ok (.iconst 4, 1) := by decide +kernel
theorem dX0_apply_99 : decode cX0_apply 99 = .ok (.iload_n 2, 1) := by decide +kernel
theorem dX0_apply_100 : decode cX0_apply 100 = .ok (.invokevirtual 49, 3) := by decide +kernel
theorem dX0_apply_103 : decode cX0_apply 103 = .ok (.aload_n 0, 1) := by decide +kernel
theorem dX0_apply_104 : decode cX0_apply 104 = .ok (.bipush 10, 2) := by decide +kernel
theorem dX0_apply_106 : decode cX0_apply 106 = .ok (.invokevirtual 52, 3) := by decide +kernel
theorem dX0_apply_109 : decode cX0_apply 109 = .ok (.goto 65, 3) := by decide +kernel
theorem dX0_apply_112 : decode cX0_apply 112 = .ok (.aload_n 0, 1) := by decide +kernel
theorem dX0_apply_113 : decode cX0_apply 113 = .ok (.iconst 2, 1) := by decide +kernel
theorem dX0_apply_114 : decode cX0_apply 114 = .ok (.iload_n 2, 1) := by decide +kernel
theorem dX0_apply_115 : decode cX0_apply 115 = .ok (.invokevirtual 49, 3) := by decide +kernel
theorem dX0_apply_118 : decode cX0_apply 118 = .ok (.aload_n 0, 1) := by decide +kernel
theorem dX0_apply_119 : decode cX0_apply 119 = .ok (.bipush 6, 2) := by decide +kernel
theorem dX0_apply_121 : decode cX0_apply 121 = .ok (.iload_n 2, 1) := by decide +kernel
theorem dX0_apply_122 : decode cX0_apply 122 = .ok (.invokevirtual 49, 3) := by decide +kernel
theorem dX0_apply_125 : decode cX0_apply 125 = .ok (.aload_n 0, 1) := by decide +kernel
theorem dX0_apply_126 : decode cX0_apply 126 = .ok (.bipush 9, 2) := by decide +kernel
theorem dX0_apply_128 : decode cX0_apply 128 = .ok (.invokevirtual 52, 3) := by decide +kernel
theorem dX0_apply_131 : decode cX0_apply 131 = .ok (.goto 43, 3) := by decide +kernel
theorem dX0_apply_134 : decode cX0_apply 134 = .ok (.aload_n 0, 1) := by decide +kernel
theorem dX0_apply_135 : decode cX0_apply 135 = .ok (.bipush 12, 2) := by decide +kernel
theorem dX0_apply_137 : decode cX0_apply 137 = .ok (.iload_n 2, 1) := by decide +kernel
theorem dX0_apply_138 : decode cX0_apply 138 = .ok (.invokevirtual 13, 3) := by decide +kernel
theorem dX0_apply_141 : decode cX0_apply 141 = .ok (.goto 33, 3) := by decide +kernel
theorem dX0_apply_144 : decode cX0_apply 144 = .ok (.aload_n 0, 1) := by decide +kernel
theorem dX0_apply_145 : decode cX0_apply 145 = .ok (.bipush 11, 2) := by decide +kernel
theorem dX0_apply_147 : decode cX0_apply 147 = .ok (.iconst 1, 1) := by decide +kernel
theorem dX0_apply_148 : decode cX0_apply 148 = .ok (.invokevirtual 13, 3) := by decide +kernel
theorem dX0_apply_151 : decode cX0_apply 151 = .ok (.goto 23, 3) := by decide +kernel
theorem dX0_apply_154 : decode cX0_apply 154 = .ok (.aload_n 0, 1) := by decide +kernel
theorem dX0_apply_155 : decode cX0_apply 155 = .ok (.bipush 11, 2) := by decide +kernel
theorem dX0_apply_157 : decode cX0_apply 157 = .ok (.iconst 0, 1) := by decide +kernel
theorem dX0_apply_158 : decode cX0_apply 158 = .ok (.invokevirtual 13, 3) := by decide +kernel
theorem dX0_apply_161 : decode cX0_apply 161 = .ok (.goto 13, 3) := by decide +kernel
theorem dX0_apply_164 : decode cX0_apply 164 = .ok (.aload_n 0, 1) := by decide +kernel
theorem dX0_apply_165 : decode cX0_apply 165 = .ok (.bipush 13, 2) := by decide +kernel
theorem dX0_apply_167 : decode cX0_apply 167 = .ok (.iload_n 2, 1) := by decide +kernel
theorem dX0_apply_168 : decode cX0_apply 168 = .ok (.invokevirtual 13, 3) := by decide +kernel
theorem dX0_apply_171 : decode cX0_apply 171 = .ok (.goto 3, 3) := by decide +kernel
theorem dX0_apply_174 : decode cX0_apply 174 = .ok (.return_, 1) := by decide +kernel
theorem dX0_addPiece_0 : decode cX0_addPiece 0 = .ok (.aload_n 0, 1) := by decide +kernel
theorem dX0_addPiece_1 : decode cX0_addPiece 1 = .ok (.iconst 0, 1) := by decide +kernel
theorem dX0_addPiece_2 : decode cX0_addPiece 2 = .ok (.iload_n 1, 1) := by decide +kernel
theorem dX0_addPiece_3 : decode cX0_addPiece 3 = .ok (.invokevirtual 49, 3) := by decide +kernel
theorem dX0_addPiece_6 : decode cX0_addPiece 6 = .ok (.aload_n 0, 1) := by decide +kernel
theorem dX0_addPiece_7 : decode cX0_addPiece 7 = .ok (.iconst 2, 1) := by decide +kernel
theorem dX0_addPiece_8 : decode cX0_addPiece 8 = .ok (.iload_n 1, 1) := by decide +kernel
theorem dX0_addPiece_9 : decode cX0_addPiece 9 = .ok (.ineg, 1) := by decide +kernel
theorem dX0_addPiece_10 : decode cX0_addPiece 10 = .ok (.invokevirtual 49, 3) := by decide +kernel
theorem dX0_addPiece_13 : decode cX0_addPiece 13 = .ok (.aload_n 0, 1) := by decide +kernel
theorem dX0_addPiece_14 : decode cX0_addPiece 14 = .ok (.bipush 8, 2) := by decide +kernel
theorem dX0_addPiece_16 : decode cX0_addPiece 16 = .ok (.invokevirtual 52, 3) := by decide +kernel
theorem dX0_addPiece_19 : decode cX0_addPiece 19 = .ok (.aload_n 0, 1) := by decide +kernel
theorem dX0_addPiece_20 : decode cX0_addPiece 20 = .ok (.iload_n 2, 1) := by decide +kernel
theorem dX0_addPiece_21 : decode cX0_addPiece 21 = .ok (.invokestatic 23, 3) := by decide +kernel
theorem dX0_addPiece_24 : decode cX0_addPiece 24 = .ok (.invokevirtual 52, 3) := by decide +kernel
theorem dX0_addPiece_27 : decode cX0_addPiece 27 = .ok (.aload_n 0, 1) := by decide +kernel
theorem dX0_addPiece_28 : decode cX0_addPiece 28 = .ok (.iload_n 2, 1) := by decide +kernel
theorem dX0_addPiece_29 : decode cX0_addPiece 29 = .ok (.invokestatic 23, 3) := by decide +kernel
theorem dX0_addPiece_32 : decode cX0_addPiece 32 = .ok (.iconst 1, 1) := by decide +kernel
theorem dX0_addPiece_33 : decode cX0_addPiece 33 = .ok (.iadd, 1) := by decide +kernel
theorem dX0_addPiece_34 : decode cX0_addPiece 34 = .ok (.iload_n 1, 1) := by decide +kernel
theorem dX0_addPiece_35 : decode cX0_addPiece 35 = .ok (.invokevirtual 49, 3) := by decide +kernel
theorem dX0_addPiece_38 : decode cX0_addPiece 38 = .ok (.aload_n 0, 1) := by decide +kernel
theorem dX0_addPiece_39 : decode cX0_addPiece 39 = .ok (.bipush 14, 2) := by decide +kernel
theorem dX0_addPiece_41 : decode cX0_addPiece 41 = .ok (.iload_n 1, 1) := by decide +kernel
theorem dX0_addPiece_42 : decode cX0_addPiece 42 = .ok (.invokevirtual 13, 3) := by decide +kernel
theorem dX0_addPiece_45 : decode cX0_addPiece 45 = .ok (.return_, 1) := by decide +kernel
theorem dX0_addToDay_0 : decode cX0_addToDay 0 = .ok (.iload_n 2, 1) := by decide +kernel
theorem dX0_addToDay_1 : decode cX0_addToDay 1 = .ok (.invokestatic 30, 3) := by decide +kernel
theorem dX0_addToDay_4 : decode cX0_addToDay 4 = .ok (.istore_n 3, 1) := by decide +kernel
theorem dX0_addToDay_5 : decode cX0_addToDay 5 = .ok (.aload_n 0, 1) := by decide +kernel
theorem dX0_addToDay_6 : decode cX0_addToDay 6 = .ok (.iload_n 3, 1) := by decide +kernel
theorem dX0_addToDay_7 : decode cX0_addToDay 7 = .ok (.invokevirtual 17, 3) := by decide +kernel
theorem dX0_addToDay_10 : decode cX0_addToDay 10 = .ok (.iconst (-1), 1) := by decide +kernel
theorem dX0_addToDay_11 : decode cX0_addToDay 11 = .ok (.if_icmp .eq 12, 3) := by decide +kernel
theorem dX0_addToDay_14 : decode cX0_addToDay 14 = .ok (.aload_n 0, 1) := by decide +kernel
theorem dX0_addToDay_15 : decode cX0_addToDay 15 = .ok (.iload_n 3, 1) := by decide +kernel
theorem dX0_addToDay_16 : decode cX0_addToDay 16 = .ok (.invokevirtual 17, 3) := by decide +kernel
theorem dX0_addToDay_19 : decode cX0_addToDay 19 = .ok (.iload_n 2, 1) := by decide +kernel
theorem dX0_addToDay_20 : decode cX0_addToDay 20 = .ok (.if_icmp .ge 33, 3) := by decide +kernel
theorem dX0_addToDay_23 : decode cX0_addToDay 23 = .ok (.aload_n 0, 1) := by decide +kernel
theorem dX0_addToDay_24 : decode cX0_addToDay 24 = .ok (.iload_n 3, 1) := by decide +kernel
theorem dX0_addToDay_25 : decode cX0_addToDay 25 = .ok (.iload_n 2, 1) := by decide +kernel
theorem dX0_addToDay_26 : decode cX0_addToDay 26 = .ok (.invokevirtual 13, 3) := by decide +kernel
theorem dX0_addToDay_29 : decode cX0_addToDay 29 = .ok (.aload_n 0, 1) := by decide +kernel
theorem dX0_addToDay_30 : decode cX0_addToDay 30 = .ok (.iload_n 3, 1) := by decide +kernel
theorem dX0_addToDay_31 : decode cX0_addToDay 31 = .ok (.iconst 1, 1) := by decide +kernel
theorem dX0_addToDay_32 : decode cX0_addToDay 32 = .ok (.iadd, 1) := by decide +kernel
theorem dX0_addToDay_33 : decode cX0_addToDay 33 = .ok (.iconst 0, 1) := by decide +kernel
theorem dX0_addToDay_34 : decode cX0_addToDay 34 = .ok (.invokevirtual 13, 3) := by decide +kernel
theorem dX0_addToDay_37 : decode cX0_addToDay 37 = .ok (.aload_n 0, 1) := by decide +kernel
theorem dX0_addToDay_38 : decode cX0_addToDay 38 = .ok (.iload_n 3, 1) := by decide +kernel
theorem dX0_addToDay_39 : decode cX0_addToDay 39 = .ok (.iconst 2, 1) := by decide +kernel
theorem dX0_addToDay_40 : decode cX0_addToDay 40 = .ok (.iadd, 1) := by decide +kernel
theorem dX0_addToDay_41 : decode cX0_addToDay 41 = .ok (.iconst 0, 1) := by decide +kernel
theorem dX0_addToDay_42 : decode cX0_addToDay 42 = .ok (.invokevirtual 13, 3) := by decide +kernel
theorem dX0_addToDay_45 : decode cX0_addToDay 45 = .ok (.aload_n 0, 1) := by decide +kernel
theorem dX0_addToDay_46 : decode cX0_addToDay 46 = .ok (.iload_n 3, 1) := by decide +kernel
theorem dX0_addToDay_47 : decode cX0_addToDay 47 = .ok (.iconst 3, 1) := by decide +kernel
theorem dX0_addToDay_48 : decode cX0_addToDay 48 = .ok (.iadd, 1) := by decide +kernel
theorem dX0_addToDay_49 : decode cX0_addToDay 49 = .ok (.iconst 0, 1) := by decide +kernel
theorem dX0_addToDay_50 : decode cX0_addToDay 50 = .ok (.invokevirtual 13, 3) := by decide +kernel
theorem dX0_addToDay_53 : decode cX0_addToDay 53 = .ok (.aload_n 0, 1) := by decide +kernel
theorem dX0_addToDay_54 : decode cX0_addToDay 54 = .ok (.iload_n 3, 1) := by decide +kernel
theorem dX0_addToDay_55 : decode cX0_addToDay 55 = .ok (.invokevirtual 17, 3) := by decide +kernel
theorem dX0_addToDay_58 : decode cX0_addToDay 58 = .ok (.iload_n 2, 1) := by decide +kernel
theorem dX0_addToDay_59 : decode cX0_addToDay 59 = .ok (.if_icmp .ne 18, 3) := by decide +kernel
theorem dX0_addToDay_62 : decode cX0_addToDay 62 = .ok (.aload_n 0, 1) := by decide +kernel
theorem dX0_addToDay_63 : decode cX0_addToDay 63 = .ok (.iload_n 3, 1) := by decide +kernel
theorem dX0_addToDay_64 : decode cX0_addToDay 64 = .ok (.iconst 1, 1) := by decide +kernel
theorem dX0_addToDay_65 : decode cX0_addToDay 65 = .ok (.iadd, 1) := by decide +kernel
theorem dX0_addToDay_66 : decode cX0_addToDay 66 = .ok (.invokevirtual 52, 3) := by decide +kernel
theorem dX0_addToDay_69 : decode cX0_addToDay 69 = .ok (.aload_n 0, 1) := by decide +kernel
theorem dX0_addToDay_70 : decode cX0_addToDay 70 = .ok (.iload_n 3, 1) := by decide +kernel
theorem dX0_addToDay_71 : decode cX0_addToDay 71 = .ok (.iconst 2, 1) := by decide +kernel
theorem dX0_addToDay_72 : decode cX0_addToDay 72 = .ok (.iadd, 1) := by decide +kernel
theorem dX0_addToDay_73 : decode cX0_addToDay 73 = .ok (.iload_n 1, 1) := by decide +kernel
theorem dX0_addToDay_74 : decode cX0_addToDay 74 = .ok (.invokevirtual 49, 3) := by decide +kernel
theorem dX0_addToDay_77 : decode cX0_addToDay 77 = .ok (.return_, 1) := by decide +kernel
theorem dX0_settleFor_0 : decode cX0_settleFor 0 = .ok (.iload_n 1, 1) := by decide +kernel
theorem dX0_settleFor_1 : decode cX0_settleFor 1 = .ok (.ifCond .ne 26, 3) := by decide +kernel
theorem dX0_settleFor_4 : decode cX0_settleFor 4 = .ok (.aload_n 0, 1) := by decide +kernel
theorem dX0_settleFor_5 : decode cX0_settleFor 5 = .ok (.iconst 2, 1) := by decide +kernel
theorem dX0_settleFor_6 : decode cX0_settleFor 6 = .ok (.aload_n 0, 1) := by decide +kernel
theorem dX0_settleFor_7 : decode cX0_settleFor 7 = .ok (.bipush 14, 2) := by decide +kernel
theorem dX0_settleFor_9 : decode cX0_settleFor 9 = .ok (.invokevirtual 17, 3) := by decide +kernel
theorem dX0_settleFor_12 : decode cX0_settleFor 12 = .ok (.invokevirtual 49, 3) := by decide +kernel
theorem dX0_settleFor_15 : decode cX0_settleFor 15 = .ok (.aload_n 0, 1) := by decide +kernel
theorem dX0_settleFor_16 : decode cX0_settleFor 16 = .ok (.bipush 6, 2) := by decide +kernel
theorem dX0_settleFor_18 : decode cX0_settleFor 18 = .ok (.aload_n 0, 1) := by decide +kernel
theorem dX0_settleFor_19 : decode cX0_settleFor 19 = .ok (.bipush 14, 2) := by decide +kernel
theorem dX0_settleFor_21 : decode cX0_settleFor 21 = .ok (.invokevirtual 17, 3) := by decide +kernel
theorem dX0_settleFor_24 : decode cX0_settleFor 24 = .ok (.invokevirtual 49, 3) := by decide +kernel
theorem dX0_settleFor_27 : decode cX0_settleFor 27 = .ok (.aload_n 0, 1) := by decide +kernel
theorem dX0_settleFor_28 : decode cX0_settleFor 28 = .ok (.bipush 14, 2) := by decide +kernel
theorem dX0_settleFor_30 : decode cX0_settleFor 30 = .ok (.iconst 0, 1) := by decide +kernel
theorem dX0_settleFor_31 : decode cX0_settleFor 31 = .ok (.invokevirtual 13, 3) := by decide +kernel
theorem dX0_settleFor_34 : decode cX0_settleFor 34 = .ok (.return_, 1) := by decide +kernel
theorem dX0_addOne_0 : decode cX0_addOne 0 = .ok (.aload_n 0, 1) := by decide +kernel
theorem dX0_addOne_1 : decode cX0_addOne 1 = .ok (.iload_n 1, 1) := by decide +kernel
theorem dX0_addOne_2 : decode cX0_addOne 2 = .ok (.aload_n 0, 1) := by decide +kernel
theorem dX0_addOne_3 : decode cX0_addOne 3 = .ok (.iload_n 1, 1) := by decide +kernel
theorem dX0_addOne_4 : decode cX0_addOne 4 = .ok (.invokevirtual 17, 3) := by decide +kernel
theorem dX0_addOne_7 : decode cX0_addOne 7 = .ok (.iconst 1, 1) := by decide +kernel
theorem dX0_addOne_8 : decode cX0_addOne 8 = .ok (.iadd, 1) := by decide +kernel
theorem dX0_addOne_9 : decode cX0_addOne 9 = .ok (.invokevirtual 13, 3) := by decide +kernel
theorem dX0_addOne_12 : decode cX0_addOne 12 = .ok (.return_, 1) := by decide +kernel
theorem dX0_addToSum_0 : decode cX0_addToSum 0 = .ok (.aload_n 0, 1) := by decide +kernel
theorem dX0_addToSum_1 : decode cX0_addToSum 1 = .ok (.iload_n 1, 1) := by decide +kernel
theorem dX0_addToSum_2 : decode cX0_addToSum 2 = .ok (.invokevirtual 26, 3) := by decide +kernel
theorem dX0_addToSum_5 : decode cX0_addToSum 5 = .ok (.iload_n 2, 1) := by decide +kernel
theorem dX0_addToSum_6 : decode cX0_addToSum 6 = .ok (.i2l, 1) := by decide +kernel
theorem dX0_addToSum_7 : decode cX0_addToSum 7 = .ok (.ladd, 1) := by decide +kernel
theorem dX0_addToSum_8 : decode cX0_addToSum 8 = .ok (.lstore_n 3, 1) := by decide +kernel
theorem dX0_addToSum_9 : decode cX0_addToSum 9 = .ok (.aload_n 0, 1) := by decide +kernel
theorem dX0_addToSum_10 : decode cX0_addToSum 10 = .ok (.iload_n 1, 1) := by decide +kernel
theorem dX0_addToSum_11 : decode cX0_addToSum 11 = .ok (.lload_n 3, 1) := by decide +kernel
theorem dX0_addToSum_12 : decode cX0_addToSum 12 = .ok (.l2i, 1) := by decide +kernel
theorem dX0_addToSum_13 : decode cX0_addToSum 13 = .ok (.invokevirtual 13, 3) := by decide +kernel
theorem dX0_addToSum_16 : decode cX0_addToSum 16 = .ok (.aload_n 0, 1) := by decide +kernel
theorem dX0_addToSum_17 : decode cX0_addToSum 17 = .ok (.iload_n 1, 1) := by decide +kernel
theorem dX0_addToSum_18 : decode cX0_addToSum 18 = .ok (.iconst 1, 1) := by decide +kernel
theorem dX0_addToSum_19 : decode cX0_addToSum 19 = .ok (.iadd, 1) := by decide +kernel
theorem dX0_addToSum_20 : decode cX0_addToSum 20 = .ok (.lload_n 3, 1) := by decide +kernel
theorem dX0_addToSum_21 : decode cX0_addToSum 21 = .ok (.bipush 32, 2) := by decide +kernel
theorem dX0_addToSum_23 : decode cX0_addToSum 23 = .ok (.lushr, 1) := by decide +kernel
theorem dX0_addToSum_24 : decode cX0_addToSum 24 = .ok (.l2i, 1) := by decide +kernel
theorem dX0_addToSum_25 : decode cX0_addToSum 25 = .ok (.invokevirtual 13, 3) := by decide +kernel
theorem dX0_addToSum_28 : decode cX0_addToSum 28 = .ok (.return_, 1) := by decide +kernel
theorem dX0_departmentAt_0 : decode cX0_departmentAt 0 = .ok (.bipush 15, 2) := by decide +kernel
theorem dX0_departmentAt_2 : decode cX0_departmentAt 2 = .ok (.iload_n 0, 1) := by decide +kernel
theorem dX0_departmentAt_3 : decode cX0_departmentAt 3 = .ok (.iconst 3, 1) := by decide +kernel
theorem dX0_departmentAt_4 : decode cX0_departmentAt 4 = .ok (.imul, 1) := by decide +kernel
theorem dX0_departmentAt_5 : decode cX0_departmentAt 5 = .ok (.iadd, 1) := by decide +kernel
theorem dX0_departmentAt_6 : decode cX0_departmentAt 6 = .ok (.ireturn, 1) := by decide +kernel
theorem dX0_placeOfDay_0 : decode cX0_placeOfDay 0 = .ok (.bipush 63, 2) := by decide +kernel
theorem dX0_placeOfDay_2 : decode cX0_placeOfDay 2 = .ok (.iload_n 0, 1) := by decide +kernel
theorem dX0_placeOfDay_3 : decode cX0_placeOfDay 3 = .ok (.bipush 32, 2) := by decide +kernel
theorem dX0_placeOfDay_5 : decode cX0_placeOfDay 5 = .ok (.irem, 1) := by decide +kernel
theorem dX0_placeOfDay_6 : decode cX0_placeOfDay 6 = .ok (.iconst 4, 1) := by decide +kernel
theorem dX0_placeOfDay_7 : decode cX0_placeOfDay 7 = .ok (.imul, 1) := by decide +kernel
theorem dX0_placeOfDay_8 : decode cX0_placeOfDay 8 = .ok (.iadd, 1) := by decide +kernel
theorem dX0_placeOfDay_9 : decode cX0_placeOfDay 9 = .ok (.ireturn, 1) := by decide +kernel
theorem dX1_init_0 : decode cX1_init 0 = .ok (.aload_n 0, 1) := by decide +kernel
theorem dX1_init_1 : decode cX1_init 1 = .ok (.invokespecial 7, 3) := by decide +kernel
theorem dX1_init_4 : decode cX1_init 4 = .ok (.aload_n 0, 1) := by decide +kernel
theorem dX1_init_5 : decode cX1_init 5 = .ok (.aload_n 1, 1) := by decide +kernel
theorem dX1_init_6 : decode cX1_init 6 = .ok (.putfield 13, 3) := by decide +kernel
theorem dX1_init_9 : decode cX1_init 9 = .ok (.aload_n 0, 1) := by decide +kernel
theorem dX1_init_10 : decode cX1_init 10 = .ok (.aload_n 2, 1) := by decide +kernel
theorem dX1_init_11 : decode cX1_init 11 = .ok (.putfield 17, 3) := by decide +kernel
theorem dX1_init_14 : decode cX1_init 14 = .ok (.aload_n 0, 1) := by decide +kernel
theorem dX1_init_15 : decode cX1_init 15 = .ok (.iconst 0, 1) := by decide +kernel
theorem dX1_init_16 : decode cX1_init 16 = .ok (.iconst 1, 1) := by decide +kernel
theorem dX1_init_17 : decode cX1_init 17 = .ok (.invokevirtual 21, 3) := by decide +kernel
theorem dX1_init_20 : decode cX1_init 20 = .ok (.pop, 1) := by decide +kernel
theorem dX1_init_21 : decode cX1_init 21 = .ok (.return_, 1) := by decide +kernel
theorem dX1_lastNumber_0 : decode cX1_lastNumber 0 = .ok (.aload_n 0, 1) := by decide +kernel
theorem dX1_lastNumber_1 : decode cX1_lastNumber 1 = .ok (.getfield 25, 3) := by decide +kernel
theorem dX1_lastNumber_4 : decode cX1_lastNumber 4 = .ok (.ireturn, 1) := by decide +kernel
theorem dX1_append_0 : decode cX1_append 0 = .ok (.aload_n 0, 1) := by decide +kernel
theorem dX1_append_1 : decode cX1_append 1 = .ok (.invokevirtual 29, 3) := by decide +kernel
theorem dX1_append_4 : decode cX1_append 4 = .ok (.ifCond .ne 36, 3) := by decide +kernel
theorem dX1_append_7 : decode cX1_append 7 = .ok (.aload_n 0, 1) := by decide +kernel
theorem dX1_append_8 : decode cX1_append 8 = .ok (.aload_n 0, 1) := by decide +kernel
theorem dX1_append_9 : decode cX1_append 9 = .ok (.getfield 33, 3) := by decide +kernel
theorem dX1_append_12 : decode cX1_append 12 = .ok (.iconst 1, 1) := by decide +kernel
theorem dX1_append_13 : decode cX1_append 13 = .ok (.iadd, 1) := by decide +kernel
theorem dX1_append_14 : decode cX1_append 14 = .ok (.bipush 16, 2) := by decide +kernel
theorem dX1_append_16 : decode cX1_append 16 = .ok (.irem, 1) := by decide +kernel
theorem dX1_append_17 : decode cX1_append 17 = .ok (.aload_n 0, 1) := by decide +kernel
theorem dX1_append_18 : decode cX1_append 18 = .ok (.getfield 13, 3) := by decide +kernel
theorem dX1_append_21 : decode cX1_append 21 = .ok (.aload_n 0, 1) := by decide +kernel
theorem dX1_append_22 : decode cX1_append 22 = .ok (.getfield 33, 3) := by decide +kernel
theorem dX1_append_25 : decode cX1_append 25 = .ok (.iconst 0, 1) := by decide +kernel
theorem dX1_append_26 : decode cX1_append 26 = .ok (.invokevirtual 38, 3) := by decide +kernel
theorem dX1_append_29 : decode cX1_append 29 = .ok (.iconst 1, 1) := by decide +kernel
theorem dX1_append_30 : decode cX1_append 30 = .ok (.iadd, 1) := by decide +kernel
theorem dX1_append_31 : decode cX1_append 31 = .ok (.invokevirtual 21, 3) := by decide +kernel
theorem dX1_append_34 : decode cX1_append 34 = .ok (.ifCond .ne 6, 3) := by decide +kernel
theorem dX1_append_37 : decode cX1_append 37 = .ok (.bipush (-7), 2) := by decide +kernel
theorem dX1_append_39 : decode cX1_append 39 = .ok (.ireturn, 1) := by decide +kernel
theorem dX1_append_40 : decode cX1_append 40 = .ok (.aload_n 0, 1) := by decide +kernel
theorem dX1_append_41 : decode cX1_append 41 = .ok (.getfield 42, 3) := by decide +kernel
theorem dX1_append_44 : decode cX1_append 44 = .ok (.invokestatic 45, 3) := by decide +kernel
theorem dX1_append_47 : decode cX1_append 47 = .ok (.istore 4, 2) := by decide +kernel
theorem dX1_append_49 : decode cX1_append 49 = .ok (.aload_n 0, 1) := by decide +kernel
theorem dX1_append_50 : decode cX1_append 50 = .ok (.getfield 13, 3) := by decide +kernel
theorem dX1_append_53 : decode cX1_append 53 = .ok (.aload_n 0, 1) := by decide +kernel
theorem dX1_append_54 : decode cX1_append 54 = .ok (.getfield 33, 3) := by decide +kernel
theorem dX1_append_57 : decode cX1_append 57 = .ok (.iload 4, 2) := by decide +kernel
theorem dX1_append_59 : decode cX1_append 59 = .ok (.aload_n 0, 1) := by decide +kernel
theorem dX1_append_60 : decode cX1_append 60 = .ok (.getfield 25, 3) := by decide +kernel
theorem dX1_append_63 : decode cX1_append 63 = .ok (.iconst 1, 1) := by decide +kernel
theorem dX1_append_64 : decode cX1_append 64 = .ok (.iadd, 1) := by decide +kernel
theorem dX1_append_65 : decode cX1_append 65 = .ok (.invokevirtual 49, 3) := by decide +kernel
theorem dX1_append_68 : decode cX1_append 68 = .ok (.ifCond .eq 96, 3) := by decide +kernel
theorem dX1_append_71 : decode cX1_append 71 = .ok (.aload_n 0, 1) := by decide +kernel
theorem dX1_append_72 : decode cX1_append 72 = .ok (.getfield 13, 3) := by decide +kernel
theorem dX1_append_75 : decode cX1_append 75 = .ok (.aload_n 0, 1) := by decide +kernel
theorem dX1_append_76 : decode cX1_append 76 = .ok (.getfield 33, 3) := by decide +kernel
theorem dX1_append_79 : decode cX1_append 79 = .ok (.iload 4, 2) := by decide +kernel
theorem dX1_append_81 : decode cX1_append 81 = .ok (.iconst 1, 1) := by decide +kernel
theorem dX1_append_82 : decode cX1_append 82 = .ok (.iadd, 1) := by decide +kernel
theorem dX1_append_83 : decode cX1_append 83 = .ok (.iload_n 1, 1) := by decide +kernel
theorem dX1_append_84 : decode cX1_append 84 = .ok (.invokevirtual 49, 3) := by decide +kernel
theorem dX1_append_87 : decode cX1_append 87 = .ok (.ifCond .eq 77, 3) := by decide +kernel
theorem dX1_append_90 : decode cX1_append 90 = .ok (.aload_n 0, 1) := by decide +kernel
theorem dX1_append_91 : decode cX1_append 91 = .ok (.getfield 13, 3) := by decide +kernel
theorem dX1_append_94 : decode cX1_append 94 = .ok (.aload_n 0, 1) := by decide +kernel
theorem dX1_append_95 : decode cX1_append 95 = .ok (.getfield 33, 3) := by decide +kernel
theorem dX1_append_98 : decode cX1_append 98 = .ok (.iload 4, 2) := by decide +kernel
theorem dX1_append_100 : decode cX1_append 100 = .ok (.iconst 2, 1) := by decide +kernel
theorem dX1_append_101 : decode cX1_append 101 = .ok (.iadd, 1) := by decide +kernel
theorem dX1_append_102 : decode cX1_append 102 = .ok (.iload_n 2, 1) := by decide +kernel
theorem dX1_append_103 : decode cX1_append 103 = .ok (.invokevirtual 49, 3) := by decide +kernel
theorem dX1_append_106 : decode cX1_append 106 = .ok (.ifCond .eq 58, 3) := by decide +kernel
theorem dX1_append_109 : decode cX1_append 109 = .ok (.aload_n 0, 1) := by decide +kernel
theorem dX1_append_110 : decode cX1_append 110 = .ok (.getfield 13, 3) := by decide +kernel
theorem dX1_append_113 : decode cX1_append 113 = .ok (.aload_n 0, 1) := by decide +kernel
theorem dX1_append_114 : decode cX1_append 114 = .ok (.getfield 33, 3) := by decide +kernel
theorem dX1_append_117 : decode cX1_append 117 = .ok (.iload 4, 2) := by decide +kernel
theorem dX1_append_119 : decode cX1_append 119 = .ok (.iconst 3, 1) := by decide +kernel
theorem dX1_append_120 : decode cX1_append 120 = .ok (.iadd, 1) := by decide +kernel
theorem dX1_append_121 : decode cX1_append 121 = .ok (.iload_n 3, 1) := by decide +kernel
theorem dX1_append_122 : decode cX1_append 122 = .ok (.invokevirtual 49, 3) := by decide +kernel
theorem dX1_append_125 : decode cX1_append 125 = .ok (.ifCond .eq 39, 3) := by decide +kernel
theorem dX1_append_128 : decode cX1_append 128 = .ok (.aload_n 0, 1) := by decide +kernel
theorem dX1_append_129 : decode cX1_append 129 = .ok (.getfield 13, 3) := by decide +kernel
theorem dX1_append_132 : decode cX1_append 132 = .ok (.aload_n 0, 1) := by decide +kernel
theorem dX1_append_133 : decode cX1_append 133 = .ok (.getfield 33, 3) := by decide +kernel
theorem dX1_append_136 : decode cX1_append 136 = .ok (.iload 4, 2) := by decide +kernel
theorem dX1_append_138 : decode cX1_append 138 = .ok (.iconst 4, 1) := by decide +kernel
theorem dX1_append_139 : decode cX1_append 139 = .ok (.iadd, 1) := by decide +kernel
theorem dX1_append_140 : decode cX1_append 140 = .ok (.aload_n 0, 1) := by decide +kernel
theorem dX1_append_141 : decode cX1_append 141 = .ok (.getfield 13, 3) := by decide +kernel
theorem dX1_append_144 : decode cX1_append 144 = .ok (.aload_n 0, 1) := by decide +kernel
theorem dX1_append_145 : decode cX1_append 145 = .ok (.getfield 33, 3) := by decide +kernel
theorem dX1_append_148 : decode cX1_append 148 = .ok (.iload 4, 2) := by decide +kernel
theorem dX1_append_150 : decode cX1_append 150 = .ok (.iconst 4, 1) := by decide +kernel
theorem dX1_append_151 : decode cX1_append 151 = .ok (.invokevirtual 53, 3) := by decide +kernel
theorem dX1_append_154 : decode cX1_append 154 = .ok (.invokevirtual 49, 3) := by decide +kernel
theorem dX1_append_157 : decode cX1_append 157 = .ok (.ifCond .eq 7, 3) := by decide +kernel
theorem dX1_append_160 : decode cX1_append 160 = .ok (.iconst 1, 1) := by decide +kernel
theorem dX1_append_161 : decode cX1_append 161 = .ok (.goto 4, 3) := by decide +kernel
theorem dX1_append_164 : decode cX1_append 164 = .ok (.iconst 0, 1) := by decide +kernel
theorem dX1_append_165 : decode cX1_append 165 = .ok (.istore 5, 2) := by decide +kernel
theorem dX1_append_167 : decode cX1_append 167 = .ok (.iload 5, 2) := by decide +kernel
theorem dX1_append_169 : decode cX1_append 169 = .ok (.ifCond .ne 6, 3) := by decide +kernel
theorem dX1_append_172 : decode cX1_append 172 = .ok (.bipush (-7), 2) := by decide +kernel
theorem dX1_append_174 : decode cX1_append 174 = .ok (.ireturn, 1) := by decide +kernel
theorem dX1_append_175 : decode cX1_append 175 = .ok (.aload_n 0, 1) := by decide +kernel
theorem dX1_append_176 : decode cX1_append 176 = .ok (.getfield 17, 3) := by decide +kernel
theorem dX1_append_179 : decode cX1_append 179 = .ok (.iload_n 1, 1) := by decide +kernel
theorem dX1_append_180 : decode cX1_append 180 = .ok (.iload_n 2, 1) := by decide +kernel
theorem dX1_append_181 : decode cX1_append 181 = .ok (.iload_n 3, 1) := by decide +kernel
theorem dX1_append_182 : decode cX1_append 182 = .ok (.invokevirtual 57, 3) := by decide +kernel
theorem dX1_append_185 : decode cX1_append 185 = .ok (.aload_n 0, 1) := by decide +kernel
theorem dX1_append_186 : decode cX1_append 186 = .ok (.dup, 1) := by decide +kernel
theorem dX1_append_187 : decode cX1_append 187 = .ok (.getfield 42, 3) := by decide +kernel
theorem dX1_append_190 : decode cX1_append 190 = .ok (.iconst 1, 1) := by decide +kernel
theorem dX1_append_191 : decode cX1_append 191 = .ok (.iadd, 1) := by decide +kernel
theorem dX1_append_192 : decode cX1_append 192 = .ok (.putfield 42, 3) := by decide +kernel
theorem dX1_append_195 : decode cX1_append 195 = .ok (.aload_n 0, 1) := by decide +kernel
theorem dX1_append_196 : decode cX1_append 196 = .ok (.dup, 1) := by decide +kernel
theorem dX1_append_197 : decode cX1_append 197 = .ok (.getfield 25, 3) := by decide +kernel
theorem dX1_append_200 : decode cX1_append 200 = .ok (.iconst 1, 1) := by decide +kernel
theorem dX1_append_201 : decode cX1_append 201 = .ok (.iadd, 1) := by decide +kernel
theorem dX1_append_202 : decode cX1_append 202 = .ok (.putfield 25, 3) := by decide +kernel
theorem dX1_append_205 : decode cX1_append 205 = .ok (.iconst 1, 1) := by decide +kernel
theorem dX1_append_206 : decode cX1_append 206 = .ok (.ireturn, 1) := by decide +kernel
theorem dX1_reopen_0 : decode cX1_reopen 0 = .ok (.aload_n 0, 1) := by decide +kernel
theorem dX1_reopen_1 : decode cX1_reopen 1 = .ok (.aload_n 0, 1) := by decide +kernel
theorem dX1_reopen_2 : decode cX1_reopen 2 = .ok (.invokevirtual 61, 3) := by decide +kernel
theorem dX1_reopen_5 : decode cX1_reopen 5 = .ok (.putfield 33, 3) := by decide +kernel
theorem dX1_reopen_8 : decode cX1_reopen 8 = .ok (.aload_n 0, 1) := by decide +kernel
theorem dX1_reopen_9 : decode cX1_reopen 9 = .ok (.iconst 0, 1) := by decide +kernel
theorem dX1_reopen_10 : decode cX1_reopen 10 = .ok (.putfield 42, 3) := by decide +kernel
theorem dX1_reopen_13 : decode cX1_reopen 13 = .ok (.aload_n 0, 1) := by decide +kernel
theorem dX1_reopen_14 : decode cX1_reopen 14 = .ok (.aload_n 0, 1) := by decide +kernel
theorem dX1_reopen_15 : decode cX1_reopen 15 = .ok (.getfield 13, 3) := by decide +kernel
theorem dX1_reopen_18 : decode cX1_reopen 18 = .ok (.aload_n 0, 1) := by decide +kernel
theorem dX1_reopen_19 : decode cX1_reopen 19 = .ok (.getfield 33, 3) := by decide +kernel
theorem dX1_reopen_22 : decode cX1_reopen 22 = .ok (.iconst 1, 1) := by decide +kernel
theorem dX1_reopen_23 : decode cX1_reopen 23 = .ok (.invokevirtual 38, 3) := by decide +kernel
theorem dX1_reopen_26 : decode cX1_reopen 26 = .ok (.putfield 25, 3) := by decide +kernel
theorem dX1_reopen_29 : decode cX1_reopen 29 = .ok (.iconst 0, 1) := by decide +kernel
theorem dX1_reopen_30 : decode cX1_reopen 30 = .ok (.istore_n 1, 1) := by decide +kernel
theorem dX1_reopen_31 : decode cX1_reopen 31 = .ok (.iload_n 1, 1) := by decide +kernel
theorem dX1_reopen_32 : decode cX1_reopen 32 = .ok (.sipush 191, 3) := by decide +kernel
theorem dX1_reopen_35 : decode cX1_reopen 35 = .ok (.if_icmp .ge 31, 3) := by decide +kernel
theorem dX1_reopen_38 : decode cX1_reopen 38 = .ok (.aload_n 0, 1) := by decide +kernel
theorem dX1_reopen_39 : decode cX1_reopen 39 = .ok (.getfield 17, 3) := by decide +kernel
theorem dX1_reopen_42 : decode cX1_reopen 42 = .ok (.iload_n 1, 1) := by decide +kernel
theorem dX1_reopen_43 : decode cX1_reopen 43 = .ok (.aload_n 0, 1) := by decide +kernel
theorem dX1_reopen_44 : decode cX1_reopen 44 = .ok (.getfield 13, 3) := by decide +kernel
theorem dX1_reopen_47 : decode cX1_reopen 47 = .ok (.aload_n 0, 1) := by decide +kernel
theorem dX1_reopen_48 : decode cX1_reopen 48 = .ok (.getfield 33, 3) := by decide +kernel
theorem dX1_reopen_51 : decode cX1_reopen 51 = .ok (.iconst 2, 1) := by decide +kernel
theorem dX1_reopen_52 : decode cX1_reopen 52 = .ok (.iload_n 1, 1) := by decide +kernel
theorem dX1_reopen_53 : decode cX1_reopen 53 = .ok (.iadd, 1) := by decide +kernel
theorem dX1_reopen_54 : decode cX1_reopen 54 = .ok (.invokevirtual 38, 3) := by decide +kernel
theorem dX1_reopen_57 : decode cX1_reopen 57 = .ok (.invokevirtual 65, 3) := by decide +kernel
theorem dX1_reopen_60 : decode cX1_reopen 60 = .ok (.iinc 1 1, 3) := by decide +kernel
theorem dX1_reopen_63 : decode cX1_reopen 63 = .ok (.goto (-32), 3) := by decide +kernel
theorem dX1_reopen_66 : decode cX1_reopen 66 = .ok (.iconst 0, 1) := by decide +kernel
theorem dX1_reopen_67 : decode cX1_reopen 67 = .ok (.istore_n 1, 1) := by decide +kernel
theorem dX1_reopen_68 : decode cX1_reopen 68 = .ok (.iload_n 1, 1) := by decide +kernel
theorem dX1_reopen_69 : decode cX1_reopen 69 = .ok (.bipush 12, 2) := by decide +kernel
theorem dX1_reopen_71 : decode cX1_reopen 71 = .ok (.if_icmp .ge 94, 3) := by decide +kernel
theorem dX1_reopen_74 : decode cX1_reopen 74 = .ok (.aload_n 0, 1) := by decide +kernel
theorem dX1_reopen_75 : decode cX1_reopen 75 = .ok (.iload_n 1, 1) := by decide +kernel
theorem dX1_reopen_76 : decode cX1_reopen 76 = .ok (.invokestatic 45, 3) := by decide +kernel
theorem dX1_reopen_79 : decode cX1_reopen 79 = .ok (.invokevirtual 69, 3) := by decide +kernel
theorem dX1_reopen_82 : decode cX1_reopen 82 = .ok (.ifCond .eq 83, 3) := by decide +kernel
theorem dX1_reopen_85 : decode cX1_reopen 85 = .ok (.iload_n 1, 1) := by decide +kernel
theorem dX1_reopen_86 : decode cX1_reopen 86 = .ok (.invokestatic 45, 3) := by decide +kernel
theorem dX1_reopen_89 : decode cX1_reopen 89 = .ok (.istore_n 2, 1) := by decide +kernel
theorem dX1_reopen_90 : decode cX1_reopen 90 = .ok (.aload_n 0, 1) := by decide +kernel
theorem dX1_reopen_91 : decode cX1_reopen 91 = .ok (.getfield 17, 3) := by decide +kernel
theorem dX1_reopen_94 : decode cX1_reopen 94 = .ok (.aload_n 0, 1) := by decide +kernel
theorem dX1_reopen_95 : decode cX1_reopen 95 = .ok (.getfield 13, 3) := by decide +kernel
theorem dX1_reopen_98 : decode cX1_reopen 98 = .ok (.aload_n 0, 1) := by decide +kernel
theorem dX1_reopen_99 : decode cX1_reopen 99 = .ok (.getfield 33, 3) := by decide +kernel
theorem dX1_reopen_102 : decode cX1_reopen 102 = .ok (.iload_n 2, 1) := by decide +kernel
theorem dX1_reopen_103 : decode cX1_reopen 103 = .ok (.iconst 1, 1) := by decide +kernel
theorem dX1_reopen_104 : decode cX1_reopen 104 = .ok (.iadd, 1) := by decide +kernel
theorem dX1_reopen_105 : decode cX1_reopen 105 = .ok (.invokevirtual 38, 3) := by decide +kernel
theorem dX1_reopen_108 : decode cX1_reopen 108 = .ok (.aload_n 0, 1) := by decide +kernel
theorem dX1_reopen_109 : decode cX1_reopen 109 = .ok (.getfield 13, 3) := by decide +kernel
theorem dX1_reopen_112 : decode cX1_reopen 112 = .ok (.aload_n 0, 1) := by decide +kernel
theorem dX1_reopen_113 : decode cX1_reopen 113 = .ok (.getfield 33, 3) := by decide +kernel
theorem dX1_reopen_116 : decode cX1_reopen 116 = .ok (.iload_n 2, 1) := by decide +kernel
theorem dX1_reopen_117 : decode cX1_reopen 117 = .ok (.iconst 2, 1) := by decide +kernel
theorem dX1_reopen_118 : decode cX1_reopen 118 = .ok (.iadd, 1) := by decide +kernel
theorem dX1_reopen_119 : decode cX1_reopen 119 = .ok (.invokevirtual 38, 3) := by decide +kernel
theorem dX1_reopen_122 : decode cX1_reopen 122 = .ok (.aload_n 0, 1) := by decide +kernel
theorem dX1_reopen_123 : decode cX1_reopen 123 = .ok (.getfield 13, 3) := by decide +kernel
theorem dX1_reopen_126 : decode cX1_reopen 126 = .ok (.aload_n 0, 1) := by decide +kernel
theorem dX1_reopen_127 : decode cX1_reopen 127 = .ok (.getfield 33, 3) := by decide +kernel
theorem dX1_reopen_130 : decode cX1_reopen 130 = .ok (.iload_n 2, 1) := by decide +kernel
theorem dX1_reopen_131 : decode cX1_reopen 131 = .ok (.iconst 3, 1) := by decide +kernel
theorem dX1_reopen_132 : decode cX1_reopen 132 = .ok (.iadd, 1) := by decide +kernel
theorem dX1_reopen_133 : decode cX1_reopen 133 = .ok (.invokevirtual 38, 3) := by decide +kernel
theorem dX1_reopen_136 : decode cX1_reopen 136 = .ok (.invokevirtual 57, 3) := by decide +kernel
theorem dX1_reopen_139 : decode cX1_reopen 139 = .ok (.aload_n 0, 1) := by decide +kernel
theorem dX1_reopen_140 : decode cX1_reopen 140 = .ok (.dup, 1) := by decide +kernel
theorem dX1_reopen_141 : decode cX1_reopen 141 = .ok (.getfield 42, 3) := by decide +kernel
theorem dX1_reopen_144 : decode cX1_reopen 144 = .ok (.iconst 1, 1) := by decide +kernel
theorem dX1_reopen_145 : decode cX1_reopen 145 = .ok (.iadd, 1) := by decide +kernel
theorem dX1_reopen_146 : decode cX1_reopen 146 = .ok (.putfield 42, 3) := by decide +kernel
theorem dX1_reopen_149 : decode cX1_reopen 149 = .ok (.aload_n 0, 1) := by decide +kernel
theorem dX1_reopen_150 : decode cX1_reopen 150 = .ok (.dup, 1) := by decide +kernel
theorem dX1_reopen_151 : decode cX1_reopen 151 = .ok (.getfield 25, 3) := by decide +kernel
theorem dX1_reopen_154 : decode cX1_reopen 154 = .ok (.iconst 1, 1) := by decide +kernel
theorem dX1_reopen_155 : decode cX1_reopen 155 = .ok (.iadd, 1) := by decide +kernel
theorem dX1_reopen_156 : decode cX1_reopen 156 = .ok (.putfield 25, 3) := by decide +kernel
theorem dX1_reopen_159 : decode cX1_reopen 159 = .ok (.iinc 1 1, 3) := by decide +kernel
theorem dX1_reopen_162 : decode cX1_reopen 162 = .ok (.goto (-94), 3) := by decide +kernel
theorem dX1_reopen_165 : decode cX1_reopen 165 = .ok (.return_, 1) := by decide +kernel
theorem dX1_hasRoom_0 : decode cX1_hasRoom 0 = .ok (.aload_n 0, 1) := by decide +kernel
theorem dX1_hasRoom_1 : decode cX1_hasRoom 1 = .ok (.getfield 42, 3) := by decide +kernel
theorem dX1_hasRoom_4 : decode cX1_hasRoom 4 = .ok (.bipush 12, 2) := by decide +kernel
theorem dX1_hasRoom_6 : decode cX1_hasRoom 6 = .ok (.if_icmp .ge 29, 3) := by decide +kernel
theorem dX1_hasRoom_9 : decode cX1_hasRoom 9 = .ok (.aload_n 0, 1) := by decide +kernel
theorem dX1_hasRoom_10 : decode cX1_hasRoom 10 = .ok (.getfield 13, 3) := by decide +kernel
theorem dX1_hasRoom_13 : decode cX1_hasRoom 13 = .ok (.aload_n 0, 1) := by decide +kernel
theorem dX1_hasRoom_14 : decode cX1_hasRoom 14 = .ok (.getfield 33, 3) := by decide +kernel
theorem dX1_hasRoom_17 : decode cX1_hasRoom 17 = .ok (.aload_n 0, 1) := by decide +kernel
theorem dX1_hasRoom_18 : decode cX1_hasRoom 18 = .ok (.getfield 42, 3) := by decide +kernel
theorem dX1_hasRoom_21 : decode cX1_hasRoom 21 = .ok (.invokestatic 45, 3) := by decide +kernel
theorem dX1_hasRoom_24 : decode cX1_hasRoom 24 = .ok (.iconst 5, 1) := by decide +kernel
theorem dX1_hasRoom_25 : decode cX1_hasRoom 25 = .ok (.invokevirtual 73, 3) := by decide +kernel
theorem dX1_hasRoom_28 : decode cX1_hasRoom 28 = .ok (.ifCond .eq 7, 3) := by decide +kernel
theorem dX1_hasRoom_31 : decode cX1_hasRoom 31 = .ok (.iconst 1, 1) := by decide +kernel
theorem dX1_hasRoom_32 : decode cX1_hasRoom 32 = .ok (.goto 4, 3) := by decide +kernel
theorem dX1_hasRoom_35 : decode cX1_hasRoom 35 = .ok (.iconst 0, 1) := by decide +kernel
theorem dX1_hasRoom_36 : decode cX1_hasRoom 36 = .ok (.ireturn, 1) := by decide +kernel
theorem dX1_startSector_0 : decode cX1_startSector 0 = .ok (.aload_n 0, 1) := by decide +kernel
theorem dX1_startSector_1 : decode cX1_startSector 1 = .ok (.getfield 13, 3) := by decide +kernel
theorem dX1_startSector_4 : decode cX1_startSector 4 = .ok (.iload_n 1, 1) := by decide +kernel
theorem dX1_startSector_5 : decode cX1_startSector 5 = .ok (.invokevirtual 76, 3) := by decide +kernel
theorem dX1_startSector_8 : decode cX1_startSector 8 = .ok (.ifCond .eq 70, 3) := by decide +kernel
theorem dX1_startSector_11 : decode cX1_startSector 11 = .ok (.aload_n 0, 1) := by decide +kernel
theorem dX1_startSector_12 : decode cX1_startSector 12 = .ok (.getfield 13, 3) := by decide +kernel
theorem dX1_startSector_15 : decode cX1_startSector 15 = .ok (.iload_n 1, 1) := by decide +kernel
theorem dX1_startSector_16 : decode cX1_startSector 16 = .ok (.iconst 0, 1) := by decide +kernel
theorem dX1_startSector_17 : decode cX1_startSector 17 = .ok (.iload_n 2, 1) := by decide +kernel
theorem dX1_startSector_18 : decode cX1_startSector 18 = .ok (.invokevirtual 49, 3) := by decide +kernel
theorem dX1_startSector_21 : decode cX1_startSector 21 = .ok (.ifCond .eq 57, 3) := by decide +kernel
theorem dX1_startSector_24 : decode cX1_startSector 24 = .ok (.aload_n 0, 1) := by decide +kernel
theorem dX1_startSector_25 : decode cX1_startSector 25 = .ok (.getfield 13, 3) := by decide +kernel
theorem dX1_startSector_28 : decode cX1_startSector 28 = .ok (.iload_n 1, 1) := by decide +kernel
theorem dX1_startSector_29 : decode cX1_startSector 29 = .ok (.iconst 1, 1) := by decide +kernel
theorem dX1_startSector_30 : decode cX1_startSector 30 = .ok (.aload_n 0, 1) := by decide +kernel
theorem dX1_startSector_31 : decode cX1_startSector 31 = .ok (.getfield 25, 3) := by decide +kernel
theorem dX1_startSector_34 : decode cX1_startSector 34 = .ok (.invokevirtual 49, 3) := by decide +kernel
theorem dX1_startSector_37 : decode cX1_startSector 37 = .ok (.ifCond .eq 41, 3) := by decide +kernel
theorem dX1_startSector_40 : decode cX1_startSector 40 = .ok (.aload_n 0, 1) := by decide +kernel
theorem dX1_startSector_41 : decode cX1_startSector 41 = .ok (.iload_n 1, 1) := by decide +kernel
theorem dX1_startSector_42 : decode cX1_startSector 42 = .ok (.invokevirtual 79, 3) := by decide +kernel
theorem dX1_startSector_45 : decode cX1_startSector 45 = .ok (.ifCond .eq 33, 3) := by decide +kernel
theorem dX1_startSector_48 : decode cX1_startSector 48 = .ok (.aload_n 0, 1) := by decide +kernel
theorem dX1_startSector_49 : decode cX1_startSector 49 = .ok (.getfield 13, 3) := by decide +kernel
theorem dX1_startSector_52 : decode cX1_startSector 52 = .ok (.iload_n 1, 1) := by decide +kernel
theorem dX1_startSector_53 : decode cX1_startSector 53 = .ok (.sipush 193, 3) := by decide +kernel
theorem dX1_startSector_56 : decode cX1_startSector 56 = .ok (.aload_n 0, 1) := by decide +kernel
theorem dX1_startSector_57 : decode cX1_startSector 57 = .ok (.getfield 13, 3) := by decide +kernel
theorem dX1_startSector_60 : decode cX1_startSector 60 = .ok (.iload_n 1, 1) := by decide +kernel
theorem dX1_startSector_61 : decode cX1_startSector 61 = .ok (.iconst 0, 1) := by decide +kernel
theorem dX1_startSector_62 : decode cX1_startSector 62 = .ok (.sipush 193, 3) := by decide +kernel
theorem dX1_startSector_65 : decode cX1_startSector 65 = .ok (.invokevirtual 53, 3) := by decide +kernel
theorem dX1_startSector_68 : decode cX1_startSector 68 = .ok (.invokevirtual 49, 3) := by decide +kernel
theorem dX1_startSector_71 : decode cX1_startSector 71 = .ok (.ifCond .eq 7, 3) := by decide +kernel
theorem dX1_startSector_74 : decode cX1_startSector 74 = .ok (.iconst 1, 1) := by decide +kernel
theorem dX1_startSector_75 : decode cX1_startSector 75 = .ok (.goto 4, 3) := by decide +kernel
theorem dX1_startSector_78 : decode cX1_startSector 78 = .ok (.iconst 0, 1) := by decide +kernel
theorem dX1_startSector_79 : decode cX1_startSector 79 = .ok (.istore_n 3, 1) := by decide +kernel
theorem dX1_startSector_80 : decode cX1_startSector 80 = .ok (.iload_n 3, 1) := by decide +kernel
theorem dX1_startSector_81 : decode cX1_startSector 81 = .ok (.ifCond .eq 13, 3) := by decide +kernel
theorem dX1_startSector_84 : decode cX1_startSector 84 = .ok (.aload_n 0, 1) := by decide +kernel
theorem dX1_startSector_85 : decode cX1_startSector 85 = .ok (.iload_n 1, 1) := by decide +kernel
theorem dX1_startSector_86 : decode cX1_startSector 86 = .ok (.putfield 33, 3) := by decide +kernel
theorem dX1_startSector_89 : decode cX1_startSector 89 = .ok (.aload_n 0, 1) := by decide +kernel
theorem dX1_startSector_90 : decode cX1_startSector 90 = .ok (.iconst 0, 1) := by decide +kernel
theorem dX1_startSector_91 : decode cX1_startSector 91 = .ok (.putfield 42, 3) := by decide +kernel
theorem dX1_startSector_94 : decode cX1_startSector 94 = .ok (.iload_n 3, 1) := by decide +kernel
theorem dX1_startSector_95 : decode cX1_startSector 95 = .ok (.ireturn, 1) := by decide +kernel
theorem dX1_writeBooks_0 : decode cX1_writeBooks 0 = .ok (.iconst 0, 1) := by decide +kernel
theorem dX1_writeBooks_1 : decode cX1_writeBooks 1 = .ok (.istore_n 2, 1) := by decide +kernel
theorem dX1_writeBooks_2 : decode cX1_writeBooks 2 = .ok (.iload_n 2, 1) := by decide +kernel
theorem dX1_writeBooks_3 : decode cX1_writeBooks 3 = .ok (.sipush 191, 3) := by decide +kernel
theorem dX1_writeBooks_6 : decode cX1_writeBooks 6 = .ok (.if_icmp .ge 33, 3) := by decide +kernel
theorem dX1_writeBooks_9 : decode cX1_writeBooks 9 = .ok (.aload_n 0, 1) := by decide +kernel
theorem dX1_writeBooks_10 : decode cX1_writeBooks 10 = .ok (.getfield 13, 3) := by decide +kernel
theorem dX1_writeBooks_13 : decode cX1_writeBooks 13 = .ok (.iload_n 1, 1) := by decide +kernel
theorem dX1_writeBooks_14 : decode cX1_writeBooks 14 = .ok (.iconst 2, 1) := by decide +kernel
theorem dX1_writeBooks_15 : decode cX1_writeBooks 15 = .ok (.iload_n 2, 1) := by decide +kernel
theorem dX1_writeBooks_16 : decode cX1_writeBooks 16 = .ok (.iadd, 1) := by decide +kernel
theorem dX1_writeBooks_17 : decode cX1_writeBooks 17 = .ok (.aload_n 0, 1) := by decide +kernel
theorem dX1_writeBooks_18 : decode cX1_writeBooks 18 = .ok (.getfield 17, 3) := by decide +kernel
theorem dX1_writeBooks_21 : decode cX1_writeBooks 21 = .ok (.iload_n 2, 1) := by decide +kernel
theorem dX1_writeBooks_22 : decode cX1_writeBooks 22 = .ok (.invokevirtual 82, 3) := by decide +kernel
theorem dX1_writeBooks_25 : decode cX1_writeBooks 25 = .ok (.invokevirtual 49, 3) := by decide +kernel
theorem dX1_writeBooks_28 : decode cX1_writeBooks 28 = .ok (.ifCond .ne 5, 3) := by decide +kernel
theorem dX1_writeBooks_31 : decode cX1_writeBooks 31 = .ok (.iconst 0, 1) := by decide +kernel
theorem dX1_writeBooks_32 : decode cX1_writeBooks 32 = .ok (.ireturn, 1) := by decide +kernel
theorem dX1_writeBooks_33 : decode cX1_writeBooks 33 = .ok (.iinc 2 1, 3) := by decide +kernel
theorem dX1_writeBooks_36 : decode cX1_writeBooks 36 = .ok (.goto (-34), 3) := by decide +kernel
theorem dX1_writeBooks_39 : decode cX1_writeBooks 39 = .ok (.iconst 1, 1) := by decide +kernel
theorem dX1_writeBooks_40 : decode cX1_writeBooks 40 = .ok (.ireturn, 1) := by decide +kernel
theorem dX1_newestSector_0 : decode cX1_newestSector 0 = .ok (.aload_n 0, 1) := by decide +kernel
theorem dX1_newestSector_1 : decode cX1_newestSector 1 = .ok (.getfield 33, 3) := by decide +kernel
theorem dX1_newestSector_4 : decode cX1_newestSector 4 = .ok (.istore_n 1, 1) := by decide +kernel
theorem dX1_newestSector_5 : decode cX1_newestSector 5 = .ok (.iconst 0, 1) := by decide +kernel
theorem dX1_newestSector_6 : decode cX1_newestSector 6 = .ok (.istore_n 2, 1) := by decide +kernel
theorem dX1_newestSector_7 : decode cX1_newestSector 7 = .ok (.iconst 0, 1) := by decide +kernel
theorem dX1_newestSector_8 : decode cX1_newestSector 8 = .ok (.istore_n 3, 1) := by decide +kernel
theorem dX1_newestSector_9 : decode cX1_newestSector 9 = .ok (.iload_n 3, 1) := by decide +kernel
theorem dX1_newestSector_10 : decode cX1_newestSector 10 = .ok (.bipush 16, 2) := by decide +kernel
theorem dX1_newestSector_12 : decode cX1_newestSector 12 = .ok (.if_icmp .ge 34, 3) := by decide +kernel
theorem dX1_newestSector_15 : decode cX1_newestSector 15 = .ok (.aload_n 0, 1) := by decide +kernel
theorem dX1_newestSector_16 : decode cX1_newestSector 16 = .ok (.iload_n 3, 1) := by decide +kernel
theorem dX1_newestSector_17 : decode cX1_newestSector 17 = .ok (.invokevirtual 85, 3) := by decide +kernel
theorem dX1_newestSector_20 : decode cX1_newestSector 20 = .ok (.ifCond .eq 20, 3) := by decide +kernel
theorem dX1_newestSector_23 : decode cX1_newestSector 23 = .ok (.iload_n 2, 1) := by decide +kernel
theorem dX1_newestSector_24 : decode cX1_newestSector 24 = .ok (.ifCond .eq 12, 3) := by decide +kernel
theorem dX1_newestSector_27 : decode cX1_newestSector 27 = .ok (.aload_n 0, 1) := by decide +kernel
theorem dX1_newestSector_28 : decode cX1_newestSector 28 = .ok (.iload_n 3, 1) := by decide +kernel
theorem dX1_newestSector_29 : decode cX1_newestSector 29 = .ok (.iload_n 1, 1) := by decide +kernel
theorem dX1_newestSector_30 : decode cX1_newestSector 30 = .ok (.invokevirtual 88, 3) := by decide +kernel
theorem dX1_newestSector_33 : decode cX1_newestSector 33 = .ok (.ifCond .eq 7, 3) := by decide +kernel
theorem dX1_newestSector_36 : decode cX1_newestSector 36 = .ok (.iload_n 3, 1) := by decide +kernel
theorem dX1_newestSector_37 : decode cX1_newestSector 37 = .ok (.istore_n 1, 1) := by decide +kernel
theorem dX1_newestSector_38 : decode cX1_newestSector 38 = .ok (.iconst 1, 1) := by decide +kernel
theorem dX1_newestSector_39 : decode cX1_newestSector 39 = .ok (.istore_n 2, 1) := by decide +kernel
theorem dX1_newestSector_40 : decode cX1_newestSector 40 = .ok (.iinc 3 1, 3) := by decide +kernel
theorem dX1_newestSector_43 : decode cX1_newestSector 43 = .ok (.goto (-34), 3) := by decide +kernel
theorem dX1_newestSector_46 : decode cX1_newestSector 46 = .ok (.iload_n 1, 1) := by decide +kernel
theorem dX1_newestSector_47 : decode cX1_newestSector 47 = .ok (.ireturn, 1) := by decide +kernel
theorem dX1_isMarked_0 : decode cX1_isMarked 0 = .ok (.aload_n 0, 1) := by decide +kernel
theorem dX1_isMarked_1 : decode cX1_isMarked 1 = .ok (.getfield 13, 3) := by decide +kernel
theorem dX1_isMarked_4 : decode cX1_isMarked 4 = .ok (.iload_n 1, 1) := by decide +kernel
theorem dX1_isMarked_5 : decode cX1_isMarked 5 = .ok (.sipush 193, 3) := by decide +kernel
theorem dX1_isMarked_8 : decode cX1_isMarked 8 = .ok (.invokevirtual 38, 3) := by decide +kernel
theorem dX1_isMarked_11 : decode cX1_isMarked 11 = .ok (.aload_n 0, 1) := by decide +kernel
theorem dX1_isMarked_12 : decode cX1_isMarked 12 = .ok (.getfield 13, 3) := by decide +kernel
theorem dX1_isMarked_15 : decode cX1_isMarked 15 = .ok (.iload_n 1, 1) := by decide +kernel
theorem dX1_isMarked_16 : decode cX1_isMarked 16 = .ok (.iconst 0, 1) := by decide +kernel
theorem dX1_isMarked_17 : decode cX1_isMarked 17 = .ok (.sipush 193, 3) := by decide +kernel
theorem dX1_isMarked_20 : decode cX1_isMarked 20 = .ok (.invokevirtual 53, 3) := by decide +kernel
theorem dX1_isMarked_23 : decode cX1_isMarked 23 = .ok (.if_icmp .ne 7, 3) := by decide +kernel
theorem dX1_isMarked_26 : decode cX1_isMarked 26 = .ok (.iconst 1, 1) := by decide +kernel
theorem dX1_isMarked_27 : decode cX1_isMarked 27 = .ok (.goto 4, 3) := by decide +kernel
theorem dX1_isMarked_30 : decode cX1_isMarked 30 = .ok (.iconst 0, 1) := by decide +kernel
theorem dX1_isMarked_31 : decode cX1_isMarked 31 = .ok (.ireturn, 1) := by decide +kernel
theorem dX1_isNewer_0 : decode cX1_isNewer 0 = .ok (.aload_n 0, 1) := by decide +kernel
theorem dX1_isNewer_1 : decode cX1_isNewer 1 = .ok (.getfield 13, 3) := by decide +kernel
theorem dX1_isNewer_4 : decode cX1_isNewer 4 = .ok (.iload_n 1, 1) := by decide +kernel
theorem dX1_isNewer_5 : decode cX1_isNewer 5 = .ok (.iconst 0, 1) := by decide +kernel
theorem dX1_isNewer_6 : decode cX1_isNewer 6 = .ok (.invokevirtual 38, 3) := by decide +kernel
theorem dX1_isNewer_9 : decode cX1_isNewer 9 = .ok (.aload_n 0, 1) := by decide +kernel
theorem dX1_isNewer_10 : decode cX1_isNewer 10 = .ok (.getfield 13, 3) := by decide +kernel
theorem dX1_isNewer_13 : decode cX1_isNewer 13 = .ok (.iload_n 2, 1) := by decide +kernel
theorem dX1_isNewer_14 : decode cX1_isNewer 14 = .ok (.iconst 0, 1) := by decide +kernel
theorem dX1_isNewer_15 : decode cX1_isNewer 15 = .ok (.invokevirtual 38, 3) := by decide +kernel
theorem dX1_isNewer_18 : decode cX1_isNewer 18 = .ok (.if_icmp .le 7, 3) := by decide +kernel
theorem dX1_isNewer_21 : decode cX1_isNewer 21 = .ok (.iconst 1, 1) := by decide +kernel
theorem dX1_isNewer_22 : decode cX1_isNewer 22 = .ok (.goto 4, 3) := by decide +kernel
theorem dX1_isNewer_25 : decode cX1_isNewer 25 = .ok (.iconst 0, 1) := by decide +kernel
theorem dX1_isNewer_26 : decode cX1_isNewer 26 = .ok (.ireturn, 1) := by decide +kernel
theorem dX1_isNextRecord_0 : decode cX1_isNextRecord 0 = .ok (.aload_n 0, 1) := by decide +kernel
theorem dX1_isNextRecord_1 : decode cX1_isNextRecord 1 = .ok (.getfield 13, 3) := by decide +kernel
theorem dX1_isNextRecord_4 : decode cX1_isNextRecord 4 = .ok (.aload_n 0, 1) := by decide +kernel
theorem dX1_isNextRecord_5 : decode cX1_isNextRecord 5 = .ok (.getfield 33, 3) := by decide +kernel
theorem dX1_isNextRecord_8 : decode cX1_isNextRecord 8 = .ok (.iload_n 1, 1) := by decide +kernel
theorem dX1_isNextRecord_9 : decode cX1_isNextRecord 9 = .ok (.invokevirtual 38, 3) := by decide +kernel
theorem dX1_isNextRecord_12 : decode cX1_isNextRecord 12 = .ok (.aload_n 0, 1) := by decide +kernel
theorem dX1_isNextRecord_13 : decode cX1_isNextRecord 13 = .ok (.getfield 25, 3) := by decide +kernel
theorem dX1_isNextRecord_16 : decode cX1_isNextRecord 16 = .ok (.iconst 1, 1) := by decide +kernel
theorem dX1_isNextRecord_17 : decode cX1_isNextRecord 17 = .ok (.iadd, 1) := by decide +kernel
theorem dX1_isNextRecord_18 : decode cX1_isNextRecord 18 = .ok (.if_icmp .ne 37, 3) := by decide +kernel
theorem dX1_isNextRecord_21 : decode cX1_isNextRecord 21 = .ok (.aload_n 0, 1) := by decide +kernel
theorem dX1_isNextRecord_22 : decode cX1_isNextRecord 22 = .ok (.getfield 13, 3) := by decide +kernel
theorem dX1_isNextRecord_25 : decode cX1_isNextRecord 25 = .ok (.aload_n 0, 1) := by decide +kernel
theorem dX1_isNextRecord_26 : decode cX1_isNextRecord 26 = .ok (.getfield 33, 3) := by decide +kernel
theorem dX1_isNextRecord_29 : decode cX1_isNextRecord 29 = .ok (.iload_n 1, 1) := by decide +kernel
theorem dX1_isNextRecord_30 : decode cX1_isNextRecord 30 = .ok (.iconst 4, 1) := by decide +kernel
theorem dX1_isNextRecord_31 : decode cX1_isNextRecord 31 = .ok (.iadd, 1) := by decide +kernel
theorem dX1_isNextRecord_32 : decode cX1_isNextRecord 32 = .ok (.invokevirtual 38, 3) := by decide +kernel
theorem dX1_isNextRecord_35 : decode cX1_isNextRecord 35 = .ok (.aload_n 0, 1) := by decide +kernel
theorem dX1_isNextRecord_36 : decode cX1_isNextRecord 36 = .ok (.getfield 13, 3) := by decide +kernel
theorem dX1_isNextRecord_39 : decode cX1_isNextRecord 39 = .ok (.aload_n 0, 1) := by decide +kernel
theorem dX1_isNextRecord_40 : decode cX1_isNextRecord 40 = .ok (.getfield 33, 3) := by decide +kernel
theorem dX1_isNextRecord_43 : decode cX1_isNextRecord 43 = .ok (.iload_n 1, 1) := by decide +kernel
theorem dX1_isNextRecord_44 : decode cX1_isNextRecord 44 = .ok (.iconst 4, 1) := by decide +kernel
theorem dX1_isNextRecord_45 : decode cX1_isNextRecord 45 = .ok (.invokevirtual 53, 3) := by decide +kernel
theorem dX1_isNextRecord_48 : decode cX1_isNextRecord 48 = .ok (.if_icmp .ne 7, 3) := by decide +kernel
theorem dX1_isNextRecord_51 : decode cX1_isNextRecord 51 = .ok (.iconst 1, 1) := by decide +kernel
theorem dX1_isNextRecord_52 : decode cX1_isNextRecord 52 = .ok (.goto 4, 3) := by decide +kernel
theorem dX1_isNextRecord_55 : decode cX1_isNextRecord 55 = .ok (.iconst 0, 1) := by decide +kernel
theorem dX1_isNextRecord_56 : decode cX1_isNextRecord 56 = .ok (.ireturn, 1) := by decide +kernel
theorem dX1_recordAt_0 : decode cX1_recordAt 0 = .ok (.sipush 194, 3) := by decide +kernel
theorem dX1_recordAt_3 : decode cX1_recordAt 3 = .ok (.iload_n 0, 1) := by decide +kernel
theorem dX1_recordAt_4 : decode cX1_recordAt 4 = .ok (.iconst 5, 1) := by decide +kernel
theorem dX1_recordAt_5 : decode cX1_recordAt 5 = .ok (.imul, 1) := by decide +kernel
theorem dX1_recordAt_6 : decode cX1_recordAt 6 = .ok (.iadd, 1) := by decide +kernel
theorem dX1_recordAt_7 : decode cX1_recordAt 7 = .ok (.ireturn, 1) := by decide +kernel
theorem dX2_init_0 : decode cX2_init 0 = .ok (.aload_n 0, 1) := by decide +kernel
theorem dX2_init_1 : decode cX2_init 1 = .ok (.invokespecial 1, 3) := by decide +kernel
theorem dX2_init_4 : decode cX2_init 4 = .ok (.aload_n 0, 1) := by decide +kernel
theorem dX2_init_5 : decode cX2_init 5 = .ok (.sipush 4096, 3) := by decide +kernel
theorem dX2_init_8 : decode cX2_init 8 = .ok (.newarray .int, 2) := by decide +kernel
theorem dX2_init_10 : decode cX2_init 10 = .ok (.putfield 9, 3) := by decide +kernel
theorem dX2_init_13 : decode cX2_init 13 = .ok (.aload_n 0, 1) := by decide +kernel
theorem dX2_init_14 : decode cX2_init 14 = .ok (.bipush 16, 2) := by decide +kernel
theorem dX2_init_16 : decode cX2_init 16 = .ok (.newarray .int, 2) := by decide +kernel
theorem dX2_init_18 : decode cX2_init 18 = .ok (.putfield 13, 3) := by decide +kernel
theorem dX2_init_21 : decode cX2_init 21 = .ok (.aload_n 0, 1) := by decide +kernel
theorem dX2_init_22 : decode cX2_init 22 = .ok (.iconst 1, 1) := by decide +kernel
theorem dX2_init_23 : decode cX2_init 23 = .ok (.putfield 16, 3) := by decide +kernel
theorem dX2_init_26 : decode cX2_init 26 = .ok (.aload_n 0, 1) := by decide +kernel
theorem dX2_init_27 : decode cX2_init 27 = .ok (.getfield 9, 3) := by decide +kernel
theorem dX2_init_30 : decode cX2_init 30 = .ok (.iconst (-1), 1) := by decide +kernel
theorem dX2_init_31 : decode cX2_init 31 = .ok (.invokestatic 20, 3) := by decide +kernel
theorem dX2_init_34 : decode cX2_init 34 = .ok (.return_, 1) := by decide +kernel
theorem dX2_holds_0 : decode cX2_holds 0 = .ok (.iload_n 1, 1) := by decide +kernel
theorem dX2_holds_1 : decode cX2_holds 1 = .ok (.ifCond .lt 24, 3) := by decide +kernel
theorem dX2_holds_4 : decode cX2_holds 4 = .ok (.iload_n 1, 1) := by decide +kernel
theorem dX2_holds_5 : decode cX2_holds 5 = .ok (.bipush 16, 2) := by decide +kernel
theorem dX2_holds_7 : decode cX2_holds 7 = .ok (.if_icmp .ge 18, 3) := by decide +kernel
theorem dX2_holds_10 : decode cX2_holds 10 = .ok (.iload_n 2, 1) := by decide +kernel
theorem dX2_holds_11 : decode cX2_holds 11 = .ok (.ifCond .lt 14, 3) := by decide +kernel
theorem dX2_holds_14 : decode cX2_holds 14 = .ok (.iload_n 2, 1) := by decide +kernel
theorem dX2_holds_15 : decode cX2_holds 15 = .ok (.sipush 256, 3) := by decide +kernel
theorem dX2_holds_18 : decode cX2_holds 18 = .ok (.if_icmp .ge 7, 3) := by decide +kernel
theorem dX2_holds_21 : decode cX2_holds 21 = .ok (.iconst 1, 1) := by decide +kernel
theorem dX2_holds_22 : decode cX2_holds 22 = .ok (.goto 4, 3) := by decide +kernel
theorem dX2_holds_25 : decode cX2_holds 25 = .ok (.iconst 0, 1) := by decide +kernel
theorem dX2_holds_26 : decode cX2_holds 26 = .ok (.ireturn, 1) := by decide +kernel
theorem dX2_read_0 : decode cX2_read 0 = .ok (.aload_n 0, 1) := by decide +kernel
theorem dX2_read_1 : decode cX2_read 1 = .ok (.iload_n 1, 1) := by decide +kernel
theorem dX2_read_2 : decode cX2_read 2 = .ok (.iload_n 2, 1) := by decide +kernel
theorem dX2_read_3 : decode cX2_read 3 = .ok (.invokevirtual 26, 3) := by decide +kernel
theorem dX2_read_6 : decode cX2_read 6 = .ok (.ifCond .eq 18, 3) := by decide +kernel
theorem dX2_read_9 : decode cX2_read 9 = .ok (.aload_n 0, 1) := by decide +kernel
theorem dX2_read_10 : decode cX2_read 10 = .ok (.getfield 9, 3) := by decide +kernel
theorem dX2_read_13 : decode cX2_read 13 = .ok (.iload_n 1, 1) := by decide +kernel
theorem dX2_read_14 : decode cX2_read 14 = .ok (.sipush 256, 3) := by decide +kernel
theorem dX2_read_17 : decode cX2_read 17 = .ok (.imul, 1) := by decide +kernel
theorem dX2_read_18 : decode cX2_read 18 = .ok (.iload_n 2, 1) := by decide +kernel
theorem dX2_read_19 : decode cX2_read 19 = .ok (.iadd, 1) := by decide +kernel
theorem dX2_read_20 : decode cX2_read 20 = .ok (.iaload, 1) := by decide +kernel
theorem dX2_read_21 : decode cX2_read 21 = .ok (.goto 4, 3) := by decide +kernel
theorem dX2_read_24 : decode cX2_read 24 = .ok (.iconst (-1), 1) := by decide +kernel
theorem dX2_read_25 : decode cX2_read 25 = .ok (.ireturn, 1) := by decide +kernel
theorem dX2_write_0 : decode cX2_write 0 = .ok (.aload_n 0, 1) := by decide +kernel
theorem dX2_write_1 : decode cX2_write 1 = .ok (.iload_n 1, 1) := by decide +kernel
theorem dX2_write_2 : decode cX2_write 2 = .ok (.iload_n 2, 1) := by decide +kernel
theorem dX2_write_3 : decode cX2_write 3 = .ok (.invokevirtual 26, 3) := by decide +kernel
theorem dX2_write_6 : decode cX2_write 6 = .ok (.ifCond .eq 10, 3) := by decide +kernel
theorem dX2_write_9 : decode cX2_write 9 = .ok (.aload_n 0, 1) := by decide +kernel
theorem dX2_write_10 : decode cX2_write 10 = .ok (.invokevirtual 30, 3) := by decide +kernel
theorem dX2_write_13 : decode cX2_write 13 = .ok (.ifCond .ne 5, 3) := by decide +kernel
theorem dX2_write_16 : decode cX2_write 16 = .ok (.iconst 0, 1) := by decide +kernel
theorem dX2_write_17 : decode cX2_write 17 = .ok (.ireturn, 1) := by decide +kernel
theorem dX2_write_18 : decode cX2_write 18 = .ok (.aload_n 0, 1) := by decide +kernel
theorem dX2_write_19 : decode cX2_write 19 = .ok (.getfield 9, 3) := by decide +kernel
theorem dX2_write_22 : decode cX2_write 22 = .ok (.iload_n 1, 1) := by decide +kernel
theorem dX2_write_23 : decode cX2_write 23 = .ok (.sipush 256, 3) := by decide +kernel
theorem dX2_write_26 : decode cX2_write 26 = .ok (.imul, 1) := by decide +kernel
theorem dX2_write_27 : decode cX2_write 27 = .ok (.iload_n 2, 1) := by decide +kernel
theorem dX2_write_28 : decode cX2_write 28 = .ok (.iadd, 1) := by decide +kernel
theorem dX2_write_29 : decode cX2_write 29 = .ok (.iload_n 3, 1) := by decide +kernel
theorem dX2_write_30 : decode cX2_write 30 = .ok (.iastore, 1) := by decide +kernel
theorem dX2_write_31 : decode cX2_write 31 = .ok (.iconst 1, 1) := by decide +kernel
theorem dX2_write_32 : decode cX2_write 32 = .ok (.ireturn, 1) := by decide +kernel
theorem dX2_eraseSector_0 : decode cX2_eraseSector 0 = .ok (.aload_n 0, 1) := by decide +kernel
theorem dX2_eraseSector_1 : decode cX2_eraseSector 1 = .ok (.getfield 16, 3) := by decide +kernel
theorem dX2_eraseSector_4 : decode cX2_eraseSector 4 = .ok (.ifCond .eq 12, 3) := by decide +kernel
theorem dX2_eraseSector_7 : decode cX2_eraseSector 7 = .ok (.aload_n 0, 1) := by decide +kernel
theorem dX2_eraseSector_8 : decode cX2_eraseSector 8 = .ok (.iload_n 1, 1) := by decide +kernel
theorem dX2_eraseSector_9 : decode cX2_eraseSector 9 = .ok (.iconst 0, 1) := by decide +kernel
theorem dX2_eraseSector_10 : decode cX2_eraseSector 10 = .ok (.invokevirtual 26, 3) := by decide +kernel
theorem dX2_eraseSector_13 : decode cX2_eraseSector 13 = .ok (.ifCond .ne 5, 3) := by decide +kernel
theorem dX2_eraseSector_16 : decode cX2_eraseSector 16 = .ok (.iconst 0, 1) := by decide +kernel
theorem dX2_eraseSector_17 : decode cX2_eraseSector 17 = .ok (.ireturn, 1) := by decide +kernel
theorem dX2_eraseSector_18 : decode cX2_eraseSector 18 = .ok (.aload_n 0, 1) := by decide +kernel
theorem dX2_eraseSector_19 : decode cX2_eraseSector 19 = .ok (.invokevirtual 30, 3) := by decide +kernel
theorem dX2_eraseSector_22 : decode cX2_eraseSector 22 = .ok (.istore_n 2, 1) := by decide +kernel
theorem dX2_eraseSector_23 : decode cX2_eraseSector 23 = .ok (.aload_n 0, 1) := by decide +kernel
theorem dX2_eraseSector_24 : decode cX2_eraseSector 24 = .ok (.getfield 13, 3) := by decide +kernel
theorem dX2_eraseSector_27 : decode cX2_eraseSector 27 = .ok (.iload_n 1, 1) := by decide +kernel
theorem dX2_eraseSector_28 : decode cX2_eraseSector 28 = .ok (.dup2, 1) := by decide +kernel
theorem dX2_eraseSector_29 : decode cX2_eraseSector 29 = .ok (.iaload, 1) := by decide +kernel
theorem dX2_eraseSector_30 : decode cX2_eraseSector 30 = .ok (.iconst 1, 1) := by decide +kernel
theorem dX2_eraseSector_31 : decode cX2_eraseSector 31 = .ok (.iadd, 1) := by decide +kernel
theorem dX2_eraseSector_32 : decode cX2_eraseSector 32 = .ok (.iastore, 1) := by decide +kernel
theorem dX2_eraseSector_33 : decode cX2_eraseSector 33 = .ok (.iload_n 2, 1) := by decide +kernel
theorem dX2_eraseSector_34 : decode cX2_eraseSector 34 = .ok (.ifCond .eq 7, 3) := by decide +kernel
theorem dX2_eraseSector_37 : decode cX2_eraseSector 37 = .ok (.iconst 0, 1) := by decide +kernel
theorem dX2_eraseSector_38 : decode cX2_eraseSector 38 = .ok (.goto 7, 3) := by decide +kernel
theorem dX2_eraseSector_41 : decode cX2_eraseSector 41 = .ok (.aload_n 0, 1) := by decide +kernel
theorem dX2_eraseSector_42 : decode cX2_eraseSector 42 = .ok (.getfield 34, 3) := by decide +kernel
theorem dX2_eraseSector_45 : decode cX2_eraseSector 45 = .ok (.istore_n 3, 1) := by decide +kernel
theorem dX2_eraseSector_46 : decode cX2_eraseSector 46 = .ok (.iconst 0, 1) := by decide +kernel
theorem dX2_eraseSector_47 : decode cX2_eraseSector 47 = .ok (.istore 4, 2) := by decide +kernel
theorem dX2_eraseSector_49 : decode cX2_eraseSector 49 = .ok (.iload 4, 2) := by decide +kernel
theorem dX2_eraseSector_51 : decode cX2_eraseSector 51 = .ok (.sipush 256, 3) := by decide +kernel
theorem dX2_eraseSector_54 : decode cX2_eraseSector 54 = .ok (.if_icmp .ge 35, 3) := by decide +kernel
theorem dX2_eraseSector_57 : decode cX2_eraseSector 57 = .ok (.iload_n 3, 1) := by decide +kernel
theorem dX2_eraseSector_58 : decode cX2_eraseSector 58 = .ok (.iload 4, 2) := by decide +kernel
theorem dX2_eraseSector_60 : decode cX2_eraseSector 60 = .ok (.bipush 32, 2) := by decide +kernel
theorem dX2_eraseSector_62 : decode cX2_eraseSector 62 = .ok (.irem, 1) := by decide +kernel
theorem dX2_eraseSector_63 : decode cX2_eraseSector 63 = .ok (.iushr, 1) := by decide +kernel
theorem dX2_eraseSector_64 : decode cX2_eraseSector 64 = .ok (.iconst 1, 1) := by decide +kernel
theorem dX2_eraseSector_65 : decode cX2_eraseSector 65 = .ok (.iand, 1) := by decide +kernel
theorem dX2_eraseSector_66 : decode cX2_eraseSector 66 = .ok (.ifCond .ne 17, 3) := by decide +kernel
theorem dX2_eraseSector_69 : decode cX2_eraseSector 69 = .ok (.aload_n 0, 1) := by decide +kernel
theorem dX2_eraseSector_70 : decode cX2_eraseSector 70 = .ok (.getfield 9, 3) := by decide +kernel
theorem dX2_eraseSector_73 : decode cX2_eraseSector 73 = .ok (.iload_n 1, 1) := by decide +kernel
theorem dX2_eraseSector_74 : decode cX2_eraseSector 74 = .ok (.sipush 256, 3) := by decide +kernel
theorem dX2_eraseSector_77 : decode cX2_eraseSector 77 = .ok (.imul, 1) := by decide +kernel
theorem dX2_eraseSector_78 : decode cX2_eraseSector 78 = .ok (.iload 4, 2) := by decide +kernel
theorem dX2_eraseSector_80 : decode cX2_eraseSector 80 = .ok (.iadd, 1) := by decide +kernel
theorem dX2_eraseSector_81 : decode cX2_eraseSector 81 = .ok (.iconst (-1), 1) := by decide +kernel
theorem dX2_eraseSector_82 : decode cX2_eraseSector 82 = .ok (.iastore, 1) := by decide +kernel
theorem dX2_eraseSector_83 : decode cX2_eraseSector 83 = .ok (.iinc 4 1, 3) := by decide +kernel
theorem dX2_eraseSector_86 : decode cX2_eraseSector 86 = .ok (.goto (-37), 3) := by decide +kernel
theorem dX2_eraseSector_89 : decode cX2_eraseSector 89 = .ok (.iload_n 2, 1) := by decide +kernel
theorem dX2_eraseSector_90 : decode cX2_eraseSector 90 = .ok (.ireturn, 1) := by decide +kernel
theorem dX2_markOf_0 : decode cX2_markOf 0 = .ok (.bipush 17, 2) := by decide +kernel
theorem dX2_markOf_2 : decode cX2_markOf 2 = .ok (.istore 4, 2) := by decide +kernel
theorem dX2_markOf_4 : decode cX2_markOf 4 = .ok (.iconst 0, 1) := by decide +kernel
theorem dX2_markOf_5 : decode cX2_markOf 5 = .ok (.istore 5, 2) := by decide +kernel
theorem dX2_markOf_7 : decode cX2_markOf 7 = .ok (.iload 5, 2) := by decide +kernel
theorem dX2_markOf_9 : decode cX2_markOf 9 = .ok (.iload_n 3, 1) := by decide +kernel
theorem dX2_markOf_10 : decode cX2_markOf 10 = .ok (.if_icmp .ge 34, 3) := by decide +kernel
theorem dX2_markOf_13 : decode cX2_markOf 13 = .ok (.iload 5, 2) := by decide +kernel
theorem dX2_markOf_15 : decode cX2_markOf 15 = .ok (.sipush 256, 3) := by decide +kernel
theorem dX2_markOf_18 : decode cX2_markOf 18 = .ok (.if_icmp .ge 26, 3) := by decide +kernel
theorem dX2_markOf_21 : decode cX2_markOf 21 = .ok (.bipush 31, 2) := by decide +kernel
theorem dX2_markOf_23 : decode cX2_markOf 23 = .ok (.iload 4, 2) := by decide +kernel
theorem dX2_markOf_25 : decode cX2_markOf 25 = .ok (.imul, 1) := by decide +kernel
theorem dX2_markOf_26 : decode cX2_markOf 26 = .ok (.aload_n 0, 1) := by decide +kernel
theorem dX2_markOf_27 : decode cX2_markOf 27 = .ok (.iload_n 1, 1) := by decide +kernel
theorem dX2_markOf_28 : decode cX2_markOf 28 = .ok (.iload_n 2, 1) := by decide +kernel
theorem dX2_markOf_29 : decode cX2_markOf 29 = .ok (.iload 5, 2) := by decide +kernel
theorem dX2_markOf_31 : decode cX2_markOf 31 = .ok (.iadd, 1) := by decide +kernel
theorem dX2_markOf_32 : decode cX2_markOf 32 = .ok (.invokevirtual 38, 3) := by decide +kernel
theorem dX2_markOf_35 : decode cX2_markOf 35 = .ok (.iadd, 1) := by decide +kernel
theorem dX2_markOf_36 : decode cX2_markOf 36 = .ok (.istore 4, 2) := by decide +kernel
theorem dX2_markOf_38 : decode cX2_markOf 38 = .ok (.iinc 5 1, 3) := by decide +kernel
theorem dX2_markOf_41 : decode cX2_markOf 41 = .ok (.goto (-34), 3) := by decide +kernel
theorem dX2_markOf_44 : decode cX2_markOf 44 = .ok (.iload 4, 2) := by decide +kernel
theorem dX2_markOf_46 : decode cX2_markOf 46 = .ok (.ldc 42, 2) := by decide +kernel
theorem dX2_markOf_48 : decode cX2_markOf 48 = .ok (.ixor, 1) := by decide +kernel
theorem dX2_markOf_49 : decode cX2_markOf 49 = .ok (.istore 4, 2) := by decide +kernel
theorem dX2_markOf_51 : decode cX2_markOf 51 = .ok (.iload 4, 2) := by decide +kernel
theorem dX2_markOf_53 : decode cX2_markOf 53 = .ok (.iconst (-1), 1) := by decide +kernel
theorem dX2_markOf_54 : decode cX2_markOf 54 = .ok (.if_icmp .ne 7, 3) := by decide +kernel
theorem dX2_markOf_57 : decode cX2_markOf 57 = .ok (.iconst 0, 1) := by decide +kernel
theorem dX2_markOf_58 : decode cX2_markOf 58 = .ok (.goto 5, 3) := by decide +kernel
theorem dX2_markOf_61 : decode cX2_markOf 61 = .ok (.iload 4, 2) := by decide +kernel
theorem dX2_markOf_63 : decode cX2_markOf 63 = .ok (.ireturn, 1) := by decide +kernel
theorem dX2_areBlank_0 : decode cX2_areBlank 0 = .ok (.iconst 0, 1) := by decide +kernel
theorem dX2_areBlank_1 : decode cX2_areBlank 1 = .ok (.istore 4, 2) := by decide +kernel
theorem dX2_areBlank_3 : decode cX2_areBlank 3 = .ok (.iload 4, 2) := by decide +kernel
theorem dX2_areBlank_5 : decode cX2_areBlank 5 = .ok (.iload_n 3, 1) := by decide +kernel
theorem dX2_areBlank_6 : decode cX2_areBlank 6 = .ok (.if_icmp .ge 32, 3) := by decide +kernel
theorem dX2_areBlank_9 : decode cX2_areBlank 9 = .ok (.iload 4, 2) := by decide +kernel
theorem dX2_areBlank_11 : decode cX2_areBlank 11 = .ok (.sipush 256, 3) := by decide +kernel
theorem dX2_areBlank_14 : decode cX2_areBlank 14 = .ok (.if_icmp .ge 24, 3) := by decide +kernel
theorem dX2_areBlank_17 : decode cX2_areBlank 17 = .ok (.aload_n 0, 1) := by decide +kernel
theorem dX2_areBlank_18 : decode cX2_areBlank 18 = .ok (.iload_n 1, 1) := by decide +kernel
theorem dX2_areBlank_19 : decode cX2_areBlank 19 = .ok (.iload_n 2, 1) := by decide +kernel
theorem dX2_areBlank_20 : decode cX2_areBlank 20 = .ok (.iload 4, 2) := by decide +kernel
theorem dX2_areBlank_22 : decode cX2_areBlank 22 = .ok (.iadd, 1) := by decide +kernel
theorem dX2_areBlank_23 : decode cX2_areBlank 23 = .ok (.invokevirtual 38, 3) := by decide +kernel
theorem dX2_areBlank_26 : decode cX2_areBlank 26 = .ok (.iconst (-1), 1) := by decide +kernel
theorem dX2_areBlank_27 : decode cX2_areBlank 27 = .ok (.if_icmp .eq 5, 3) := by decide +kernel
theorem dX2_areBlank_30 : decode cX2_areBlank 30 = .ok (.iconst 0, 1) := by decide +kernel
theorem dX2_areBlank_31 : decode cX2_areBlank 31 = .ok (.ireturn, 1) := by decide +kernel
theorem dX2_areBlank_32 : decode cX2_areBlank 32 = .ok (.iinc 4 1, 3) := by decide +kernel
theorem dX2_areBlank_35 : decode cX2_areBlank 35 = .ok (.goto (-32), 3) := by decide +kernel
theorem dX2_areBlank_38 : decode cX2_areBlank 38 = .ok (.iconst 1, 1) := by decide +kernel
theorem dX2_areBlank_39 : decode cX2_areBlank 39 = .ok (.ireturn, 1) := by decide +kernel
theorem dX2_erasesOf_0 : decode cX2_erasesOf 0 = .ok (.aload_n 0, 1) := by decide +kernel
theorem dX2_erasesOf_1 : decode cX2_erasesOf 1 = .ok (.iload_n 1, 1) := by decide +kernel
theorem dX2_erasesOf_2 : decode cX2_erasesOf 2 = .ok (.iconst 0, 1) := by decide +kernel
theorem dX2_erasesOf_3 : decode cX2_erasesOf 3 = .ok (.invokevirtual 26, 3) := by decide +kernel
theorem dX2_erasesOf_6 : decode cX2_erasesOf 6 = .ok (.ifCond .eq 12, 3) := by decide +kernel
theorem dX2_erasesOf_9 : decode cX2_erasesOf 9 = .ok (.aload_n 0, 1) := by decide +kernel
theorem dX2_erasesOf_10 : decode cX2_erasesOf 10 = .ok (.getfield 13, 3) := by decide +kernel
theorem dX2_erasesOf_13 : decode cX2_erasesOf 13 = .ok (.iload_n 1, 1) := by decide +kernel
theorem dX2_erasesOf_14 : decode cX2_erasesOf 14 = .ok (.iaload, 1) := by decide +kernel
theorem dX2_erasesOf_15 : decode cX2_erasesOf 15 = .ok (.goto 4, 3) := by decide +kernel
theorem dX2_erasesOf_18 : decode cX2_erasesOf 18 = .ok (.iconst 0, 1) := by decide +kernel
theorem dX2_erasesOf_19 : decode cX2_erasesOf 19 = .ok (.ireturn, 1) := by decide +kernel
theorem dX2_wearSpread_0 : decode cX2_wearSpread 0 = .ok (.aload_n 0, 1) := by decide +kernel
theorem dX2_wearSpread_1 : decode cX2_wearSpread 1 = .ok (.iconst 0, 1) := by decide +kernel
theorem dX2_wearSpread_2 : decode cX2_wearSpread 2 = .ok (.invokevirtual 43, 3) := by decide +kernel
theorem dX2_wearSpread_5 : decode cX2_wearSpread 5 = .ok (.istore_n 1, 1) := by decide +kernel
theorem dX2_wearSpread_6 : decode cX2_wearSpread 6 = .ok (.iload_n 1, 1) := by decide +kernel
theorem dX2_wearSpread_7 : decode cX2_wearSpread 7 = .ok (.istore_n 2, 1) := by decide +kernel
theorem dX2_wearSpread_8 : decode cX2_wearSpread 8 = .ok (.iconst 1, 1) := by decide +kernel
theorem dX2_wearSpread_9 : decode cX2_wearSpread 9 = .ok (.istore_n 3, 1) := by decide +kernel
theorem dX2_wearSpread_10 : decode cX2_wearSpread 10 = .ok (.iload_n 3, 1) := by decide +kernel
theorem dX2_wearSpread_11 : decode cX2_wearSpread 11 = .ok (.bipush 16, 2) := by decide +kernel
theorem dX2_wearSpread_13 : decode cX2_wearSpread 13 = .ok (.if_icmp .ge 29, 3) := by decide +kernel
theorem dX2_wearSpread_16 : decode cX2_wearSpread 16 = .ok (.iload_n 1, 1) := by decide +kernel
theorem dX2_wearSpread_17 : decode cX2_wearSpread 17 = .ok (.aload_n 0, 1) := by decide +kernel
theorem dX2_wearSpread_18 : decode cX2_wearSpread 18 = .ok (.iload_n 3, 1) := by decide +kernel
theorem dX2_wearSpread_19 : decode cX2_wearSpread 19 = .ok (.invokevirtual 43, 3) := by decide +kernel
theorem dX2_wearSpread_22 : decode cX2_wearSpread 22 = .ok (.invokestatic 47, 3) := by decide +kernel
theorem dX2_wearSpread_25 : decode cX2_wearSpread 25 = .ok (.istore_n 1, 1) := by decide +kernel
theorem dX2_wearSpread_26 : decode cX2_wearSpread 26 = .ok (.iload_n 2, 1) := by decide +kernel
theorem dX2_wearSpread_27 : decode cX2_wearSpread 27 = .ok (.aload_n 0, 1) := by decide +kernel
theorem dX2_wearSpread_28 : decode cX2_wearSpread 28 = .ok (.iload_n 3, 1) := by decide +kernel
theorem dX2_wearSpread_29 : decode cX2_wearSpread 29 = .ok (.invokevirtual 43, 3) := by decide +kernel
theorem dX2_wearSpread_32 : decode cX2_wearSpread 32 = .ok (.invokestatic 52, 3) := by decide +kernel
theorem dX2_wearSpread_35 : decode cX2_wearSpread 35 = .ok (.istore_n 2, 1) := by decide +kernel
theorem dX2_wearSpread_36 : decode cX2_wearSpread 36 = .ok (.iinc 3 1, 3) := by decide +kernel
theorem dX2_wearSpread_39 : decode cX2_wearSpread 39 = .ok (.goto (-29), 3) := by decide +kernel
theorem dX2_wearSpread_42 : decode cX2_wearSpread 42 = .ok (.iload_n 2, 1) := by decide +kernel
theorem dX2_wearSpread_43 : decode cX2_wearSpread 43 = .ok (.iload_n 1, 1) := by decide +kernel
theorem dX2_wearSpread_44 : decode cX2_wearSpread 44 = .ok (.isub, 1) := by decide +kernel
theorem dX2_wearSpread_45 : decode cX2_wearSpread 45 = .ok (.ireturn, 1) := by decide +kernel
theorem dX2_expectCut_0 : decode cX2_expectCut 0 = .ok (.aload_n 0, 1) := by decide +kernel
theorem dX2_expectCut_1 : decode cX2_expectCut 1 = .ok (.iconst 1, 1) := by decide +kernel
theorem dX2_expectCut_2 : decode cX2_expectCut 2 = .ok (.putfield 55, 3) := by decide +kernel
theorem dX2_expectCut_5 : decode cX2_expectCut 5 = .ok (.aload_n 0, 1) := by decide +kernel
theorem dX2_expectCut_6 : decode cX2_expectCut 6 = .ok (.iload_n 1, 1) := by decide +kernel
theorem dX2_expectCut_7 : decode cX2_expectCut 7 = .ok (.putfield 58, 3) := by decide +kernel
theorem dX2_expectCut_10 : decode cX2_expectCut 10 = .ok (.aload_n 0, 1) := by decide +kernel
theorem dX2_expectCut_11 : decode cX2_expectCut 11 = .ok (.iload_n 2, 1) := by decide +kernel
theorem dX2_expectCut_12 : decode cX2_expectCut 12 = .ok (.putfield 34, 3) := by decide +kernel
theorem dX2_expectCut_15 : decode cX2_expectCut 15 = .ok (.return_, 1) := by decide +kernel
theorem dX2_cutsSuffered_0 : decode cX2_cutsSuffered 0 = .ok (.aload_n 0, 1) := by decide +kernel
theorem dX2_cutsSuffered_1 : decode cX2_cutsSuffered 1 = .ok (.getfield 61, 3) := by decide +kernel
theorem dX2_cutsSuffered_4 : decode cX2_cutsSuffered 4 = .ok (.ireturn, 1) := by decide +kernel
theorem dX2_hasPower_0 : decode cX2_hasPower 0 = .ok (.aload_n 0, 1) := by decide +kernel
theorem dX2_hasPower_1 : decode cX2_hasPower 1 = .ok (.getfield 16, 3) := by decide +kernel
theorem dX2_hasPower_4 : decode cX2_hasPower 4 = .ok (.ireturn, 1) := by decide +kernel
theorem dX2_restorePower_0 : decode cX2_restorePower 0 = .ok (.aload_n 0, 1) := by decide +kernel
theorem dX2_restorePower_1 : decode cX2_restorePower 1 = .ok (.iconst 1, 1) := by decide +kernel
theorem dX2_restorePower_2 : decode cX2_restorePower 2 = .ok (.putfield 16, 3) := by decide +kernel
theorem dX2_restorePower_5 : decode cX2_restorePower 5 = .ok (.return_, 1) := by decide +kernel
theorem dX2_spendOne_0 : decode cX2_spendOne 0 = .ok (.aload_n 0, 1) := by decide +kernel
theorem dX2_spendOne_1 : decode cX2_spendOne 1 = .ok (.getfield 16, 3) := by decide +kernel
theorem dX2_spendOne_4 : decode cX2_spendOne 4 = .ok (.ifCond .ne 5, 3) := by decide +kernel
theorem dX2_spendOne_7 : decode cX2_spendOne 7 = .ok (.iconst 0, 1) := by decide +kernel
theorem dX2_spendOne_8 : decode cX2_spendOne 8 = .ok (.ireturn, 1) := by decide +kernel
theorem dX2_spendOne_9 : decode cX2_spendOne 9 = .ok (.aload_n 0, 1) := by decide +kernel
theorem dX2_spendOne_10 : decode cX2_spendOne 10 = .ok (.getfield 55, 3) := by decide +kernel
theorem dX2_spendOne_13 : decode cX2_spendOne 13 = .ok (.ifCond .ne 5, 3) := by decide +kernel
theorem dX2_spendOne_16 : decode cX2_spendOne 16 = .ok (.iconst 1, 1) := by decide +kernel
theorem dX2_spendOne_17 : decode cX2_spendOne 17 = .ok (.ireturn, 1) := by decide +kernel
theorem dX2_spendOne_18 : decode cX2_spendOne 18 = .ok (.aload_n 0, 1) := by decide +kernel
theorem dX2_spendOne_19 : decode cX2_spendOne 19 = .ok (.getfield 58, 3) := by decide +kernel
theorem dX2_spendOne_22 : decode cX2_spendOne 22 = .ok (.ifCond .le 15, 3) := by decide +kernel
theorem dX2_spendOne_25 : decode cX2_spendOne 25 = .ok (.aload_n 0, 1) := by decide +kernel
theorem dX2_spendOne_26 : decode cX2_spendOne 26 = .ok (.dup, 1) := by decide +kernel
theorem dX2_spendOne_27 : decode cX2_spendOne 27 = .ok (.getfield 58, 3) := by decide +kernel
theorem dX2_spendOne_30 : decode cX2_spendOne 30 = .ok (.iconst 1, 1) := by decide +kernel
theorem dX2_spendOne_31 : decode cX2_spendOne 31 = .ok (.isub, 1) := by decide +kernel
theorem dX2_spendOne_32 : decode cX2_spendOne 32 = .ok (.putfield 58, 3) := by decide +kernel
theorem dX2_spendOne_35 : decode cX2_spendOne 35 = .ok (.iconst 1, 1) := by decide +kernel
theorem dX2_spendOne_36 : decode cX2_spendOne 36 = .ok (.ireturn, 1) := by decide +kernel
theorem dX2_spendOne_37 : decode cX2_spendOne 37 = .ok (.aload_n 0, 1) := by decide +kernel
theorem dX2_spendOne_38 : decode cX2_spendOne 38 = .ok (.iconst 0, 1) := by decide +kernel
theorem dX2_spendOne_39 : decode cX2_spendOne 39 = .ok (.putfield 55, 3) := by decide +kernel
theorem dX2_spendOne_42 : decode cX2_spendOne 42 = .ok (.aload_n 0, 1) := by decide +kernel
theorem dX2_spendOne_43 : decode cX2_spendOne 43 = .ok (.iconst 0, 1) := by decide +kernel
theorem dX2_spendOne_44 : decode cX2_spendOne 44 = .ok (.putfield 16, 3) := by decide +kernel
theorem dX2_spendOne_47 : decode cX2_spendOne 47 = .ok (.aload_n 0, 1) := by decide +kernel
theorem dX2_spendOne_48 : decode cX2_spendOne 48 = .ok (.dup, 1) := by decide +kernel
theorem dX2_spendOne_49 : decode cX2_spendOne 49 = .ok (.getfield 61, 3) := by decide +kernel
theorem dX2_spendOne_52 : decode cX2_spendOne 52 = .ok (.iconst 1, 1) := by decide +kernel
theorem dX2_spendOne_53 : decode cX2_spendOne 53 = .ok (.iadd, 1) := by decide +kernel
theorem dX2_spendOne_54 : decode cX2_spendOne 54 = .ok (.putfield 61, 3) := by decide +kernel
theorem dX2_spendOne_57 : decode cX2_spendOne 57 = .ok (.iconst 0, 1) := by decide +kernel
theorem dX2_spendOne_58 : decode cX2_spendOne 58 = .ok (.ireturn, 1) := by decide +kernel
theorem dX3_init_0 : decode cX3_init 0 = .ok (.aload_n 0, 1) := by decide +kernel
theorem dX3_init_1 : decode cX3_init 1 = .ok (.invokespecial 1, 3) := by decide +kernel
theorem dX3_init_4 : decode cX3_init 4 = .ok (.aload_n 0, 1) := by decide +kernel
theorem dX3_init_5 : decode cX3_init 5 = .ok (.sipush 320, 3) := by decide +kernel
theorem dX3_init_8 : decode cX3_init 8 = .ok (.newarray .int, 2) := by decide +kernel
theorem dX3_init_10 : decode cX3_init 10 = .ok (.putfield 9, 3) := by decide +kernel
theorem dX3_init_13 : decode cX3_init 13 = .ok (.aload_n 0, 1) := by decide +kernel
theorem dX3_init_14 : decode cX3_init 14 = .ok (.sipush 320, 3) := by decide +kernel
theorem dX3_init_17 : decode cX3_init 17 = .ok (.newarray .int, 2) := by decide +kernel
theorem dX3_init_19 : decode cX3_init 19 = .ok (.putfield 13, 3) := by decide +kernel
theorem dX3_init_22 : decode cX3_init 22 = .ok (.return_, 1) := by decide +kernel
theorem dX3_draft_0 : decode cX3_draft 0 = .ok (.iload_n 1, 1) := by decide +kernel
theorem dX3_draft_1 : decode cX3_draft 1 = .ok (.iload_n 2, 1) := by decide +kernel
theorem dX3_draft_2 : decode cX3_draft 2 = .ok (.iload_n 3, 1) := by decide +kernel
theorem dX3_draft_3 : decode cX3_draft 3 = .ok (.invokestatic 16, 3) := by decide +kernel
theorem dX3_draft_6 : decode cX3_draft 6 = .ok (.istore 5, 2) := by decide +kernel
theorem dX3_draft_8 : decode cX3_draft 8 = .ok (.iload 5, 2) := by decide +kernel
theorem dX3_draft_10 : decode cX3_draft 10 = .ok (.ifCond .lt 13, 3) := by decide +kernel
theorem dX3_draft_13 : decode cX3_draft 13 = .ok (.iload 5, 2) := by decide +kernel
theorem dX3_draft_15 : decode cX3_draft 15 = .ok (.aload_n 0, 1) := by decide +kernel
theorem dX3_draft_16 : decode cX3_draft 16 = .ok (.getfield 9, 3) := by decide +kernel
theorem dX3_draft_19 : decode cX3_draft 19 = .ok (.arraylength, 1) := by decide +kernel
theorem dX3_draft_20 : decode cX3_draft 20 = .ok (.if_icmp .lt 5, 3) := by decide +kernel
theorem dX3_draft_23 : decode cX3_draft 23 = .ok (.iconst 0, 1) := by decide +kernel
theorem dX3_draft_24 : decode cX3_draft 24 = .ok (.ireturn, 1) := by decide +kernel
theorem dX3_draft_25 : decode cX3_draft 25 = .ok (.aload_n 0, 1) := by decide +kernel
theorem dX3_draft_26 : decode cX3_draft 26 = .ok (.getfield 9, 3) := by decide +kernel
theorem dX3_draft_29 : decode cX3_draft 29 = .ok (.iload 5, 2) := by decide +kernel
theorem dX3_draft_31 : decode cX3_draft 31 = .ok (.iload 4, 2) := by decide +kernel
theorem dX3_draft_33 : decode cX3_draft 33 = .ok (.iastore, 1) := by decide +kernel
theorem dX3_draft_34 : decode cX3_draft 34 = .ok (.iconst 1, 1) := by decide +kernel
theorem dX3_draft_35 : decode cX3_draft 35 = .ok (.ireturn, 1) := by decide +kernel
theorem dX3_useDrafts_0 : decode cX3_useDrafts 0 = .ok (.iconst 0, 1) := by decide +kernel
theorem dX3_useDrafts_1 : decode cX3_useDrafts 1 = .ok (.istore_n 1, 1) := by decide +kernel
theorem dX3_useDrafts_2 : decode cX3_useDrafts 2 = .ok (.iload_n 1, 1) := by decide +kernel
theorem dX3_useDrafts_3 : decode cX3_useDrafts 3 = .ok (.aload_n 0, 1) := by decide +kernel
theorem dX3_useDrafts_4 : decode cX3_useDrafts 4 = .ok (.getfield 13, 3) := by decide +kernel
theorem dX3_useDrafts_7 : decode cX3_useDrafts 7 = .ok (.arraylength, 1) := by decide +kernel
theorem dX3_useDrafts_8 : decode cX3_useDrafts 8 = .ok (.if_icmp .ge 30, 3) := by decide +kernel
theorem dX3_useDrafts_11 : decode cX3_useDrafts 11 = .ok (.iload_n 1, 1) := by decide +kernel
theorem dX3_useDrafts_12 : decode cX3_useDrafts 12 = .ok (.aload_n 0, 1) := by decide +kernel
theorem dX3_useDrafts_13 : decode cX3_useDrafts 13 = .ok (.getfield 9, 3) := by decide +kernel
theorem dX3_useDrafts_16 : decode cX3_useDrafts 16 = .ok (.arraylength, 1) := by decide +kernel
theorem dX3_useDrafts_17 : decode cX3_useDrafts 17 = .ok (.if_icmp .ge 21, 3) := by decide +kernel
theorem dX3_useDrafts_20 : decode cX3_useDrafts 20 = .ok (.aload_n 0, 1) := by decide +kernel
theorem dX3_useDrafts_21 : decode cX3_useDrafts 21 = .ok (.getfield 13, 3) := by decide +kernel
theorem dX3_useDrafts_24 : decode cX3_useDrafts 24 = .ok (.iload_n 1, 1) := by decide +kernel
theorem dX3_useDrafts_25 : decode cX3_useDrafts 25 = .ok (.aload_n 0, 1) := by decide +kernel
theorem dX3_useDrafts_26 : decode cX3_useDrafts 26 = .ok (.getfield 9, 3) := by decide +kernel
theorem dX3_useDrafts_29 : decode cX3_useDrafts 29 = .ok (.iload_n 1, 1) := by decide +kernel
theorem dX3_useDrafts_30 : decode cX3_useDrafts 30 = .ok (.iaload, 1) := by decide +kernel
theorem dX3_useDrafts_31 : decode cX3_useDrafts 31 = .ok (.iastore, 1) := by decide +kernel
theorem dX3_useDrafts_32 : decode cX3_useDrafts 32 = .ok (.iinc 1 1, 3) := by decide +kernel
theorem dX3_useDrafts_35 : decode cX3_useDrafts 35 = .ok (.goto (-33), 3) := by decide +kernel
theorem dX3_useDrafts_38 : decode cX3_useDrafts 38 = .ok (.return_, 1) := by decide +kernel
theorem dX3_priceOf_0 : decode cX3_priceOf 0 = .ok (.iload_n 2, 1) := by decide +kernel
theorem dX3_priceOf_1 : decode cX3_priceOf 1 = .ok (.iconst 1, 1) := by decide +kernel
theorem dX3_priceOf_2 : decode cX3_priceOf 2 = .ok (.if_icmp .ge 5, 3) := by decide +kernel
theorem dX3_priceOf_5 : decode cX3_priceOf 5 = .ok (.iconst 0, 1) := by decide +kernel
theorem dX3_priceOf_6 : decode cX3_priceOf 6 = .ok (.ireturn, 1) := by decide +kernel
theorem dX3_priceOf_7 : decode cX3_priceOf 7 = .ok (.iload_n 1, 1) := by decide +kernel
theorem dX3_priceOf_8 : decode cX3_priceOf 8 = .ok (.iload_n 2, 1) := by decide +kernel
theorem dX3_priceOf_9 : decode cX3_priceOf 9 = .ok (.iconst 1, 1) := by decide +kernel
theorem dX3_priceOf_10 : decode cX3_priceOf 10 = .ok (.isub, 1) := by decide +kernel
theorem dX3_priceOf_11 : decode cX3_priceOf 11 = .ok (.bipush 50, 2) := by decide +kernel
theorem dX3_priceOf_13 : decode cX3_priceOf 13 = .ok (.idiv, 1) := by decide +kernel
theorem dX3_priceOf_14 : decode cX3_priceOf 14 = .ok (.iload_n 3, 1) := by decide +kernel
theorem dX3_priceOf_15 : decode cX3_priceOf 15 = .ok (.invokestatic 16, 3) := by decide +kernel
theorem dX3_priceOf_18 : decode cX3_priceOf 18 = .ok (.istore 4, 2) := by decide +kernel
theorem dX3_priceOf_20 : decode cX3_priceOf 20 = .ok (.iload 4, 2) := by decide +kernel
theorem dX3_priceOf_22 : decode cX3_priceOf 22 = .ok (.ifCond .lt 23, 3) := by decide +kernel
theorem dX3_priceOf_25 : decode cX3_priceOf 25 = .ok (.iload 4, 2) := by decide +kernel
theorem dX3_priceOf_27 : decode cX3_priceOf 27 = .ok (.aload_n 0, 1) := by decide +kernel
theorem dX3_priceOf_28 : decode cX3_priceOf 28 = .ok (.getfield 13, 3) := by decide +kernel
theorem dX3_priceOf_31 : decode cX3_priceOf 31 = .ok (.arraylength, 1) := by decide +kernel
theorem dX3_priceOf_32 : decode cX3_priceOf 32 = .ok (.if_icmp .ge 13, 3) := by decide +kernel
theorem dX3_priceOf_35 : decode cX3_priceOf 35 = .ok (.aload_n 0, 1) := by decide +kernel
theorem dX3_priceOf_36 : decode cX3_priceOf 36 = .ok (.getfield 13, 3) := by decide +kernel
theorem dX3_priceOf_39 : decode cX3_priceOf 39 = .ok (.iload 4, 2) := by decide +kernel
theorem dX3_priceOf_41 : decode cX3_priceOf 41 = .ok (.iaload, 1) := by decide +kernel
theorem dX3_priceOf_42 : decode cX3_priceOf 42 = .ok (.goto 4, 3) := by decide +kernel
theorem dX3_priceOf_45 : decode cX3_priceOf 45 = .ok (.iconst 0, 1) := by decide +kernel
theorem dX3_priceOf_46 : decode cX3_priceOf 46 = .ok (.ireturn, 1) := by decide +kernel
theorem dX3_placeOf_0 : decode cX3_placeOf 0 = .ok (.iload_n 0, 1) := by decide +kernel
theorem dX3_placeOf_1 : decode cX3_placeOf 1 = .ok (.ifCond .lt 32, 3) := by decide +kernel
theorem dX3_placeOf_4 : decode cX3_placeOf 4 = .ok (.iload_n 0, 1) := by decide +kernel
theorem dX3_placeOf_5 : decode cX3_placeOf 5 = .ok (.bipush 8, 2) := by decide +kernel
theorem dX3_placeOf_7 : decode cX3_placeOf 7 = .ok (.if_icmp .ge 26, 3) := by decide +kernel
theorem dX3_placeOf_10 : decode cX3_placeOf 10 = .ok (.iload_n 1, 1) := by decide +kernel
theorem dX3_placeOf_11 : decode cX3_placeOf 11 = .ok (.ifCond .lt 22, 3) := by decide +kernel
theorem dX3_placeOf_14 : decode cX3_placeOf 14 = .ok (.iload_n 1, 1) := by decide +kernel
theorem dX3_placeOf_15 : decode cX3_placeOf 15 = .ok (.bipush 10, 2) := by decide +kernel
theorem dX3_placeOf_17 : decode cX3_placeOf 17 = .ok (.if_icmp .ge 16, 3) := by decide +kernel
theorem dX3_placeOf_20 : decode cX3_placeOf 20 = .ok (.iload_n 2, 1) := by decide +kernel
theorem dX3_placeOf_21 : decode cX3_placeOf 21 = .ok (.ifCond .lt 12, 3) := by decide +kernel
theorem dX3_placeOf_24 : decode cX3_placeOf 24 = .ok (.iload_n 2, 1) := by decide +kernel
theorem dX3_placeOf_25 : decode cX3_placeOf 25 = .ok (.iconst 4, 1) := by decide +kernel
theorem dX3_placeOf_26 : decode cX3_placeOf 26 = .ok (.if_icmp .ge 7, 3) := by decide +kernel
theorem dX3_placeOf_29 : decode cX3_placeOf 29 = .ok (.iconst 1, 1) := by decide +kernel
theorem dX3_placeOf_30 : decode cX3_placeOf 30 = .ok (.goto 4, 3) := by decide +kernel
theorem dX3_placeOf_33 : decode cX3_placeOf 33 = .ok (.iconst 0, 1) := by decide +kernel
theorem dX3_placeOf_34 : decode cX3_placeOf 34 = .ok (.istore_n 3, 1) := by decide +kernel
theorem dX3_placeOf_35 : decode cX3_placeOf 35 = .ok (.iload_n 3, 1) := by decide +kernel
theorem dX3_placeOf_36 : decode cX3_placeOf 36 = .ok (.ifCond .eq 16, 3) := by decide +kernel
theorem dX3_placeOf_39 : decode cX3_placeOf 39 = .ok (.iload_n 0, 1) := by decide +kernel
theorem dX3_placeOf_40 : decode cX3_placeOf 40 = .ok (.bipush 10, 2) := by decide +kernel
theorem dX3_placeOf_42 : decode cX3_placeOf 42 = .ok (.imul, 1) := by decide +kernel
theorem dX3_placeOf_43 : decode cX3_placeOf 43 = .ok (.iload_n 1, 1) := by decide +kernel
theorem dX3_placeOf_44 : decode cX3_placeOf 44 = .ok (.iadd, 1) := by decide +kernel
theorem dX3_placeOf_45 : decode cX3_placeOf 45 = .ok (.iconst 4, 1) := by decide +kernel
theorem dX3_placeOf_46 : decode cX3_placeOf 46 = .ok (.imul, 1) := by decide +kernel
theorem dX3_placeOf_47 : decode cX3_placeOf 47 = .ok (.iload_n 2, 1) := by decide +kernel
theorem dX3_placeOf_48 : decode cX3_placeOf 48 = .ok (.iadd, 1) := by decide +kernel
theorem dX3_placeOf_49 : decode cX3_placeOf 49 = .ok (.goto 4, 3) := by decide +kernel
theorem dX3_placeOf_52 : decode cX3_placeOf 52 = .ok (.iconst (-1), 1) := by decide +kernel
theorem dX3_placeOf_53 : decode cX3_placeOf 53 = .ok (.ireturn, 1) := by decide +kernel
theorem dX4_init_0 : decode cX4_init 0 = .ok (.aload_n 0, 1) := by decide +kernel
theorem dX4_init_1 : decode cX4_init 1 = .ok (.invokespecial 1, 3) := by decide +kernel
theorem dX4_init_4 : decode cX4_init 4 = .ok (.aload_n 0, 1) := by decide +kernel
theorem dX4_init_5 : decode cX4_init 5 = .ok (.iconst 1, 1) := by decide +kernel
theorem dX4_init_6 : decode cX4_init 6 = .ok (.iload_n 1, 1) := by decide +kernel
theorem dX4_init_7 : decode cX4_init 7 = .ok (.ldc 9, 2) := by decide +kernel
theorem dX4_init_9 : decode cX4_init 9 = .ok (.invokestatic 10, 3) := by decide +kernel
theorem dX4_init_12 : decode cX4_init 12 = .ok (.invokestatic 16, 3) := by decide +kernel
theorem dX4_init_15 : decode cX4_init 15 = .ok (.putfield 19, 3) := by decide +kernel
theorem dX4_init_18 : decode cX4_init 18 = .ok (.aload_n 0, 1) := by decide +kernel
theorem dX4_init_19 : decode cX4_init 19 = .ok (.new 23, 3) := by decide +kernel
theorem dX4_init_22 : decode cX4_init 22 = .ok (.dup, 1) := by decide +kernel
theorem dX4_init_23 : decode cX4_init 23 = .ok (.invokespecial 25, 3) := by decide +kernel
theorem dX4_init_26 : decode cX4_init 26 = .ok (.putfield 26, 3) := by decide +kernel
theorem dX4_init_29 : decode cX4_init 29 = .ok (.aload_n 0, 1) := by decide +kernel
theorem dX4_init_30 : decode cX4_init 30 = .ok (.new 30, 3) := by decide +kernel
theorem dX4_init_33 : decode cX4_init 33 = .ok (.dup, 1) := by decide +kernel
theorem dX4_init_34 : decode cX4_init 34 = .ok (.invokespecial 32, 3) := by decide +kernel
theorem dX4_init_37 : decode cX4_init 37 = .ok (.putfield 33, 3) := by decide +kernel
theorem dX4_init_40 : decode cX4_init 40 = .ok (.aload_n 0, 1) := by decide +kernel
theorem dX4_init_41 : decode cX4_init 41 = .ok (.new 37, 3) := by decide +kernel
theorem dX4_init_44 : decode cX4_init 44 = .ok (.dup, 1) := by decide +kernel
theorem dX4_init_45 : decode cX4_init 45 = .ok (.invokespecial 39, 3) := by decide +kernel
theorem dX4_init_48 : decode cX4_init 48 = .ok (.putfield 40, 3) := by decide +kernel
theorem dX4_init_51 : decode cX4_init 51 = .ok (.aload_n 0, 1) := by decide +kernel
theorem dX4_init_52 : decode cX4_init 52 = .ok (.new 44, 3) := by decide +kernel
theorem dX4_init_55 : decode cX4_init 55 = .ok (.dup, 1) := by decide +kernel
theorem dX4_init_56 : decode cX4_init 56 = .ok (.aload_n 0, 1) := by decide +kernel
theorem dX4_init_57 : decode cX4_init 57 = .ok (.getfield 33, 3) := by decide +kernel
theorem dX4_init_60 : decode cX4_init 60 = .ok (.aload_n 0, 1) := by decide +kernel
theorem dX4_init_61 : decode cX4_init 61 = .ok (.getfield 40, 3) := by decide +kernel
theorem dX4_init_64 : decode cX4_init 64 = .ok (.invokespecial 46, 3) := by decide +kernel
theorem dX4_init_67 : decode cX4_init 67 = .ok (.putfield 49, 3) := by decide +kernel
theorem dX4_init_70 : decode cX4_init 70 = .ok (.return_, 1) := by decide +kernel
theorem dX4_rate_0 : decode cX4_rate 0 = .ok (.iload 4, 2) := by decide +kernel
theorem dX4_rate_2 : decode cX4_rate 2 = .ok (.ifCond .lt 10, 3) := by decide +kernel
theorem dX4_rate_5 : decode cX4_rate 5 = .ok (.iload 4, 2) := by decide +kernel
theorem dX4_rate_7 : decode cX4_rate 7 = .ok (.ldc 53, 2) := by decide +kernel
theorem dX4_rate_9 : decode cX4_rate 9 = .ok (.if_icmp .le 5, 3) := by decide +kernel
theorem dX4_rate_12 : decode cX4_rate 12 = .ok (.iconst (-1), 1) := by decide +kernel
theorem dX4_rate_13 : decode cX4_rate 13 = .ok (.ireturn, 1) := by decide +kernel
theorem dX4_rate_14 : decode cX4_rate 14 = .ok (.aload_n 0, 1) := by decide +kernel
theorem dX4_rate_15 : decode cX4_rate 15 = .ok (.getfield 26, 3) := by decide +kernel
theorem dX4_rate_18 : decode cX4_rate 18 = .ok (.iload_n 1, 1) := by decide +kernel
theorem dX4_rate_19 : decode cX4_rate 19 = .ok (.iload_n 2, 1) := by decide +kernel
theorem dX4_rate_20 : decode cX4_rate 20 = .ok (.iload_n 3, 1) := by decide +kernel
theorem dX4_rate_21 : decode cX4_rate 21 = .ok (.iload 4, 2) := by decide +kernel
theorem dX4_rate_23 : decode cX4_rate 23 = .ok (.invokevirtual 54, 3) := by decide +kernel
theorem dX4_rate_26 : decode cX4_rate 26 = .ok (.ifCond .eq 7, 3) := by decide +kernel
theorem dX4_rate_29 : decode cX4_rate 29 = .ok (.iconst 1, 1) := by decide +kernel
theorem dX4_rate_30 : decode cX4_rate 30 = .ok (.goto 4, 3) := by decide +kernel
theorem dX4_rate_33 : decode cX4_rate 33 = .ok (.iconst (-1), 1) := by decide +kernel
theorem dX4_rate_34 : decode cX4_rate 34 = .ok (.ireturn, 1) := by decide +kernel
theorem dX4_loadTable_0 : decode cX4_loadTable 0 = .ok (.aload_n 0, 1) := by decide +kernel
theorem dX4_loadTable_1 : decode cX4_loadTable 1 = .ok (.getfield 33, 3) := by decide +kernel
theorem dX4_loadTable_4 : decode cX4_loadTable 4 = .ok (.invokevirtual 58, 3) := by decide +kernel
theorem dX4_loadTable_7 : decode cX4_loadTable 7 = .ok (.ifCond .ne 6, 3) := by decide +kernel
theorem dX4_loadTable_10 : decode cX4_loadTable 10 = .ok (.bipush (-7), 2) := by decide +kernel
theorem dX4_loadTable_12 : decode cX4_loadTable 12 = .ok (.ireturn, 1) := by decide +kernel
theorem dX4_loadTable_13 : decode cX4_loadTable 13 = .ok (.iload_n 1, 1) := by decide +kernel
theorem dX4_loadTable_14 : decode cX4_loadTable 14 = .ok (.ifCond .lt 16, 3) := by decide +kernel
theorem dX4_loadTable_17 : decode cX4_loadTable 17 = .ok (.iload_n 1, 1) := by decide +kernel
theorem dX4_loadTable_18 : decode cX4_loadTable 18 = .ok (.aload_n 0, 1) := by decide +kernel
theorem dX4_loadTable_19 : decode cX4_loadTable 19 = .ok (.getfield 40, 3) := by decide +kernel
theorem dX4_loadTable_22 : decode cX4_loadTable 22 = .ok (.bipush 13, 2) := by decide +kernel
theorem dX4_loadTable_24 : decode cX4_loadTable 24 = .ok (.invokevirtual 62, 3) := by decide +kernel
theorem dX4_loadTable_27 : decode cX4_loadTable 27 = .ok (.if_icmp .ge 5, 3) := by decide +kernel
theorem dX4_loadTable_30 : decode cX4_loadTable 30 = .ok (.iconst 0, 1) := by decide +kernel
theorem dX4_loadTable_31 : decode cX4_loadTable 31 = .ok (.ireturn, 1) := by decide +kernel
theorem dX4_loadTable_32 : decode cX4_loadTable 32 = .ok (.aload_n 0, 1) := by decide +kernel
theorem dX4_loadTable_33 : decode cX4_loadTable 33 = .ok (.getfield 49, 3) := by decide +kernel
theorem dX4_loadTable_36 : decode cX4_loadTable 36 = .ok (.bipush 9, 2) := by decide +kernel
theorem dX4_loadTable_38 : decode cX4_loadTable 38 = .ok (.iload_n 1, 1) := by decide +kernel
theorem dX4_loadTable_39 : decode cX4_loadTable 39 = .ok (.iconst 0, 1) := by decide +kernel
theorem dX4_loadTable_40 : decode cX4_loadTable 40 = .ok (.invokevirtual 66, 3) := by decide +kernel
theorem dX4_loadTable_43 : decode cX4_loadTable 43 = .ok (.istore_n 2, 1) := by decide +kernel
theorem dX4_loadTable_44 : decode cX4_loadTable 44 = .ok (.iload_n 2, 1) := by decide +kernel
theorem dX4_loadTable_45 : decode cX4_loadTable 45 = .ok (.iconst 1, 1) := by decide +kernel
theorem dX4_loadTable_46 : decode cX4_loadTable 46 = .ok (.if_icmp .ne 10, 3) := by decide +kernel
theorem dX4_loadTable_49 : decode cX4_loadTable 49 = .ok (.aload_n 0, 1) := by decide +kernel
theorem dX4_loadTable_50 : decode cX4_loadTable 50 = .ok (.getfield 26, 3) := by decide +kernel
theorem dX4_loadTable_53 : decode cX4_loadTable 53 = .ok (.invokevirtual 70, 3) := by decide +kernel
theorem dX4_loadTable_56 : decode cX4_loadTable 56 = .ok (.iload_n 2, 1) := by decide +kernel
theorem dX4_loadTable_57 : decode cX4_loadTable 57 = .ok (.ireturn, 1) := by decide +kernel
theorem dX4_weigh_0 : decode cX4_weigh 0 = .ok (.aload_n 0, 1) := by decide +kernel
theorem dX4_weigh_1 : decode cX4_weigh 1 = .ok (.getfield 26, 3) := by decide +kernel
theorem dX4_weigh_4 : decode cX4_weigh 4 = .ok (.iload_n 1, 1) := by decide +kernel
theorem dX4_weigh_5 : decode cX4_weigh 5 = .ok (.iload_n 2, 1) := by decide +kernel
theorem dX4_weigh_6 : decode cX4_weigh 6 = .ok (.iload_n 3, 1) := by decide +kernel
theorem dX4_weigh_7 : decode cX4_weigh 7 = .ok (.invokevirtual 73, 3) := by decide +kernel
theorem dX4_weigh_10 : decode cX4_weigh 10 = .ok (.istore 4, 2) := by decide +kernel
theorem dX4_weigh_12 : decode cX4_weigh 12 = .ok (.iload 4, 2) := by decide +kernel
theorem dX4_weigh_14 : decode cX4_weigh 14 = .ok (.ifCond .ne 7, 3) := by decide +kernel
theorem dX4_weigh_17 : decode cX4_weigh 17 = .ok (.iconst (-1), 1) := by decide +kernel
theorem dX4_weigh_18 : decode cX4_weigh 18 = .ok (.goto 5, 3) := by decide +kernel
theorem dX4_weigh_21 : decode cX4_weigh 21 = .ok (.iload 4, 2) := by decide +kernel
theorem dX4_weigh_23 : decode cX4_weigh 23 = .ok (.ireturn, 1) := by decide +kernel
theorem dX4_frank_0 : decode cX4_frank 0 = .ok (.aload_n 0, 1) := by decide +kernel
theorem dX4_frank_1 : decode cX4_frank 1 = .ok (.getfield 33, 3) := by decide +kernel
theorem dX4_frank_4 : decode cX4_frank 4 = .ok (.invokevirtual 58, 3) := by decide +kernel
theorem dX4_frank_7 : decode cX4_frank 7 = .ok (.ifCond .ne 6, 3) := by decide +kernel
theorem dX4_frank_10 : decode cX4_frank 10 = .ok (.bipush (-7), 2) := by decide +kernel
theorem dX4_frank_12 : decode cX4_frank 12 = .ok (.ireturn, 1) := by decide +kernel
theorem dX4_frank_13 : decode cX4_frank 13 = .ok (.aload_n 0, 1) := by decide +kernel
theorem dX4_frank_14 : decode cX4_frank 14 = .ok (.iload_n 1, 1) := by decide +kernel
theorem dX4_frank_15 : decode cX4_frank 15 = .ok (.iload_n 2, 1) := by decide +kernel
theorem dX4_frank_16 : decode cX4_frank 16 = .ok (.iload_n 3, 1) := by decide +kernel
theorem dX4_frank_17 : decode cX4_frank 17 = .ok (.invokevirtual 76, 3) := by decide +kernel
theorem dX4_frank_20 : decode cX4_frank 20 = .ok (.ifCond .ne 5, 3) := by decide +kernel
theorem dX4_frank_23 : decode cX4_frank 23 = .ok (.iconst 0, 1) := by decide +kernel
theorem dX4_frank_24 : decode cX4_frank 24 = .ok (.ireturn, 1) := by decide +kernel
theorem dX4_frank_25 : decode cX4_frank 25 = .ok (.aload_n 0, 1) := by decide +kernel
theorem dX4_frank_26 : decode cX4_frank 26 = .ok (.getfield 49, 3) := by decide +kernel
theorem dX4_frank_29 : decode cX4_frank 29 = .ok (.iconst 1, 1) := by decide +kernel
theorem dX4_frank_30 : decode cX4_frank 30 = .ok (.iload_n 2, 1) := by decide +kernel
theorem dX4_frank_31 : decode cX4_frank 31 = .ok (.iload_n 1, 1) := by decide +kernel
theorem dX4_frank_32 : decode cX4_frank 32 = .ok (.bipush 16, 2) := by decide +kernel
theorem dX4_frank_34 : decode cX4_frank 34 = .ok (.iload_n 3, 1) := by decide +kernel
theorem dX4_frank_35 : decode cX4_frank 35 = .ok (.imul, 1) := by decide +kernel
theorem dX4_frank_36 : decode cX4_frank 36 = .ok (.iadd, 1) := by decide +kernel
theorem dX4_frank_37 : decode cX4_frank 37 = .ok (.invokevirtual 66, 3) := by decide +kernel
theorem dX4_frank_40 : decode cX4_frank 40 = .ok (.iconst 1, 1) := by decide +kernel
theorem dX4_frank_41 : decode cX4_frank 41 = .ok (.if_icmp .eq 6, 3) := by decide +kernel
theorem dX4_frank_44 : decode cX4_frank 44 = .ok (.bipush (-7), 2) := by decide +kernel
theorem dX4_frank_46 : decode cX4_frank 46 = .ok (.ireturn, 1) := by decide +kernel
theorem dX4_frank_47 : decode cX4_frank 47 = .ok (.aload_n 0, 1) := by decide +kernel
theorem dX4_frank_48 : decode cX4_frank 48 = .ok (.dup, 1) := by decide +kernel
theorem dX4_frank_49 : decode cX4_frank 49 = .ok (.getfield 80, 3) := by decide +kernel
theorem dX4_frank_52 : decode cX4_frank 52 = .ok (.lconst 1, 1) := by decide +kernel
theorem dX4_frank_53 : decode cX4_frank 53 = .ok (.ladd, 1) := by decide +kernel
theorem dX4_frank_54 : decode cX4_frank 54 = .ok (.putfield 80, 3) := by decide +kernel
theorem dX4_frank_57 : decode cX4_frank 57 = .ok (.aload_n 0, 1) := by decide +kernel
theorem dX4_frank_58 : decode cX4_frank 58 = .ok (.dup, 1) := by decide +kernel
theorem dX4_frank_59 : decode cX4_frank 59 = .ok (.getfield 84, 3) := by decide +kernel
theorem dX4_frank_62 : decode cX4_frank 62 = .ok (.iload_n 2, 1) := by decide +kernel
theorem dX4_frank_63 : decode cX4_frank 63 = .ok (.i2l, 1) := by decide +kernel
theorem dX4_frank_64 : decode cX4_frank 64 = .ok (.ladd, 1) := by decide +kernel
theorem dX4_frank_65 : decode cX4_frank 65 = .ok (.putfield 84, 3) := by decide +kernel
theorem dX4_frank_68 : decode cX4_frank 68 = .ok (.aload_n 0, 1) := by decide +kernel
theorem dX4_frank_69 : decode cX4_frank 69 = .ok (.getfield 49, 3) := by decide +kernel
theorem dX4_frank_72 : decode cX4_frank 72 = .ok (.iconst 2, 1) := by decide +kernel
theorem dX4_frank_73 : decode cX4_frank 73 = .ok (.iconst 0, 1) := by decide +kernel
theorem dX4_frank_74 : decode cX4_frank 74 = .ok (.iconst 0, 1) := by decide +kernel
theorem dX4_frank_75 : decode cX4_frank 75 = .ok (.invokevirtual 66, 3) := by decide +kernel
theorem dX4_frank_78 : decode cX4_frank 78 = .ok (.ireturn, 1) := by decide +kernel
theorem dX4_printed_0 : decode cX4_printed 0 = .ok (.iload_n 1, 1) := by decide +kernel
theorem dX4_printed_1 : decode cX4_printed 1 = .ok (.lookupswitch 37 #[(0, 27), (1, 32)], 27) := by decide +kernel
theorem dX4_printed_28 : decode cX4_printed 28 = .ok (.aload_n 0, 1) := by decide +kernel
theorem dX4_printed_29 : decode cX4_printed 29 = .ok (.getfield 80, 3) := by decide +kernel
theorem dX4_printed_32 : decode cX4_printed 32 = .ok (.lreturn, 1) := by decide +kernel
theorem dX4_printed_33 : decode cX4_printed 33 = .ok (.aload_n 0, 1) := by decide +kernel
theorem dX4_printed_34 : decode cX4_printed 34 = .ok (.getfield 84, 3) := by decide +kernel
theorem dX4_printed_37 : decode cX4_printed 37 = .ok (.lreturn, 1) := by decide +kernel
theorem dX4_printed_38 : decode cX4_printed 38 = .ok (.ldc2_w 87, 3) := by decide +kernel
theorem dX4_printed_41 : decode cX4_printed 41 = .ok (.lreturn, 1) := by decide +kernel
theorem dX4_refill_0 : decode cX4_refill 0 = .ok (.aload_n 0, 1) := by decide +kernel
theorem dX4_refill_1 : decode cX4_refill 1 = .ok (.getfield 33, 3) := by decide +kernel
theorem dX4_refill_4 : decode cX4_refill 4 = .ok (.invokevirtual 58, 3) := by decide +kernel
theorem dX4_refill_7 : decode cX4_refill 7 = .ok (.ifCond .ne 6, 3) := by decide +kernel
theorem dX4_refill_10 : decode cX4_refill 10 = .ok (.bipush (-7), 2) := by decide +kernel
theorem dX4_refill_12 : decode cX4_refill 12 = .ok (.ireturn, 1) := by decide +kernel
theorem dX4_refill_13 : decode cX4_refill 13 = .ok (.iload_n 1, 1) := by decide +kernel
theorem dX4_refill_14 : decode cX4_refill 14 = .ok (.invokestatic 89, 3) := by decide +kernel
theorem dX4_refill_17 : decode cX4_refill 17 = .ok (.ifCond .eq 21, 3) := by decide +kernel
theorem dX4_refill_20 : decode cX4_refill 20 = .ok (.iload_n 2, 1) := by decide +kernel
theorem dX4_refill_21 : decode cX4_refill 21 = .ok (.aload_n 0, 1) := by decide +kernel
theorem dX4_refill_22 : decode cX4_refill 22 = .ok (.aload_n 0, 1) := by decide +kernel
theorem dX4_refill_23 : decode cX4_refill 23 = .ok (.getfield 40, 3) := by decide +kernel
theorem dX4_refill_26 : decode cX4_refill 26 = .ok (.bipush 10, 2) := by decide +kernel
theorem dX4_refill_28 : decode cX4_refill 28 = .ok (.invokevirtual 62, 3) := by decide +kernel
theorem dX4_refill_31 : decode cX4_refill 31 = .ok (.iload_n 1, 1) := by decide +kernel
theorem dX4_refill_32 : decode cX4_refill 32 = .ok (.invokevirtual 93, 3) := by decide +kernel
theorem dX4_refill_35 : decode cX4_refill 35 = .ok (.if_icmp .eq 5, 3) := by decide +kernel
theorem dX4_refill_38 : decode cX4_refill 38 = .ok (.iconst 0, 1) := by decide +kernel
theorem dX4_refill_39 : decode cX4_refill 39 = .ok (.ireturn, 1) := by decide +kernel
theorem dX4_refill_40 : decode cX4_refill 40 = .ok (.aload_n 0, 1) := by decide +kernel
theorem dX4_refill_41 : decode cX4_refill 41 = .ok (.getfield 40, 3) := by decide +kernel
theorem dX4_refill_44 : decode cX4_refill 44 = .ok (.iconst 4, 1) := by decide +kernel
theorem dX4_refill_45 : decode cX4_refill 45 = .ok (.invokevirtual 96, 3) := by decide +kernel
theorem dX4_refill_48 : decode cX4_refill 48 = .ok (.iload_n 1, 1) := by decide +kernel
theorem dX4_refill_49 : decode cX4_refill 49 = .ok (.i2l, 1) := by decide +kernel
theorem dX4_refill_50 : decode cX4_refill 50 = .ok (.ladd, 1) := by decide +kernel
theorem dX4_refill_51 : decode cX4_refill 51 = .ok (.ldc2_w 100, 3) := by decide +kernel
theorem dX4_refill_54 : decode cX4_refill 54 = .ok (.lcmp, 1) := by decide +kernel
theorem dX4_refill_55 : decode cX4_refill 55 = .ok (.ifCond .lt 5, 3) := by decide +kernel
theorem dX4_refill_58 : decode cX4_refill 58 = .ok (.iconst 0, 1) := by decide +kernel
theorem dX4_refill_59 : decode cX4_refill 59 = .ok (.ireturn, 1) := by decide +kernel
theorem dX4_refill_60 : decode cX4_refill 60 = .ok (.aload_n 0, 1) := by decide +kernel
theorem dX4_refill_61 : decode cX4_refill 61 = .ok (.getfield 49, 3) := by decide +kernel
theorem dX4_refill_64 : decode cX4_refill 64 = .ok (.iconst 4, 1) := by decide +kernel
theorem dX4_refill_65 : decode cX4_refill 65 = .ok (.iload_n 1, 1) := by decide +kernel
theorem dX4_refill_66 : decode cX4_refill 66 = .ok (.iconst 0, 1) := by decide +kernel
theorem dX4_refill_67 : decode cX4_refill 67 = .ok (.invokevirtual 66, 3) := by decide +kernel
theorem dX4_refill_70 : decode cX4_refill 70 = .ok (.ireturn, 1) := by decide +kernel
theorem dX4_codeFor_0 : decode cX4_codeFor 0 = .ok (.iload_n 1, 1) := by decide +kernel
theorem dX4_codeFor_1 : decode cX4_codeFor 1 = .ok (.ifCond .lt 7, 3) := by decide +kernel
theorem dX4_codeFor_4 : decode cX4_codeFor 4 = .ok (.iload_n 2, 1) := by decide +kernel
theorem dX4_codeFor_5 : decode cX4_codeFor 5 = .ok (.ifCond .ge 5, 3) := by decide +kernel
theorem dX4_codeFor_8 : decode cX4_codeFor 8 = .ok (.iconst (-1), 1) := by decide +kernel
theorem dX4_codeFor_9 : decode cX4_codeFor 9 = .ok (.ireturn, 1) := by decide +kernel
theorem dX4_codeFor_10 : decode cX4_codeFor 10 = .ok (.aload_n 0, 1) := by decide +kernel
theorem dX4_codeFor_11 : decode cX4_codeFor 11 = .ok (.getfield 19, 3) := by decide +kernel
theorem dX4_codeFor_14 : decode cX4_codeFor 14 = .ok (.i2l, 1) := by decide +kernel
theorem dX4_codeFor_15 : decode cX4_codeFor 15 = .ok (.ldc2_w 102, 3) := by decide +kernel
theorem dX4_codeFor_18 : decode cX4_codeFor 18 = .ok (.lmul, 1) := by decide +kernel
theorem dX4_codeFor_19 : decode cX4_codeFor 19 = .ok (.iload_n 1, 1) := by decide +kernel
theorem dX4_codeFor_20 : decode cX4_codeFor 20 = .ok (.i2l, 1) := by decide +kernel
theorem dX4_codeFor_21 : decode cX4_codeFor 21 = .ok (.ladd, 1) := by decide +kernel
theorem dX4_codeFor_22 : decode cX4_codeFor 22 = .ok (.ldc2_w 104, 3) := by decide +kernel
theorem dX4_codeFor_25 : decode cX4_codeFor 25 = .ok (.lmul, 1) := by decide +kernel
theorem dX4_codeFor_26 : decode cX4_codeFor 26 = .ok (.iload_n 2, 1) := by decide +kernel
theorem dX4_codeFor_27 : decode cX4_codeFor 27 = .ok (.i2l, 1) := by decide +kernel
theorem dX4_codeFor_28 : decode cX4_codeFor 28 = .ok (.ldc2_w 106, 3) := by decide +kernel
theorem dX4_codeFor_31 : decode cX4_codeFor 31 = .ok (.lmul, 1) := by decide +kernel
theorem dX4_codeFor_32 : decode cX4_codeFor 32 = .ok (.ladd, 1) := by decide +kernel
theorem dX4_codeFor_33 : decode cX4_codeFor 33 = .ok (.lstore_n 3, 1) := by decide +kernel
theorem dX4_codeFor_34 : decode cX4_codeFor 34 = .ok (.lload_n 3, 1) := by decide +kernel
theorem dX4_codeFor_35 : decode cX4_codeFor 35 = .ok (.ldc2_w 108, 3) := by decide +kernel
theorem dX4_codeFor_38 : decode cX4_codeFor 38 = .ok (.lrem, 1) := by decide +kernel
theorem dX4_codeFor_39 : decode cX4_codeFor 39 = .ok (.l2i, 1) := by decide +kernel
theorem dX4_codeFor_40 : decode cX4_codeFor 40 = .ok (.ireturn, 1) := by decide +kernel
theorem dX4_claimBack_0 : decode cX4_claimBack 0 = .ok (.aload_n 0, 1) := by decide +kernel
theorem dX4_claimBack_1 : decode cX4_claimBack 1 = .ok (.getfield 33, 3) := by decide +kernel
theorem dX4_claimBack_4 : decode cX4_claimBack 4 = .ok (.invokevirtual 58, 3) := by decide +kernel
theorem dX4_claimBack_7 : decode cX4_claimBack 7 = .ok (.ifCond .ne 6, 3) := by decide +kernel
theorem dX4_claimBack_10 : decode cX4_claimBack 10 = .ok (.bipush (-7), 2) := by decide +kernel
theorem dX4_claimBack_12 : decode cX4_claimBack 12 = .ok (.ireturn, 1) := by decide +kernel
theorem dX4_claimBack_13 : decode cX4_claimBack 13 = .ok (.aload_n 0, 1) := by decide +kernel
theorem dX4_claimBack_14 : decode cX4_claimBack 14 = .ok (.getfield 40, 3) := by decide +kernel
theorem dX4_claimBack_17 : decode cX4_claimBack 17 = .ok (.bipush 9, 2) := by decide +kernel
theorem dX4_claimBack_19 : decode cX4_claimBack 19 = .ok (.invokevirtual 62, 3) := by decide +kernel
theorem dX4_claimBack_22 : decode cX4_claimBack 22 = .ok (.iconst 1, 1) := by decide +kernel
theorem dX4_claimBack_23 : decode cX4_claimBack 23 = .ok (.iadd, 1) := by decide +kernel
theorem dX4_claimBack_24 : decode cX4_claimBack 24 = .ok (.aload_n 0, 1) := by decide +kernel
theorem dX4_claimBack_25 : decode cX4_claimBack 25 = .ok (.getfield 40, 3) := by decide +kernel
theorem dX4_claimBack_28 : decode cX4_claimBack 28 = .ok (.bipush 8, 2) := by decide +kernel
theorem dX4_claimBack_30 : decode cX4_claimBack 30 = .ok (.invokevirtual 62, 3) := by decide +kernel
theorem dX4_claimBack_33 : decode cX4_claimBack 33 = .ok (.bipush 100, 2) := by decide +kernel
theorem dX4_claimBack_35 : decode cX4_claimBack 35 = .ok (.idiv, 1) := by decide +kernel
theorem dX4_claimBack_36 : decode cX4_claimBack 36 = .ok (.if_icmp .le 5, 3) := by decide +kernel
theorem dX4_claimBack_39 : decode cX4_claimBack 39 = .ok (.iconst 0, 1) := by decide +kernel
theorem dX4_claimBack_40 : decode cX4_claimBack 40 = .ok (.ireturn, 1) := by decide +kernel
theorem dX4_claimBack_41 : decode cX4_claimBack 41 = .ok (.iload_n 2, 1) := by decide +kernel
theorem dX4_claimBack_42 : decode cX4_claimBack 42 = .ok (.invokestatic 89, 3) := by decide +kernel
theorem dX4_claimBack_45 : decode cX4_claimBack 45 = .ok (.ifCond .eq 24, 3) := by decide +kernel
theorem dX4_claimBack_48 : decode cX4_claimBack 48 = .ok (.iload_n 2, 1) := by decide +kernel
theorem dX4_claimBack_49 : decode cX4_claimBack 49 = .ok (.i2l, 1) := by decide +kernel
theorem dX4_claimBack_50 : decode cX4_claimBack 50 = .ok (.aload_n 0, 1) := by decide +kernel
theorem dX4_claimBack_51 : decode cX4_claimBack 51 = .ok (.getfield 40, 3) := by decide +kernel
theorem dX4_claimBack_54 : decode cX4_claimBack 54 = .ok (.iconst 0, 1) := by decide +kernel
theorem dX4_claimBack_55 : decode cX4_claimBack 55 = .ok (.invokevirtual 96, 3) := by decide +kernel
theorem dX4_claimBack_58 : decode cX4_claimBack 58 = .ok (.lcmp, 1) := by decide +kernel
theorem dX4_claimBack_59 : decode cX4_claimBack 59 = .ok (.ifCond .gt 10, 3) := by decide +kernel
theorem dX4_claimBack_62 : decode cX4_claimBack 62 = .ok (.iload_n 1, 1) := by decide +kernel
theorem dX4_claimBack_63 : decode cX4_claimBack 63 = .ok (.invokestatic 110, 3) := by decide +kernel
theorem dX4_claimBack_66 : decode cX4_claimBack 66 = .ok (.ifCond .ne 5, 3) := by decide +kernel
theorem dX4_claimBack_69 : decode cX4_claimBack 69 = .ok (.iconst 0, 1) := by decide +kernel
theorem dX4_claimBack_70 : decode cX4_claimBack 70 = .ok (.ireturn, 1) := by decide +kernel
theorem dX4_claimBack_71 : decode cX4_claimBack 71 = .ok (.aload_n 0, 1) := by decide +kernel
theorem dX4_claimBack_72 : decode cX4_claimBack 72 = .ok (.getfield 49, 3) := by decide +kernel
theorem dX4_claimBack_75 : decode cX4_claimBack 75 = .ok (.iconst 5, 1) := by decide +kernel
theorem dX4_claimBack_76 : decode cX4_claimBack 76 = .ok (.iload_n 2, 1) := by decide +kernel
theorem dX4_claimBack_77 : decode cX4_claimBack 77 = .ok (.iload_n 1, 1) := by decide +kernel
theorem dX4_claimBack_78 : decode cX4_claimBack 78 = .ok (.invokevirtual 66, 3) := by decide +kernel
theorem dX4_claimBack_81 : decode cX4_claimBack 81 = .ok (.ireturn, 1) := by decide +kernel
theorem dX4_book_0 : decode cX4_book 0 = .ok (.aload_n 0, 1) := by decide +kernel
theorem dX4_book_1 : decode cX4_book 1 = .ok (.getfield 33, 3) := by decide +kernel
theorem dX4_book_4 : decode cX4_book 4 = .ok (.invokevirtual 58, 3) := by decide +kernel
theorem dX4_book_7 : decode cX4_book 7 = .ok (.ifCond .ne 7, 3) := by decide +kernel
theorem dX4_book_10 : decode cX4_book 10 = .ok (.ldc2_w 113, 3) := by decide +kernel
theorem dX4_book_13 : decode cX4_book 13 = .ok (.lreturn, 1) := by decide +kernel
theorem dX4_book_14 : decode cX4_book 14 = .ok (.iload_n 1, 1) := by decide +kernel
theorem dX4_book_15 : decode cX4_book 15 = .ok (.tableswitch 156 0 9 #[53, 62, 71, 80, 90, 101, 112, 123, 134, 145], 53) := by decide +kernel
theorem dX4_book_68 : decode cX4_book 68 = .ok (.aload_n 0, 1) := by decide +kernel
theorem dX4_book_69 : decode cX4_book 69 = .ok (.getfield 40, 3) := by decide +kernel
theorem dX4_book_72 : decode cX4_book 72 = .ok (.iconst 0, 1) := by decide +kernel
theorem dX4_book_73 : decode cX4_book 73 = .ok (.invokevirtual 96, 3) := by decide +kernel
theorem dX4_book_76 : decode cX4_book 76 = .ok (.lreturn, 1) := by decide +kernel
theorem dX4_book_77 : decode cX4_book 77 = .ok (.aload_n 0, 1) := by decide +kernel
theorem dX4_book_78 : decode cX4_book 78 = .ok (.getfield 40, 3) := by decide +kernel
theorem dX4_book_81 : decode cX4_book 81 = .ok (.iconst 2, 1) := by decide +kernel
theorem dX4_book_82 : decode cX4_book 82 = .ok (.invokevirtual 96, 3) := by decide +kernel
theorem dX4_book_85 : decode cX4_book 85 = .ok (.lreturn, 1) := by decide +kernel
theorem dX4_book_86 : decode cX4_book 86 = .ok (.aload_n 0, 1) := by decide +kernel
theorem dX4_book_87 : decode cX4_book 87 = .ok (.getfield 40, 3) := by decide +kernel
theorem dX4_book_90 : decode cX4_book 90 = .ok (.iconst 4, 1) := by decide +kernel
theorem dX4_book_91 : decode cX4_book 91 = .ok (.invokevirtual 96, 3) := by decide +kernel
theorem dX4_book_94 : decode cX4_book 94 = .ok (.lreturn, 1) := by decide +kernel
theorem dX4_book_95 : decode cX4_book 95 = .ok (.aload_n 0, 1) := by decide +kernel
theorem dX4_book_96 : decode cX4_book 96 = .ok (.getfield 40, 3) := by decide +kernel
theorem dX4_book_99 : decode cX4_book 99 = .ok (.bipush 6, 2) := by decide +kernel
theorem dX4_book_101 : decode cX4_book 101 = .ok (.invokevirtual 96, 3) := by decide +kernel
theorem dX4_book_104 : decode cX4_book 104 = .ok (.lreturn, 1) := by decide +kernel
theorem dX4_book_105 : decode cX4_book 105 = .ok (.aload_n 0, 1) := by decide +kernel
theorem dX4_book_106 : decode cX4_book 106 = .ok (.getfield 40, 3) := by decide +kernel
theorem dX4_book_109 : decode cX4_book 109 = .ok (.bipush 8, 2) := by decide +kernel
theorem dX4_book_111 : decode cX4_book 111 = .ok (.invokevirtual 62, 3) := by decide +kernel
theorem dX4_book_114 : decode cX4_book 114 = .ok (.i2l, 1) := by decide +kernel
theorem dX4_book_115 : decode cX4_book 115 = .ok (.lreturn, 1) := by decide +kernel
theorem dX4_book_116 : decode cX4_book 116 = .ok (.aload_n 0, 1) := by decide +kernel
theorem dX4_book_117 : decode cX4_book 117 = .ok (.getfield 40, 3) := by decide +kernel
theorem dX4_book_120 : decode cX4_book 120 = .ok (.bipush 9, 2) := by decide +kernel
theorem dX4_book_122 : decode cX4_book 122 = .ok (.invokevirtual 62, 3) := by decide +kernel
theorem dX4_book_125 : decode cX4_book 125 = .ok (.i2l, 1) := by decide +kernel
theorem dX4_book_126 : decode cX4_book 126 = .ok (.lreturn, 1) := by decide +kernel
theorem dX4_book_127 : decode cX4_book 127 = .ok (.aload_n 0, 1) := by decide +kernel
theorem dX4_book_128 : decode cX4_book 128 = .ok (.getfield 40, 3) := by decide +kernel
theorem dX4_book_131 : decode cX4_book 131 = .ok (.bipush 10, 2) := by decide +kernel
theorem dX4_book_133 : decode cX4_book 133 = .ok (.invokevirtual 62, 3) := by decide +kernel
theorem dX4_book_136 : decode cX4_book 136 = .ok (.i2l, 1) := by decide +kernel
theorem dX4_book_137 : decode cX4_book 137 = .ok (.lreturn, 1) := by decide +kernel
theorem dX4_book_138 : decode cX4_book 138 = .ok (.aload_n 0, 1) := by decide +kernel
theorem dX4_book_139 : decode cX4_book 139 = .ok (.getfield 40, 3) := by decide +kernel
theorem dX4_book_142 : decode cX4_book 142 = .ok (.bipush 11, 2) := by decide +kernel
theorem dX4_book_144 : decode cX4_book 144 = .ok (.invokevirtual 62, 3) := by decide +kernel
theorem dX4_book_147 : decode cX4_book 147 = .ok (.i2l, 1) := by decide +kernel
theorem dX4_book_148 : decode cX4_book 148 = .ok (.lreturn, 1) := by decide +kernel
theorem dX4_book_149 : decode cX4_book 149 = .ok (.aload_n 0, 1) := by decide +kernel
theorem dX4_book_150 : decode cX4_book 150 = .ok (.getfield 40, 3) := by decide +kernel
theorem dX4_book_153 : decode cX4_book 153 = .ok (.bipush 12, 2) := by decide +kernel
theorem dX4_book_155 : decode cX4_book 155 = .ok (.invokevirtual 62, 3) := by decide +kernel
theorem dX4_book_158 : decode cX4_book 158 = .ok (.i2l, 1) := by decide +kernel
theorem dX4_book_159 : decode cX4_book 159 = .ok (.lreturn, 1) := by decide +kernel
theorem dX4_book_160 : decode cX4_book 160 = .ok (.aload_n 0, 1) := by decide +kernel
theorem dX4_book_161 : decode cX4_book 161 = .ok (.getfield 40, 3) := by decide +kernel
theorem dX4_book_164 : decode cX4_book 164 = .ok (.bipush 13, 2) := by decide +kernel
theorem dX4_book_166 : decode cX4_book 166 = .ok (.invokevirtual 62, 3) := by decide +kernel
theorem dX4_book_169 : decode cX4_book 169 = .ok (.i2l, 1) := by decide +kernel
theorem dX4_book_170 : decode cX4_book 170 = .ok (.lreturn, 1) := by decide +kernel
theorem dX4_book_171 : decode cX4_book 171 = .ok (.ldc2_w 87, 3) := by decide +kernel
theorem dX4_book_174 : decode cX4_book 174 = .ok (.lreturn, 1) := by decide +kernel
theorem dX4_counter_0 : decode cX4_counter 0 = .ok (.aload_n 0, 1) := by decide +kernel
theorem dX4_counter_1 : decode cX4_counter 1 = .ok (.getfield 33, 3) := by decide +kernel
theorem dX4_counter_4 : decode cX4_counter 4 = .ok (.invokevirtual 58, 3) := by decide +kernel
theorem dX4_counter_7 : decode cX4_counter 7 = .ok (.ifCond .ne 7, 3) := by decide +kernel
theorem dX4_counter_10 : decode cX4_counter 10 = .ok (.ldc2_w 113, 3) := by decide +kernel
theorem dX4_counter_13 : decode cX4_counter 13 = .ok (.lreturn, 1) := by decide +kernel
theorem dX4_counter_14 : decode cX4_counter 14 = .ok (.iload_n 1, 1) := by decide +kernel
theorem dX4_counter_15 : decode cX4_counter 15 = .ok (.invokestatic 115, 3) := by decide +kernel
theorem dX4_counter_18 : decode cX4_counter 18 = .ok (.ifCond .eq 10, 3) := by decide +kernel
theorem dX4_counter_21 : decode cX4_counter 21 = .ok (.iload_n 2, 1) := by decide +kernel
theorem dX4_counter_22 : decode cX4_counter 22 = .ok (.invokestatic 118, 3) := by decide +kernel
theorem dX4_counter_25 : decode cX4_counter 25 = .ok (.ifCond .ne 7, 3) := by decide +kernel
theorem dX4_counter_28 : decode cX4_counter 28 = .ok (.ldc2_w 87, 3) := by decide +kernel
theorem dX4_counter_31 : decode cX4_counter 31 = .ok (.lreturn, 1) := by decide +kernel
theorem dX4_counter_32 : decode cX4_counter 32 = .ok (.iload_n 2, 1) := by decide +kernel
theorem dX4_counter_33 : decode cX4_counter 33 = .ok (.ifCond .ne 15, 3) := by decide +kernel
theorem dX4_counter_36 : decode cX4_counter 36 = .ok (.aload_n 0, 1) := by decide +kernel
theorem dX4_counter_37 : decode cX4_counter 37 = .ok (.getfield 40, 3) := by decide +kernel
theorem dX4_counter_40 : decode cX4_counter 40 = .ok (.iload_n 1, 1) := by decide +kernel
theorem dX4_counter_41 : decode cX4_counter 41 = .ok (.invokevirtual 121, 3) := by decide +kernel
theorem dX4_counter_44 : decode cX4_counter 44 = .ok (.i2l, 1) := by decide +kernel
theorem dX4_counter_45 : decode cX4_counter 45 = .ok (.goto 11, 3) := by decide +kernel
theorem dX4_counter_48 : decode cX4_counter 48 = .ok (.aload_n 0, 1) := by decide +kernel
theorem dX4_counter_49 : decode cX4_counter 49 = .ok (.getfield 40, 3) := by decide +kernel
theorem dX4_counter_52 : decode cX4_counter 52 = .ok (.iload_n 1, 1) := by decide +kernel
theorem dX4_counter_53 : decode cX4_counter 53 = .ok (.invokevirtual 124, 3) := by decide +kernel
theorem dX4_counter_56 : decode cX4_counter 56 = .ok (.lreturn, 1) := by decide +kernel
theorem dX4_dayTotal_0 : decode cX4_dayTotal 0 = .ok (.aload_n 0, 1) := by decide +kernel
theorem dX4_dayTotal_1 : decode cX4_dayTotal 1 = .ok (.getfield 33, 3) := by decide +kernel
theorem dX4_dayTotal_4 : decode cX4_dayTotal 4 = .ok (.invokevirtual 58, 3) := by decide +kernel
theorem dX4_dayTotal_7 : decode cX4_dayTotal 7 = .ok (.ifCond .ne 7, 3) := by decide +kernel
theorem dX4_dayTotal_10 : decode cX4_dayTotal 10 = .ok (.ldc2_w 113, 3) := by decide +kernel
theorem dX4_dayTotal_13 : decode cX4_dayTotal 13 = .ok (.lreturn, 1) := by decide +kernel
theorem dX4_dayTotal_14 : decode cX4_dayTotal 14 = .ok (.iload_n 1, 1) := by decide +kernel
theorem dX4_dayTotal_15 : decode cX4_dayTotal 15 = .ok (.invokestatic 110, 3) := by decide +kernel
theorem dX4_dayTotal_18 : decode cX4_dayTotal 18 = .ok (.ifCond .eq 10, 3) := by decide +kernel
theorem dX4_dayTotal_21 : decode cX4_dayTotal 21 = .ok (.iload_n 2, 1) := by decide +kernel
theorem dX4_dayTotal_22 : decode cX4_dayTotal 22 = .ok (.invokestatic 118, 3) := by decide +kernel
theorem dX4_dayTotal_25 : decode cX4_dayTotal 25 = .ok (.ifCond .ne 7, 3) := by decide +kernel
theorem dX4_dayTotal_28 : decode cX4_dayTotal 28 = .ok (.ldc2_w 87, 3) := by decide +kernel
theorem dX4_dayTotal_31 : decode cX4_dayTotal 31 = .ok (.lreturn, 1) := by decide +kernel
theorem dX4_dayTotal_32 : decode cX4_dayTotal 32 = .ok (.iload_n 2, 1) := by decide +kernel
theorem dX4_dayTotal_33 : decode cX4_dayTotal 33 = .ok (.ifCond .ne 15, 3) := by decide +kernel
theorem dX4_dayTotal_36 : decode cX4_dayTotal 36 = .ok (.aload_n 0, 1) := by decide +kernel
theorem dX4_dayTotal_37 : decode cX4_dayTotal 37 = .ok (.getfield 40, 3) := by decide +kernel
theorem dX4_dayTotal_40 : decode cX4_dayTotal 40 = .ok (.iload_n 1, 1) := by decide +kernel
theorem dX4_dayTotal_41 : decode cX4_dayTotal 41 = .ok (.invokevirtual 127, 3) := by decide +kernel
theorem dX4_dayTotal_44 : decode cX4_dayTotal 44 = .ok (.i2l, 1) := by decide +kernel
theorem dX4_dayTotal_45 : decode cX4_dayTotal 45 = .ok (.goto 11, 3) := by decide +kernel
theorem dX4_dayTotal_48 : decode cX4_dayTotal 48 = .ok (.aload_n 0, 1) := by decide +kernel
theorem dX4_dayTotal_49 : decode cX4_dayTotal 49 = .ok (.getfield 40, 3) := by decide +kernel
theorem dX4_dayTotal_52 : decode cX4_dayTotal 52 = .ok (.iload_n 1, 1) := by decide +kernel
theorem dX4_dayTotal_53 : decode cX4_dayTotal 53 = .ok (.invokevirtual 130, 3) := by decide +kernel
theorem dX4_dayTotal_56 : decode cX4_dayTotal 56 = .ok (.lreturn, 1) := by decide +kernel
theorem dX4_inspect_0 : decode cX4_inspect 0 = .ok (.aload_n 0, 1) := by decide +kernel
theorem dX4_inspect_1 : decode cX4_inspect 1 = .ok (.getfield 33, 3) := by decide +kernel
theorem dX4_inspect_4 : decode cX4_inspect 4 = .ok (.invokevirtual 58, 3) := by decide +kernel
theorem dX4_inspect_7 : decode cX4_inspect 7 = .ok (.ifCond .ne 6, 3) := by decide +kernel
theorem dX4_inspect_10 : decode cX4_inspect 10 = .ok (.bipush (-7), 2) := by decide +kernel
theorem dX4_inspect_12 : decode cX4_inspect 12 = .ok (.ireturn, 1) := by decide +kernel
theorem dX4_inspect_13 : decode cX4_inspect 13 = .ok (.iload_n 1, 1) := by decide +kernel
theorem dX4_inspect_14 : decode cX4_inspect 14 = .ok (.invokestatic 110, 3) := by decide +kernel
theorem dX4_inspect_17 : decode cX4_inspect 17 = .ok (.ifCond .eq 16, 3) := by decide +kernel
theorem dX4_inspect_20 : decode cX4_inspect 20 = .ok (.iload_n 1, 1) := by decide +kernel
theorem dX4_inspect_21 : decode cX4_inspect 21 = .ok (.aload_n 0, 1) := by decide +kernel
theorem dX4_inspect_22 : decode cX4_inspect 22 = .ok (.getfield 40, 3) := by decide +kernel
theorem dX4_inspect_25 : decode cX4_inspect 25 = .ok (.bipush 12, 2) := by decide +kernel
theorem dX4_inspect_27 : decode cX4_inspect 27 = .ok (.invokevirtual 62, 3) := by decide +kernel
theorem dX4_inspect_30 : decode cX4_inspect 30 = .ok (.if_icmp .ge 5, 3) := by decide +kernel
theorem dX4_inspect_33 : decode cX4_inspect 33 = .ok (.iconst 0, 1) := by decide +kernel
theorem dX4_inspect_34 : decode cX4_inspect 34 = .ok (.ireturn, 1) := by decide +kernel
theorem dX4_inspect_35 : decode cX4_inspect 35 = .ok (.aload_n 0, 1) := by decide +kernel
theorem dX4_inspect_36 : decode cX4_inspect 36 = .ok (.getfield 49, 3) := by decide +kernel
theorem dX4_inspect_39 : decode cX4_inspect 39 = .ok (.bipush 6, 2) := by decide +kernel
theorem dX4_inspect_41 : decode cX4_inspect 41 = .ok (.iload_n 1, 1) := by decide +kernel
theorem dX4_inspect_42 : decode cX4_inspect 42 = .ok (.iconst 0, 1) := by decide +kernel
theorem dX4_inspect_43 : decode cX4_inspect 43 = .ok (.invokevirtual 66, 3) := by decide +kernel
theorem dX4_inspect_46 : decode cX4_inspect 46 = .ok (.ireturn, 1) := by decide +kernel
theorem dX4_lock_0 : decode cX4_lock 0 = .ok (.aload_n 0, 1) := by decide +kernel
theorem dX4_lock_1 : decode cX4_lock 1 = .ok (.getfield 33, 3) := by decide +kernel
theorem dX4_lock_4 : decode cX4_lock 4 = .ok (.invokevirtual 58, 3) := by decide +kernel
theorem dX4_lock_7 : decode cX4_lock 7 = .ok (.ifCond .ne 6, 3) := by decide +kernel
theorem dX4_lock_10 : decode cX4_lock 10 = .ok (.bipush (-7), 2) := by decide +kernel
theorem dX4_lock_12 : decode cX4_lock 12 = .ok (.ireturn, 1) := by decide +kernel
theorem dX4_lock_13 : decode cX4_lock 13 = .ok (.aload_n 0, 1) := by decide +kernel
theorem dX4_lock_14 : decode cX4_lock 14 = .ok (.invokevirtual 133, 3) := by decide +kernel
theorem dX4_lock_17 : decode cX4_lock 17 = .ok (.ifCond .eq 7, 3) := by decide +kernel
theorem dX4_lock_20 : decode cX4_lock 20 = .ok (.iconst 0, 1) := by decide +kernel
theorem dX4_lock_21 : decode cX4_lock 21 = .ok (.goto 14, 3) := by decide +kernel
theorem dX4_lock_24 : decode cX4_lock 24 = .ok (.aload_n 0, 1) := by decide +kernel
theorem dX4_lock_25 : decode cX4_lock 25 = .ok (.getfield 49, 3) := by decide +kernel
theorem dX4_lock_28 : decode cX4_lock 28 = .ok (.bipush 7, 2) := by decide +kernel
theorem dX4_lock_30 : decode cX4_lock 30 = .ok (.iconst 0, 1) := by decide +kernel
theorem dX4_lock_31 : decode cX4_lock 31 = .ok (.iconst 0, 1) := by decide +kernel
theorem dX4_lock_32 : decode cX4_lock 32 = .ok (.invokevirtual 66, 3) := by decide +kernel
theorem dX4_lock_35 : decode cX4_lock 35 = .ok (.ireturn, 1) := by decide +kernel
theorem dX4_unlock_0 : decode cX4_unlock 0 = .ok (.aload_n 0, 1) := by decide +kernel
theorem dX4_unlock_1 : decode cX4_unlock 1 = .ok (.getfield 33, 3) := by decide +kernel
theorem dX4_unlock_4 : decode cX4_unlock 4 = .ok (.invokevirtual 58, 3) := by decide +kernel
theorem dX4_unlock_7 : decode cX4_unlock 7 = .ok (.ifCond .ne 6, 3) := by decide +kernel
theorem dX4_unlock_10 : decode cX4_unlock 10 = .ok (.bipush (-7), 2) := by decide +kernel
theorem dX4_unlock_12 : decode cX4_unlock 12 = .ok (.ireturn, 1) := by decide +kernel
theorem dX4_unlock_13 : decode cX4_unlock 13 = .ok (.aload_n 0, 1) := by decide +kernel
theorem dX4_unlock_14 : decode cX4_unlock 14 = .ok (.invokevirtual 133, 3) := by decide +kernel
theorem dX4_unlock_17 : decode cX4_unlock 17 = .ok (.ifCond .eq 21, 3) := by decide +kernel
theorem dX4_unlock_20 : decode cX4_unlock 20 = .ok (.iload_n 1, 1) := by decide +kernel
theorem dX4_unlock_21 : decode cX4_unlock 21 = .ok (.aload_n 0, 1) := by decide +kernel
theorem dX4_unlock_22 : decode cX4_unlock 22 = .ok (.aload_n 0, 1) := by decide +kernel
theorem dX4_unlock_23 : decode cX4_unlock 23 = .ok (.getfield 40, 3) := by decide +kernel
theorem dX4_unlock_26 : decode cX4_unlock 26 = .ok (.bipush 10, 2) := by decide +kernel
theorem dX4_unlock_28 : decode cX4_unlock 28 = .ok (.invokevirtual 62, 3) := by decide +kernel
theorem dX4_unlock_31 : decode cX4_unlock 31 = .ok (.iconst 0, 1) := by decide +kernel
theorem dX4_unlock_32 : decode cX4_unlock 32 = .ok (.invokevirtual 93, 3) := by decide +kernel
theorem dX4_unlock_35 : decode cX4_unlock 35 = .ok (.if_icmp .eq 5, 3) := by decide +kernel
theorem dX4_unlock_38 : decode cX4_unlock 38 = .ok (.iconst 0, 1) := by decide +kernel
theorem dX4_unlock_39 : decode cX4_unlock 39 = .ok (.ireturn, 1) := by decide +kernel
theorem dX4_unlock_40 : decode cX4_unlock 40 = .ok (.aload_n 0, 1) := by decide +kernel
theorem dX4_unlock_41 : decode cX4_unlock 41 = .ok (.getfield 49, 3) := by decide +kernel
theorem dX4_unlock_44 : decode cX4_unlock 44 = .ok (.bipush 8, 2) := by decide +kernel
theorem dX4_unlock_46 : decode cX4_unlock 46 = .ok (.iconst 0, 1) := by decide +kernel
theorem dX4_unlock_47 : decode cX4_unlock 47 = .ok (.iconst 0, 1) := by decide +kernel
theorem dX4_unlock_48 : decode cX4_unlock 48 = .ok (.invokevirtual 66, 3) := by decide +kernel
theorem dX4_unlock_51 : decode cX4_unlock 51 = .ok (.ireturn, 1) := by decide +kernel
theorem dX4_cut_0 : decode cX4_cut 0 = .ok (.iload_n 1, 1) := by decide +kernel
theorem dX4_cut_1 : decode cX4_cut 1 = .ok (.ifCond .lt 9, 3) := by decide +kernel
theorem dX4_cut_4 : decode cX4_cut 4 = .ok (.iload_n 1, 1) := by decide +kernel
theorem dX4_cut_5 : decode cX4_cut 5 = .ok (.ldc 136, 2) := by decide +kernel
theorem dX4_cut_7 : decode cX4_cut 7 = .ok (.if_icmp .le 5, 3) := by decide +kernel
theorem dX4_cut_10 : decode cX4_cut 10 = .ok (.iconst (-1), 1) := by decide +kernel
theorem dX4_cut_11 : decode cX4_cut 11 = .ok (.ireturn, 1) := by decide +kernel
theorem dX4_cut_12 : decode cX4_cut 12 = .ok (.aload_n 0, 1) := by decide +kernel
theorem dX4_cut_13 : decode cX4_cut 13 = .ok (.getfield 33, 3) := by decide +kernel
theorem dX4_cut_16 : decode cX4_cut 16 = .ok (.iload_n 1, 1) := by decide +kernel
theorem dX4_cut_17 : decode cX4_cut 17 = .ok (.iload_n 2, 1) := by decide +kernel
theorem dX4_cut_18 : decode cX4_cut 18 = .ok (.invokevirtual 137, 3) := by decide +kernel
theorem dX4_cut_21 : decode cX4_cut 21 = .ok (.iconst 1, 1) := by decide +kernel
theorem dX4_cut_22 : decode cX4_cut 22 = .ok (.ireturn, 1) := by decide +kernel
theorem dX4_mount_0 : decode cX4_mount 0 = .ok (.aload_n 0, 1) := by decide +kernel
theorem dX4_mount_1 : decode cX4_mount 1 = .ok (.getfield 33, 3) := by decide +kernel
theorem dX4_mount_4 : decode cX4_mount 4 = .ok (.invokevirtual 58, 3) := by decide +kernel
theorem dX4_mount_7 : decode cX4_mount 7 = .ok (.ifCond .ne 17, 3) := by decide +kernel
theorem dX4_mount_10 : decode cX4_mount 10 = .ok (.aload_n 0, 1) := by decide +kernel
theorem dX4_mount_11 : decode cX4_mount 11 = .ok (.getfield 33, 3) := by decide +kernel
theorem dX4_mount_14 : decode cX4_mount 14 = .ok (.invokevirtual 141, 3) := by decide +kernel
theorem dX4_mount_17 : decode cX4_mount 17 = .ok (.aload_n 0, 1) := by decide +kernel
theorem dX4_mount_18 : decode cX4_mount 18 = .ok (.getfield 49, 3) := by decide +kernel
theorem dX4_mount_21 : decode cX4_mount 21 = .ok (.invokevirtual 144, 3) := by decide +kernel
theorem dX4_mount_24 : decode cX4_mount 24 = .ok (.aload_n 0, 1) := by decide +kernel
theorem dX4_mount_25 : decode cX4_mount 25 = .ok (.getfield 49, 3) := by decide +kernel
theorem dX4_mount_28 : decode cX4_mount 28 = .ok (.invokevirtual 147, 3) := by decide +kernel
theorem dX4_mount_31 : decode cX4_mount 31 = .ok (.ireturn, 1) := by decide +kernel
theorem dX4_uncertain_0 : decode cX4_uncertain 0 = .ok (.aload_n 0, 1) := by decide +kernel
theorem dX4_uncertain_1 : decode cX4_uncertain 1 = .ok (.getfield 33, 3) := by decide +kernel
theorem dX4_uncertain_4 : decode cX4_uncertain 4 = .ok (.invokevirtual 58, 3) := by decide +kernel
theorem dX4_uncertain_7 : decode cX4_uncertain 7 = .ok (.ifCond .ne 6, 3) := by decide +kernel
theorem dX4_uncertain_10 : decode cX4_uncertain 10 = .ok (.bipush (-7), 2) := by decide +kernel
theorem dX4_uncertain_12 : decode cX4_uncertain 12 = .ok (.ireturn, 1) := by decide +kernel
theorem dX4_uncertain_13 : decode cX4_uncertain 13 = .ok (.aload_n 0, 1) := by decide +kernel
theorem dX4_uncertain_14 : decode cX4_uncertain 14 = .ok (.invokevirtual 151, 3) := by decide +kernel
theorem dX4_uncertain_17 : decode cX4_uncertain 17 = .ok (.ifCond .eq 7, 3) := by decide +kernel
theorem dX4_uncertain_20 : decode cX4_uncertain 20 = .ok (.iconst 1, 1) := by decide +kernel
theorem dX4_uncertain_21 : decode cX4_uncertain 21 = .ok (.goto 4, 3) := by decide +kernel
theorem dX4_uncertain_24 : decode cX4_uncertain 24 = .ok (.iconst 0, 1) := by decide +kernel
theorem dX4_uncertain_25 : decode cX4_uncertain 25 = .ok (.ireturn, 1) := by decide +kernel
theorem dX4_settle_0 : decode cX4_settle 0 = .ok (.aload_n 0, 1) := by decide +kernel
theorem dX4_settle_1 : decode cX4_settle 1 = .ok (.getfield 33, 3) := by decide +kernel
theorem dX4_settle_4 : decode cX4_settle 4 = .ok (.invokevirtual 58, 3) := by decide +kernel
theorem dX4_settle_7 : decode cX4_settle 7 = .ok (.ifCond .ne 6, 3) := by decide +kernel
theorem dX4_settle_10 : decode cX4_settle 10 = .ok (.bipush (-7), 2) := by decide +kernel
theorem dX4_settle_12 : decode cX4_settle 12 = .ok (.ireturn, 1) := by decide +kernel
theorem dX4_settle_13 : decode cX4_settle 13 = .ok (.aload_n 0, 1) := by decide +kernel
theorem dX4_settle_14 : decode cX4_settle 14 = .ok (.invokevirtual 151, 3) := by decide +kernel
theorem dX4_settle_17 : decode cX4_settle 17 = .ok (.ifCond .eq 24, 3) := by decide +kernel
theorem dX4_settle_20 : decode cX4_settle 20 = .ok (.aload_n 0, 1) := by decide +kernel
theorem dX4_settle_21 : decode cX4_settle 21 = .ok (.getfield 49, 3) := by decide +kernel
theorem dX4_settle_24 : decode cX4_settle 24 = .ok (.iconst 3, 1) := by decide +kernel
theorem dX4_settle_25 : decode cX4_settle 25 = .ok (.iload_n 1, 1) := by decide +kernel
theorem dX4_settle_26 : decode cX4_settle 26 = .ok (.ifCond .eq 7, 3) := by decide +kernel
theorem dX4_settle_29 : decode cX4_settle 29 = .ok (.iconst 1, 1) := by decide +kernel
theorem dX4_settle_30 : decode cX4_settle 30 = .ok (.goto 4, 3) := by decide +kernel
theorem dX4_settle_33 : decode cX4_settle 33 = .ok (.iconst 0, 1) := by decide +kernel
theorem dX4_settle_34 : decode cX4_settle 34 = .ok (.iconst 0, 1) := by decide +kernel
theorem dX4_settle_35 : decode cX4_settle 35 = .ok (.invokevirtual 66, 3) := by decide +kernel
theorem dX4_settle_38 : decode cX4_settle 38 = .ok (.goto 4, 3) := by decide +kernel
theorem dX4_settle_41 : decode cX4_settle 41 = .ok (.iconst 0, 1) := by decide +kernel
theorem dX4_settle_42 : decode cX4_settle 42 = .ok (.ireturn, 1) := by decide +kernel
theorem dX4_wear_0 : decode cX4_wear 0 = .ok (.aload_n 0, 1) := by decide +kernel
theorem dX4_wear_1 : decode cX4_wear 1 = .ok (.getfield 33, 3) := by decide +kernel
theorem dX4_wear_4 : decode cX4_wear 4 = .ok (.iload_n 1, 1) := by decide +kernel
theorem dX4_wear_5 : decode cX4_wear 5 = .ok (.iconst 0, 1) := by decide +kernel
theorem dX4_wear_6 : decode cX4_wear 6 = .ok (.invokevirtual 154, 3) := by decide +kernel
theorem dX4_wear_9 : decode cX4_wear 9 = .ok (.ifCond .eq 14, 3) := by decide +kernel
theorem dX4_wear_12 : decode cX4_wear 12 = .ok (.aload_n 0, 1) := by decide +kernel
theorem dX4_wear_13 : decode cX4_wear 13 = .ok (.getfield 33, 3) := by decide +kernel
theorem dX4_wear_16 : decode cX4_wear 16 = .ok (.iload_n 1, 1) := by decide +kernel
theorem dX4_wear_17 : decode cX4_wear 17 = .ok (.invokevirtual 158, 3) := by decide +kernel
theorem dX4_wear_20 : decode cX4_wear 20 = .ok (.goto 4, 3) := by decide +kernel
theorem dX4_wear_23 : decode cX4_wear 23 = .ok (.iconst (-1), 1) := by decide +kernel
theorem dX4_wear_24 : decode cX4_wear 24 = .ok (.ireturn, 1) := by decide +kernel
theorem dX4_word_0 : decode cX4_word 0 = .ok (.aload_n 0, 1) := by decide +kernel
theorem dX4_word_1 : decode cX4_word 1 = .ok (.getfield 33, 3) := by decide +kernel
theorem dX4_word_4 : decode cX4_word 4 = .ok (.iload_n 1, 1) := by decide +kernel
theorem dX4_word_5 : decode cX4_word 5 = .ok (.iload_n 2, 1) := by decide +kernel
theorem dX4_word_6 : decode cX4_word 6 = .ok (.invokevirtual 154, 3) := by decide +kernel
theorem dX4_word_9 : decode cX4_word 9 = .ok (.ifCond .eq 15, 3) := by decide +kernel
theorem dX4_word_12 : decode cX4_word 12 = .ok (.aload_n 0, 1) := by decide +kernel
theorem dX4_word_13 : decode cX4_word 13 = .ok (.getfield 33, 3) := by decide +kernel
theorem dX4_word_16 : decode cX4_word 16 = .ok (.iload_n 1, 1) := by decide +kernel
theorem dX4_word_17 : decode cX4_word 17 = .ok (.iload_n 2, 1) := by decide +kernel
theorem dX4_word_18 : decode cX4_word 18 = .ok (.invokevirtual 161, 3) := by decide +kernel
theorem dX4_word_21 : decode cX4_word 21 = .ok (.goto 4, 3) := by decide +kernel
theorem dX4_word_24 : decode cX4_word 24 = .ok (.iconst (-1), 1) := by decide +kernel
theorem dX4_word_25 : decode cX4_word 25 = .ok (.ireturn, 1) := by decide +kernel
theorem dX4_sound_0 : decode cX4_sound 0 = .ok (.aload_n 0, 1) := by decide +kernel
theorem dX4_sound_1 : decode cX4_sound 1 = .ok (.getfield 33, 3) := by decide +kernel
theorem dX4_sound_4 : decode cX4_sound 4 = .ok (.invokevirtual 58, 3) := by decide +kernel
theorem dX4_sound_7 : decode cX4_sound 7 = .ok (.ifCond .ne 6, 3) := by decide +kernel
theorem dX4_sound_10 : decode cX4_sound 10 = .ok (.bipush (-7), 2) := by decide +kernel
theorem dX4_sound_12 : decode cX4_sound 12 = .ok (.ireturn, 1) := by decide +kernel
theorem dX4_sound_13 : decode cX4_sound 13 = .ok (.aload_n 0, 1) := by decide +kernel
theorem dX4_sound_14 : decode cX4_sound 14 = .ok (.getfield 40, 3) := by decide +kernel
theorem dX4_sound_17 : decode cX4_sound 17 = .ok (.invokevirtual 164, 3) := by decide +kernel
theorem dX4_sound_20 : decode cX4_sound 20 = .ok (.ifCond .eq 70, 3) := by decide +kernel
theorem dX4_sound_23 : decode cX4_sound 23 = .ok (.aload_n 0, 1) := by decide +kernel
theorem dX4_sound_24 : decode cX4_sound 24 = .ok (.getfield 40, 3) := by decide +kernel
theorem dX4_sound_27 : decode cX4_sound 27 = .ok (.invokevirtual 167, 3) := by decide +kernel
theorem dX4_sound_30 : decode cX4_sound 30 = .ok (.ifCond .eq 60, 3) := by decide +kernel
theorem dX4_sound_33 : decode cX4_sound 33 = .ok (.aload_n 0, 1) := by decide +kernel
theorem dX4_sound_34 : decode cX4_sound 34 = .ok (.getfield 80, 3) := by decide +kernel
theorem dX4_sound_37 : decode cX4_sound 37 = .ok (.aload_n 0, 1) := by decide +kernel
theorem dX4_sound_38 : decode cX4_sound 38 = .ok (.getfield 40, 3) := by decide +kernel
theorem dX4_sound_41 : decode cX4_sound 41 = .ok (.bipush 8, 2) := by decide +kernel
theorem dX4_sound_43 : decode cX4_sound 43 = .ok (.invokevirtual 62, 3) := by decide +kernel
theorem dX4_sound_46 : decode cX4_sound 46 = .ok (.i2l, 1) := by decide +kernel
theorem dX4_sound_47 : decode cX4_sound 47 = .ok (.lcmp, 1) := by decide +kernel
theorem dX4_sound_48 : decode cX4_sound 48 = .ok (.ifCond .gt 42, 3) := by decide +kernel
theorem dX4_sound_51 : decode cX4_sound 51 = .ok (.aload_n 0, 1) := by decide +kernel
theorem dX4_sound_52 : decode cX4_sound 52 = .ok (.getfield 84, 3) := by decide +kernel
theorem dX4_sound_55 : decode cX4_sound 55 = .ok (.aload_n 0, 1) := by decide +kernel
theorem dX4_sound_56 : decode cX4_sound 56 = .ok (.getfield 40, 3) := by decide +kernel
theorem dX4_sound_59 : decode cX4_sound 59 = .ok (.iconst 0, 1) := by decide +kernel
theorem dX4_sound_60 : decode cX4_sound 60 = .ok (.invokevirtual 96, 3) := by decide +kernel
theorem dX4_sound_63 : decode cX4_sound 63 = .ok (.lcmp, 1) := by decide +kernel
theorem dX4_sound_64 : decode cX4_sound 64 = .ok (.ifCond .gt 26, 3) := by decide +kernel
theorem dX4_sound_67 : decode cX4_sound 67 = .ok (.aload_n 0, 1) := by decide +kernel
theorem dX4_sound_68 : decode cX4_sound 68 = .ok (.getfield 33, 3) := by decide +kernel
theorem dX4_sound_71 : decode cX4_sound 71 = .ok (.invokevirtual 170, 3) := by decide +kernel
theorem dX4_sound_74 : decode cX4_sound 74 = .ok (.iconst 1, 1) := by decide +kernel
theorem dX4_sound_75 : decode cX4_sound 75 = .ok (.aload_n 0, 1) := by decide +kernel
theorem dX4_sound_76 : decode cX4_sound 76 = .ok (.getfield 33, 3) := by decide +kernel
theorem dX4_sound_79 : decode cX4_sound 79 = .ok (.invokevirtual 173, 3) := by decide +kernel
theorem dX4_sound_82 : decode cX4_sound 82 = .ok (.iadd, 1) := by decide +kernel
theorem dX4_sound_83 : decode cX4_sound 83 = .ok (.if_icmp .gt 7, 3) := by decide +kernel
theorem dX4_sound_86 : decode cX4_sound 86 = .ok (.iconst 1, 1) := by decide +kernel
theorem dX4_sound_87 : decode cX4_sound 87 = .ok (.goto 4, 3) := by decide +kernel
theorem dX4_sound_90 : decode cX4_sound 90 = .ok (.iconst 0, 1) := by decide +kernel
theorem dX4_sound_91 : decode cX4_sound 91 = .ok (.istore_n 1, 1) := by decide +kernel
theorem dX4_sound_92 : decode cX4_sound 92 = .ok (.iload_n 1, 1) := by decide +kernel
theorem dX4_sound_93 : decode cX4_sound 93 = .ok (.ifCond .eq 7, 3) := by decide +kernel
theorem dX4_sound_96 : decode cX4_sound 96 = .ok (.iconst 1, 1) := by decide +kernel
theorem dX4_sound_97 : decode cX4_sound 97 = .ok (.goto 4, 3) := by decide +kernel
theorem dX4_sound_100 : decode cX4_sound 100 = .ok (.iconst 0, 1) := by decide +kernel
theorem dX4_sound_101 : decode cX4_sound 101 = .ok (.ireturn, 1) := by decide +kernel
theorem dX4_mayFrank_0 : decode cX4_mayFrank 0 = .ok (.iload_n 1, 1) := by decide +kernel
theorem dX4_mayFrank_1 : decode cX4_mayFrank 1 = .ok (.invokestatic 115, 3) := by decide +kernel
theorem dX4_mayFrank_4 : decode cX4_mayFrank 4 = .ok (.ifCond .eq 62, 3) := by decide +kernel
theorem dX4_mayFrank_7 : decode cX4_mayFrank 7 = .ok (.iload_n 3, 1) := by decide +kernel
theorem dX4_mayFrank_8 : decode cX4_mayFrank 8 = .ok (.invokestatic 110, 3) := by decide +kernel
theorem dX4_mayFrank_11 : decode cX4_mayFrank 11 = .ok (.ifCond .eq 55, 3) := by decide +kernel
theorem dX4_mayFrank_14 : decode cX4_mayFrank 14 = .ok (.iload_n 2, 1) := by decide +kernel
theorem dX4_mayFrank_15 : decode cX4_mayFrank 15 = .ok (.invokestatic 89, 3) := by decide +kernel
theorem dX4_mayFrank_18 : decode cX4_mayFrank 18 = .ok (.ifCond .eq 48, 3) := by decide +kernel
theorem dX4_mayFrank_21 : decode cX4_mayFrank 21 = .ok (.iload_n 2, 1) := by decide +kernel
theorem dX4_mayFrank_22 : decode cX4_mayFrank 22 = .ok (.i2l, 1) := by decide +kernel
theorem dX4_mayFrank_23 : decode cX4_mayFrank 23 = .ok (.aload_n 0, 1) := by decide +kernel
theorem dX4_mayFrank_24 : decode cX4_mayFrank 24 = .ok (.getfield 40, 3) := by decide +kernel
theorem dX4_mayFrank_27 : decode cX4_mayFrank 27 = .ok (.iconst 2, 1) := by decide +kernel
theorem dX4_mayFrank_28 : decode cX4_mayFrank 28 = .ok (.invokevirtual 96, 3) := by decide +kernel
theorem dX4_mayFrank_31 : decode cX4_mayFrank 31 = .ok (.lcmp, 1) := by decide +kernel
theorem dX4_mayFrank_32 : decode cX4_mayFrank 32 = .ok (.ifCond .gt 34, 3) := by decide +kernel
theorem dX4_mayFrank_35 : decode cX4_mayFrank 35 = .ok (.iload_n 3, 1) := by decide +kernel
theorem dX4_mayFrank_36 : decode cX4_mayFrank 36 = .ok (.aload_n 0, 1) := by decide +kernel
theorem dX4_mayFrank_37 : decode cX4_mayFrank 37 = .ok (.getfield 40, 3) := by decide +kernel
theorem dX4_mayFrank_40 : decode cX4_mayFrank 40 = .ok (.bipush 12, 2) := by decide +kernel
theorem dX4_mayFrank_42 : decode cX4_mayFrank 42 = .ok (.invokevirtual 62, 3) := by decide +kernel
theorem dX4_mayFrank_45 : decode cX4_mayFrank 45 = .ok (.if_icmp .gt 21, 3) := by decide +kernel
theorem dX4_mayFrank_48 : decode cX4_mayFrank 48 = .ok (.aload_n 0, 1) := by decide +kernel
theorem dX4_mayFrank_49 : decode cX4_mayFrank 49 = .ok (.invokevirtual 133, 3) := by decide +kernel
theorem dX4_mayFrank_52 : decode cX4_mayFrank 52 = .ok (.ifCond .ne 14, 3) := by decide +kernel
theorem dX4_mayFrank_55 : decode cX4_mayFrank 55 = .ok (.aload_n 0, 1) := by decide +kernel
theorem dX4_mayFrank_56 : decode cX4_mayFrank 56 = .ok (.invokevirtual 151, 3) := by decide +kernel
theorem dX4_mayFrank_59 : decode cX4_mayFrank 59 = .ok (.ifCond .ne 7, 3) := by decide +kernel
theorem dX4_mayFrank_62 : decode cX4_mayFrank 62 = .ok (.iconst 1, 1) := by decide +kernel
theorem dX4_mayFrank_63 : decode cX4_mayFrank 63 = .ok (.goto 4, 3) := by decide +kernel
theorem dX4_mayFrank_66 : decode cX4_mayFrank 66 = .ok (.iconst 0, 1) := by decide +kernel
theorem dX4_mayFrank_67 : decode cX4_mayFrank 67 = .ok (.ireturn, 1) := by decide +kernel
theorem dX4_isLocked_0 : decode cX4_isLocked 0 = .ok (.aload_n 0, 1) := by decide +kernel
theorem dX4_isLocked_1 : decode cX4_isLocked 1 = .ok (.getfield 40, 3) := by decide +kernel
theorem dX4_isLocked_4 : decode cX4_isLocked 4 = .ok (.bipush 11, 2) := by decide +kernel
theorem dX4_isLocked_6 : decode cX4_isLocked 6 = .ok (.invokevirtual 62, 3) := by decide +kernel
theorem dX4_isLocked_9 : decode cX4_isLocked 9 = .ok (.ifCond .eq 7, 3) := by decide +kernel
theorem dX4_isLocked_12 : decode cX4_isLocked 12 = .ok (.iconst 1, 1) := by decide +kernel
theorem dX4_isLocked_13 : decode cX4_isLocked 13 = .ok (.goto 4, 3) := by decide +kernel
theorem dX4_isLocked_16 : decode cX4_isLocked 16 = .ok (.iconst 0, 1) := by decide +kernel
theorem dX4_isLocked_17 : decode cX4_isLocked 17 = .ok (.ireturn, 1) := by decide +kernel
theorem dX4_isUncertain_0 : decode cX4_isUncertain 0 = .ok (.aload_n 0, 1) := by decide +kernel
theorem dX4_isUncertain_1 : decode cX4_isUncertain 1 = .ok (.getfield 40, 3) := by decide +kernel
theorem dX4_isUncertain_4 : decode cX4_isUncertain 4 = .ok (.bipush 14, 2) := by decide +kernel
theorem dX4_isUncertain_6 : decode cX4_isUncertain 6 = .ok (.invokevirtual 62, 3) := by decide +kernel
theorem dX4_isUncertain_9 : decode cX4_isUncertain 9 = .ok (.ifCond .eq 7, 3) := by decide +kernel
theorem dX4_isUncertain_12 : decode cX4_isUncertain 12 = .ok (.iconst 1, 1) := by decide +kernel
theorem dX4_isUncertain_13 : decode cX4_isUncertain 13 = .ok (.goto 4, 3) := by decide +kernel
theorem dX4_isUncertain_16 : decode cX4_isUncertain 16 = .ok (.iconst 0, 1) := by decide +kernel
theorem dX4_isUncertain_17 : decode cX4_isUncertain 17 = .ok (.ireturn, 1) := by decide +kernel
theorem dX4_areCents_0 : decode cX4_areCents 0 = .ok (.iload_n 0, 1) := by decide +kernel
theorem dX4_areCents_1 : decode cX4_areCents 1 = .ok (.iconst 1, 1) := by decide +kernel
theorem dX4_areCents_2 : decode cX4_areCents 2 = .ok (.if_icmp .lt 13, 3) := by decide +kernel
theorem dX4_areCents_5 : decode cX4_areCents 5 = .ok (.iload_n 0, 1) := by decide +kernel
theorem dX4_areCents_6 : decode cX4_areCents 6 = .ok (.ldc 53, 2) := by decide +kernel
theorem dX4_areCents_8 : decode cX4_areCents 8 = .ok (.if_icmp .gt 7, 3) := by decide +kernel
theorem dX4_areCents_11 : decode cX4_areCents 11 = .ok (.iconst 1, 1) := by decide +kernel
theorem dX4_areCents_12 : decode cX4_areCents 12 = .ok (.goto 4, 3) := by decide +kernel
theorem dX4_areCents_15 : decode cX4_areCents 15 = .ok (.iconst 0, 1) := by decide +kernel
theorem dX4_areCents_16 : decode cX4_areCents 16 = .ok (.ireturn, 1) := by decide +kernel
theorem dX4_isDay_0 : decode cX4_isDay 0 = .ok (.iload_n 0, 1) := by decide +kernel
theorem dX4_isDay_1 : decode cX4_isDay 1 = .ok (.ifCond .lt 13, 3) := by decide +kernel
theorem dX4_isDay_4 : decode cX4_isDay 4 = .ok (.iload_n 0, 1) := by decide +kernel
theorem dX4_isDay_5 : decode cX4_isDay 5 = .ok (.ldc 136, 2) := by decide +kernel
theorem dX4_isDay_7 : decode cX4_isDay 7 = .ok (.if_icmp .gt 7, 3) := by decide +kernel
theorem dX4_isDay_10 : decode cX4_isDay 10 = .ok (.iconst 1, 1) := by decide +kernel
theorem dX4_isDay_11 : decode cX4_isDay 11 = .ok (.goto 4, 3) := by decide +kernel
theorem dX4_isDay_14 : decode cX4_isDay 14 = .ok (.iconst 0, 1) := by decide +kernel
theorem dX4_isDay_15 : decode cX4_isDay 15 = .ok (.ireturn, 1) := by decide +kernel
theorem dX4_isDepartment_0 : decode cX4_isDepartment 0 = .ok (.iload_n 0, 1) := by decide +kernel
theorem dX4_isDepartment_1 : decode cX4_isDepartment 1 = .ok (.ifCond .lt 13, 3) := by decide +kernel
theorem dX4_isDepartment_4 : decode cX4_isDepartment 4 = .ok (.iload_n 0, 1) := by decide +kernel
theorem dX4_isDepartment_5 : decode cX4_isDepartment 5 = .ok (.bipush 16, 2) := by decide +kernel
theorem dX4_isDepartment_7 : decode cX4_isDepartment 7 = .ok (.if_icmp .ge 7, 3) := by decide +kernel
theorem dX4_isDepartment_10 : decode cX4_isDepartment 10 = .ok (.iconst 1, 1) := by decide +kernel
theorem dX4_isDepartment_11 : decode cX4_isDepartment 11 = .ok (.goto 4, 3) := by decide +kernel
theorem dX4_isDepartment_14 : decode cX4_isDepartment 14 = .ok (.iconst 0, 1) := by decide +kernel
theorem dX4_isDepartment_15 : decode cX4_isDepartment 15 = .ok (.ireturn, 1) := by decide +kernel
theorem dX4_isPiecesOrCents_0 : decode cX4_isPiecesOrCents 0 = .ok (.iload_n 0, 1) := by decide +kernel
theorem dX4_isPiecesOrCents_1 : decode cX4_isPiecesOrCents 1 = .ok (.ifCond .eq 8, 3) := by decide +kernel
theorem dX4_isPiecesOrCents_4 : decode cX4_isPiecesOrCents 4 = .ok (.iload_n 0, 1) := by decide +kernel
theorem dX4_isPiecesOrCents_5 : decode cX4_isPiecesOrCents 5 = .ok (.iconst 1, 1) := by decide +kernel
theorem dX4_isPiecesOrCents_6 : decode cX4_isPiecesOrCents 6 = .ok (.if_icmp .ne 7, 3) := by decide +kernel
theorem dX4_isPiecesOrCents_9 : decode cX4_isPiecesOrCents 9 = .ok (.iconst 1, 1) := by decide +kernel
theorem dX4_isPiecesOrCents_10 : decode cX4_isPiecesOrCents 10 = .ok (.goto 4, 3) := by decide +kernel
theorem dX4_isPiecesOrCents_13 : decode cX4_isPiecesOrCents 13 = .ok (.iconst 0, 1) := by decide +kernel
theorem dX4_isPiecesOrCents_14 : decode cX4_isPiecesOrCents 14 = .ok (.ireturn, 1) := by decide +kernel
theorem dJ9_max_7cf53_0 : decode cJ9_max_7cf53 0 = .ok (.iload_n 0, 1) := by decide +kernel
theorem dJ9_max_7cf53_1 : decode cJ9_max_7cf53 1 = .ok (.iload_n 1, 1) := by decide +kernel
theorem dJ9_max_7cf53_2 : decode cJ9_max_7cf53 2 = .ok (.if_icmp .lt 7, 3) := by decide +kernel
theorem dJ9_max_7cf53_5 : decode cJ9_max_7cf53 5 = .ok (.iload_n 0, 1) := by decide +kernel
theorem dJ9_max_7cf53_6 : decode cJ9_max_7cf53 6 = .ok (.goto 4, 3) := by decide +kernel
theorem dJ9_max_7cf53_9 : decode cJ9_max_7cf53 9 = .ok (.iload_n 1, 1) := by decide +kernel
theorem dJ9_max_7cf53_10 : decode cJ9_max_7cf53 10 = .ok (.ireturn, 1) := by decide +kernel
theorem dJ9_min_7cf53_0 : decode cJ9_min_7cf53 0 = .ok (.iload_n 0, 1) := by decide +kernel
theorem dJ9_min_7cf53_1 : decode cJ9_min_7cf53 1 = .ok (.iload_n 1, 1) := by decide +kernel
theorem dJ9_min_7cf53_2 : decode cJ9_min_7cf53 2 = .ok (.if_icmp .gt 7, 3) := by decide +kernel
theorem dJ9_min_7cf53_5 : decode cJ9_min_7cf53 5 = .ok (.iload_n 0, 1) := by decide +kernel
theorem dJ9_min_7cf53_6 : decode cJ9_min_7cf53 6 = .ok (.goto 4, 3) := by decide +kernel
theorem dJ9_min_7cf53_9 : decode cJ9_min_7cf53 9 = .ok (.iload_n 1, 1) := by decide +kernel
theorem dJ9_min_7cf53_10 : decode cJ9_min_7cf53 10 = .ok (.ireturn, 1) := by decide +kernel
theorem dJ7_fill_53178_0 : decode cJ7_fill_53178 0 = .ok (.iconst 0, 1) := by decide +kernel
theorem dJ7_fill_53178_1 : decode cJ7_fill_53178 1 = .ok (.istore_n 2, 1) := by decide +kernel
theorem dJ7_fill_53178_2 : decode cJ7_fill_53178 2 = .ok (.aload_n 0, 1) := by decide +kernel
theorem dJ7_fill_53178_3 : decode cJ7_fill_53178 3 = .ok (.arraylength, 1) := by decide +kernel
theorem dJ7_fill_53178_4 : decode cJ7_fill_53178 4 = .ok (.istore_n 3, 1) := by decide +kernel
theorem dJ7_fill_53178_5 : decode cJ7_fill_53178 5 = .ok (.iload_n 2, 1) := by decide +kernel
theorem dJ7_fill_53178_6 : decode cJ7_fill_53178 6 = .ok (.iload_n 3, 1) := by decide +kernel
theorem dJ7_fill_53178_7 : decode cJ7_fill_53178 7 = .ok (.if_icmp .ge 13, 3) := by decide +kernel
theorem dJ7_fill_53178_10 : decode cJ7_fill_53178 10 = .ok (.aload_n 0, 1) := by decide +kernel
theorem dJ7_fill_53178_11 : decode cJ7_fill_53178 11 = .ok (.iload_n 2, 1) := by decide +kernel
theorem dJ7_fill_53178_12 : decode cJ7_fill_53178 12 = .ok (.iload_n 1, 1) := by decide +kernel
theorem dJ7_fill_53178_13 : decode cJ7_fill_53178 13 = .ok (.iastore, 1) := by decide +kernel
theorem dJ7_fill_53178_14 : decode cJ7_fill_53178 14 = .ok (.iinc 2 1, 3) := by decide +kernel
theorem dJ7_fill_53178_17 : decode cJ7_fill_53178 17 = .ok (.goto (-12), 3) := by decide +kernel
theorem dJ7_fill_53178_20 : decode cJ7_fill_53178 20 = .ok (.return_, 1) := by decide +kernel
end
section
theorem dX5_init_0 : decode cX5_init 0 = .ok (.aload_n 0, 1) := by decide +kernel
theorem dX5_init_1 : decode cX5_init 1 = .ok (.invokespecial 1, 3) := by decide +kernel
theorem dX5_init_4 : decode cX5_init 4 = .ok (.aload_n 0, 1) := by decide +kernel
theorem dX5_init_5 : decode cX5_init 5 = .ok (.sipush 4096, 3) := by decide +kernel
theorem dX5_init_8 : decode cX5_init 8 = .ok (.newarray .int, 2) := by decide +kernel
theorem dX5_init_10 : decode cX5_init 10 = .ok (.putfield 7, 3) := by decide +kernel
theorem dX5_init_13 : decode cX5_init 13 = .ok (.aload_n 0, 1) := by decide +kernel
theorem dX5_init_14 : decode cX5_init 14 = .ok (.bipush 16, 2) := by decide +kernel
theorem dX5_init_16 : decode cX5_init 16 = .ok (.newarray .int, 2) := by decide +kernel
theorem dX5_init_18 : decode cX5_init 18 = .ok (.putfield 13, 3) := by decide +kernel
theorem dX5_init_21 : decode cX5_init 21 = .ok (.aload_n 0, 1) := by decide +kernel
theorem dX5_init_22 : decode cX5_init 22 = .ok (.sipush 193, 3) := by decide +kernel
theorem dX5_init_25 : decode cX5_init 25 = .ok (.newarray .int, 2) := by decide +kernel
theorem dX5_init_27 : decode cX5_init 27 = .ok (.putfield 16, 3) := by decide +kernel
theorem dX5_init_30 : decode cX5_init 30 = .ok (.aload_n 0, 1) := by decide +kernel
theorem dX5_init_31 : decode cX5_init 31 = .ok (.iconst 5, 1) := by decide +kernel
theorem dX5_init_32 : decode cX5_init 32 = .ok (.newarray .int, 2) := by decide +kernel
theorem dX5_init_34 : decode cX5_init 34 = .ok (.putfield 19, 3) := by decide +kernel
theorem dX5_init_37 : decode cX5_init 37 = .ok (.aload_n 0, 1) := by decide +kernel
theorem dX5_init_38 : decode cX5_init 38 = .ok (.sipush 320, 3) := by decide +kernel
theorem dX5_init_41 : decode cX5_init 41 = .ok (.newarray .int, 2) := by decide +kernel
theorem dX5_init_43 : decode cX5_init 43 = .ok (.putfield 22, 3) := by decide +kernel
theorem dX5_init_46 : decode cX5_init 46 = .ok (.aload_n 0, 1) := by decide +kernel
theorem dX5_init_47 : decode cX5_init 47 = .ok (.sipush 320, 3) := by decide +kernel
theorem dX5_init_50 : decode cX5_init 50 = .ok (.newarray .int, 2) := by decide +kernel
theorem dX5_init_52 : decode cX5_init 52 = .ok (.putfield 25, 3) := by decide +kernel
theorem dX5_init_55 : decode cX5_init 55 = .ok (.aload_n 0, 1) := by decide +kernel
theorem dX5_init_56 : decode cX5_init 56 = .ok (.iconst 1, 1) := by decide +kernel
theorem dX5_init_57 : decode cX5_init 57 = .ok (.putfield 28, 3) := by decide +kernel
theorem dX5_init_60 : decode cX5_init 60 = .ok (.aload_n 0, 1) := by decide +kernel
theorem dX5_init_61 : decode cX5_init 61 = .ok (.iconst (-1), 1) := by decide +kernel
theorem dX5_init_62 : decode cX5_init 62 = .ok (.putfield 32, 3) := by decide +kernel
theorem dX5_init_65 : decode cX5_init 65 = .ok (.aload_n 0, 1) := by decide +kernel
theorem dX5_init_66 : decode cX5_init 66 = .ok (.iload_n 1, 1) := by decide +kernel
theorem dX5_init_67 : decode cX5_init 67 = .ok (.iconst 1, 1) := by decide +kernel
theorem dX5_init_68 : decode cX5_init 68 = .ok (.if_icmp .ge 7, 3) := by decide +kernel
theorem dX5_init_71 : decode cX5_init 71 = .ok (.iconst 1, 1) := by decide +kernel
theorem dX5_init_72 : decode cX5_init 72 = .ok (.goto 15, 3) := by decide +kernel
theorem dX5_init_75 : decode cX5_init 75 = .ok (.iload_n 1, 1) := by decide +kernel
theorem dX5_init_76 : decode cX5_init 76 = .ok (.ldc 36, 2) := by decide +kernel
theorem dX5_init_78 : decode cX5_init 78 = .ok (.if_icmp .le 8, 3) := by decide +kernel
theorem dX5_init_81 : decode cX5_init 81 = .ok (.ldc 36, 2) := by decide +kernel
theorem dX5_init_83 : decode cX5_init 83 = .ok (.goto 4, 3) := by decide +kernel
theorem dX5_init_86 : decode cX5_init 86 = .ok (.iload_n 1, 1) := by decide +kernel
theorem dX5_init_87 : decode cX5_init 87 = .ok (.putfield 37, 3) := by decide +kernel
theorem dX5_init_90 : decode cX5_init 90 = .ok (.iconst 0, 1) := by decide +kernel
theorem dX5_init_91 : decode cX5_init 91 = .ok (.istore_n 2, 1) := by decide +kernel
theorem dX5_init_92 : decode cX5_init 92 = .ok (.iload_n 2, 1) := by decide +kernel
theorem dX5_init_93 : decode cX5_init 93 = .ok (.sipush 4096, 3) := by decide +kernel
theorem dX5_init_96 : decode cX5_init 96 = .ok (.if_icmp .ge 16, 3) := by decide +kernel
theorem dX5_init_99 : decode cX5_init 99 = .ok (.aload_n 0, 1) := by decide +kernel
theorem dX5_init_100 : decode cX5_init 100 = .ok (.getfield 7, 3) := by decide +kernel
theorem dX5_init_103 : decode cX5_init 103 = .ok (.iload_n 2, 1) := by decide +kernel
theorem dX5_init_104 : decode cX5_init 104 = .ok (.iconst (-1), 1) := by decide +kernel
theorem dX5_init_105 : decode cX5_init 105 = .ok (.iastore, 1) := by decide +kernel
theorem dX5_init_106 : decode cX5_init 106 = .ok (.iinc 2 1, 3) := by decide +kernel
theorem dX5_init_109 : decode cX5_init 109 = .ok (.goto (-17), 3) := by decide +kernel
theorem dX5_init_112 : decode cX5_init 112 = .ok (.iconst 0, 1) := by decide +kernel
theorem dX5_init_113 : decode cX5_init 113 = .ok (.istore_n 2, 1) := by decide +kernel
theorem dX5_init_114 : decode cX5_init 114 = .ok (.iload_n 2, 1) := by decide +kernel
theorem dX5_init_115 : decode cX5_init 115 = .ok (.bipush 32, 2) := by decide +kernel
theorem dX5_init_117 : decode cX5_init 117 = .ok (.if_icmp .ge 21, 3) := by decide +kernel
theorem dX5_init_120 : decode cX5_init 120 = .ok (.aload_n 0, 1) := by decide +kernel
theorem dX5_init_121 : decode cX5_init 121 = .ok (.getfield 16, 3) := by decide +kernel
theorem dX5_init_124 : decode cX5_init 124 = .ok (.bipush 65, 2) := by decide +kernel
theorem dX5_init_126 : decode cX5_init 126 = .ok (.iconst 4, 1) := by decide +kernel
theorem dX5_init_127 : decode cX5_init 127 = .ok (.iload_n 2, 1) := by decide +kernel
theorem dX5_init_128 : decode cX5_init 128 = .ok (.imul, 1) := by decide +kernel
theorem dX5_init_129 : decode cX5_init 129 = .ok (.iadd, 1) := by decide +kernel
theorem dX5_init_130 : decode cX5_init 130 = .ok (.iconst (-1), 1) := by decide +kernel
theorem dX5_init_131 : decode cX5_init 131 = .ok (.iastore, 1) := by decide +kernel
theorem dX5_init_132 : decode cX5_init 132 = .ok (.iinc 2 1, 3) := by decide +kernel
theorem dX5_init_135 : decode cX5_init 135 = .ok (.goto (-21), 3) := by decide +kernel
theorem dX5_init_138 : decode cX5_init 138 = .ok (.aload_n 0, 1) := by decide +kernel
theorem dX5_init_139 : decode cX5_init 139 = .ok (.getfield 16, 3) := by decide +kernel
theorem dX5_init_142 : decode cX5_init 142 = .ok (.bipush 14, 2) := by decide +kernel
theorem dX5_init_144 : decode cX5_init 144 = .ok (.sipush 1000, 3) := by decide +kernel
theorem dX5_init_147 : decode cX5_init 147 = .ok (.iastore, 1) := by decide +kernel
theorem dX5_init_148 : decode cX5_init 148 = .ok (.aload_n 0, 1) := by decide +kernel
theorem dX5_init_149 : decode cX5_init 149 = .ok (.bipush 15, 2) := by decide +kernel
theorem dX5_init_151 : decode cX5_init 151 = .ok (.putfield 40, 3) := by decide +kernel
theorem dX5_init_154 : decode cX5_init 154 = .ok (.aload_n 0, 1) := by decide +kernel
theorem dX5_init_155 : decode cX5_init 155 = .ok (.iconst 1, 1) := by decide +kernel
theorem dX5_init_156 : decode cX5_init 156 = .ok (.invokevirtual 43, 3) := by decide +kernel
theorem dX5_init_159 : decode cX5_init 159 = .ok (.return_, 1) := by decide +kernel
theorem dX5_in_0 : decode cX5_in 0 = .ok (.lload_n 0, 1) := by decide +kernel
theorem dX5_in_1 : decode cX5_in 1 = .ok (.lload_n 2, 1) := by decide +kernel
theorem dX5_in_2 : decode cX5_in 2 = .ok (.lcmp, 1) := by decide +kernel
theorem dX5_in_3 : decode cX5_in 3 = .ok (.ifCond .lt 14, 3) := by decide +kernel
theorem dX5_in_6 : decode cX5_in 6 = .ok (.lload_n 0, 1) := by decide +kernel
theorem dX5_in_7 : decode cX5_in 7 = .ok (.lload 4, 2) := by decide +kernel
theorem dX5_in_9 : decode cX5_in 9 = .ok (.lcmp, 1) := by decide +kernel
theorem dX5_in_10 : decode cX5_in 10 = .ok (.ifCond .gt 7, 3) := by decide +kernel
theorem dX5_in_13 : decode cX5_in 13 = .ok (.iconst 1, 1) := by decide +kernel
theorem dX5_in_14 : decode cX5_in 14 = .ok (.goto 4, 3) := by decide +kernel
theorem dX5_in_17 : decode cX5_in 17 = .ok (.iconst 0, 1) := by decide +kernel
theorem dX5_in_18 : decode cX5_in 18 = .ok (.ireturn, 1) := by decide +kernel
theorem dX5_isMoney_0 : decode cX5_isMoney 0 = .ok (.iload_n 0, 1) := by decide +kernel
theorem dX5_isMoney_1 : decode cX5_isMoney 1 = .ok (.i2l, 1) := by decide +kernel
theorem dX5_isMoney_2 : decode cX5_isMoney 2 = .ok (.lconst 1, 1) := by decide +kernel
theorem dX5_isMoney_3 : decode cX5_isMoney 3 = .ok (.ldc2_w 50, 3) := by decide +kernel
theorem dX5_isMoney_6 : decode cX5_isMoney 6 = .ok (.invokestatic 52, 3) := by decide +kernel
theorem dX5_isMoney_9 : decode cX5_isMoney 9 = .ok (.ireturn, 1) := by decide +kernel
theorem dX5_isDone_0 : decode cX5_isDone 0 = .ok (.aload_n 0, 1) := by decide +kernel
theorem dX5_isDone_1 : decode cX5_isDone 1 = .ok (.getfield 32, 3) := by decide +kernel
theorem dX5_isDone_4 : decode cX5_isDone 4 = .ok (.ifCond .ne 15, 3) := by decide +kernel
theorem dX5_isDone_7 : decode cX5_isDone 7 = .ok (.aload_n 0, 1) := by decide +kernel
theorem dX5_isDone_8 : decode cX5_isDone 8 = .ok (.iconst (-1), 1) := by decide +kernel
theorem dX5_isDone_9 : decode cX5_isDone 9 = .ok (.putfield 32, 3) := by decide +kernel
theorem dX5_isDone_12 : decode cX5_isDone 12 = .ok (.aload_n 0, 1) := by decide +kernel
theorem dX5_isDone_13 : decode cX5_isDone 13 = .ok (.iconst 0, 1) := by decide +kernel
theorem dX5_isDone_14 : decode cX5_isDone 14 = .ok (.putfield 28, 3) := by decide +kernel
theorem dX5_isDone_17 : decode cX5_isDone 17 = .ok (.iconst 0, 1) := by decide +kernel
theorem dX5_isDone_18 : decode cX5_isDone 18 = .ok (.ireturn, 1) := by decide +kernel
theorem dX5_isDone_19 : decode cX5_isDone 19 = .ok (.aload_n 0, 1) := by decide +kernel
theorem dX5_isDone_20 : decode cX5_isDone 20 = .ok (.aload_n 0, 1) := by decide +kernel
theorem dX5_isDone_21 : decode cX5_isDone 21 = .ok (.getfield 32, 3) := by decide +kernel
theorem dX5_isDone_24 : decode cX5_isDone 24 = .ok (.ifCond .le 12, 3) := by decide +kernel
theorem dX5_isDone_27 : decode cX5_isDone 27 = .ok (.aload_n 0, 1) := by decide +kernel
theorem dX5_isDone_28 : decode cX5_isDone 28 = .ok (.getfield 32, 3) := by decide +kernel
theorem dX5_isDone_31 : decode cX5_isDone 31 = .ok (.iconst 1, 1) := by decide +kernel
theorem dX5_isDone_32 : decode cX5_isDone 32 = .ok (.isub, 1) := by decide +kernel
theorem dX5_isDone_33 : decode cX5_isDone 33 = .ok (.goto 7, 3) := by decide +kernel
theorem dX5_isDone_36 : decode cX5_isDone 36 = .ok (.aload_n 0, 1) := by decide +kernel
theorem dX5_isDone_37 : decode cX5_isDone 37 = .ok (.getfield 32, 3) := by decide +kernel
theorem dX5_isDone_40 : decode cX5_isDone 40 = .ok (.putfield 32, 3) := by decide +kernel
theorem dX5_isDone_43 : decode cX5_isDone 43 = .ok (.iconst 1, 1) := by decide +kernel
theorem dX5_isDone_44 : decode cX5_isDone 44 = .ok (.ireturn, 1) := by decide +kernel
theorem dX5_write_0 : decode cX5_write 0 = .ok (.aload_n 0, 1) := by decide +kernel
theorem dX5_write_1 : decode cX5_write 1 = .ok (.getfield 28, 3) := by decide +kernel
theorem dX5_write_4 : decode cX5_write 4 = .ok (.ifCond .eq 26, 3) := by decide +kernel
theorem dX5_write_7 : decode cX5_write 7 = .ok (.aload_n 0, 1) := by decide +kernel
theorem dX5_write_8 : decode cX5_write 8 = .ok (.invokevirtual 56, 3) := by decide +kernel
theorem dX5_write_11 : decode cX5_write 11 = .ok (.ifCond .eq 19, 3) := by decide +kernel
theorem dX5_write_14 : decode cX5_write 14 = .ok (.aload_n 0, 1) := by decide +kernel
theorem dX5_write_15 : decode cX5_write 15 = .ok (.getfield 7, 3) := by decide +kernel
theorem dX5_write_18 : decode cX5_write 18 = .ok (.sipush 256, 3) := by decide +kernel
theorem dX5_write_21 : decode cX5_write 21 = .ok (.aload_n 0, 1) := by decide +kernel
theorem dX5_write_22 : decode cX5_write 22 = .ok (.getfield 40, 3) := by decide +kernel
theorem dX5_write_25 : decode cX5_write 25 = .ok (.imul, 1) := by decide +kernel
theorem dX5_write_26 : decode cX5_write 26 = .ok (.iload_n 1, 1) := by decide +kernel
theorem dX5_write_27 : decode cX5_write 27 = .ok (.iadd, 1) := by decide +kernel
theorem dX5_write_28 : decode cX5_write 28 = .ok (.iload_n 2, 1) := by decide +kernel
theorem dX5_write_29 : decode cX5_write 29 = .ok (.iastore, 1) := by decide +kernel
theorem dX5_write_30 : decode cX5_write 30 = .ok (.return_, 1) := by decide +kernel
theorem dX5_erase_0 : decode cX5_erase 0 = .ok (.aload_n 0, 1) := by decide +kernel
theorem dX5_erase_1 : decode cX5_erase 1 = .ok (.getfield 28, 3) := by decide +kernel
theorem dX5_erase_4 : decode cX5_erase 4 = .ok (.ifCond .ne 4, 3) := by decide +kernel
theorem dX5_erase_7 : decode cX5_erase 7 = .ok (.return_, 1) := by decide +kernel
theorem dX5_erase_8 : decode cX5_erase 8 = .ok (.aload_n 0, 1) := by decide +kernel
theorem dX5_erase_9 : decode cX5_erase 9 = .ok (.getfield 13, 3) := by decide +kernel
theorem dX5_erase_12 : decode cX5_erase 12 = .ok (.iload_n 1, 1) := by decide +kernel
theorem dX5_erase_13 : decode cX5_erase 13 = .ok (.dup2, 1) := by decide +kernel
theorem dX5_erase_14 : decode cX5_erase 14 = .ok (.iaload, 1) := by decide +kernel
theorem dX5_erase_15 : decode cX5_erase 15 = .ok (.iconst 1, 1) := by decide +kernel
theorem dX5_erase_16 : decode cX5_erase 16 = .ok (.iadd, 1) := by decide +kernel
theorem dX5_erase_17 : decode cX5_erase 17 = .ok (.iastore, 1) := by decide +kernel
theorem dX5_erase_18 : decode cX5_erase 18 = .ok (.aload_n 0, 1) := by decide +kernel
theorem dX5_erase_19 : decode cX5_erase 19 = .ok (.invokevirtual 56, 3) := by decide +kernel
theorem dX5_erase_22 : decode cX5_erase 22 = .ok (.istore_n 2, 1) := by decide +kernel
theorem dX5_erase_23 : decode cX5_erase 23 = .ok (.iconst 0, 1) := by decide +kernel
theorem dX5_erase_24 : decode cX5_erase 24 = .ok (.istore_n 3, 1) := by decide +kernel
theorem dX5_erase_25 : decode cX5_erase 25 = .ok (.iload_n 3, 1) := by decide +kernel
theorem dX5_erase_26 : decode cX5_erase 26 = .ok (.sipush 256, 3) := by decide +kernel
theorem dX5_erase_29 : decode cX5_erase 29 = .ok (.if_icmp .ge 68, 3) := by decide +kernel
theorem dX5_erase_32 : decode cX5_erase 32 = .ok (.iload_n 2, 1) := by decide +kernel
theorem dX5_erase_33 : decode cX5_erase 33 = .ok (.ifCond .ne 22, 3) := by decide +kernel
theorem dX5_erase_36 : decode cX5_erase 36 = .ok (.aload_n 0, 1) := by decide +kernel
theorem dX5_erase_37 : decode cX5_erase 37 = .ok (.getfield 60, 3) := by decide +kernel
theorem dX5_erase_40 : decode cX5_erase 40 = .ok (.iload_n 3, 1) := by decide +kernel
theorem dX5_erase_41 : decode cX5_erase 41 = .ok (.bipush 32, 2) := by decide +kernel
theorem dX5_erase_43 : decode cX5_erase 43 = .ok (.irem, 1) := by decide +kernel
theorem dX5_erase_44 : decode cX5_erase 44 = .ok (.ishr, 1) := by decide +kernel
theorem dX5_erase_45 : decode cX5_erase 45 = .ok (.iconst 1, 1) := by decide +kernel
theorem dX5_erase_46 : decode cX5_erase 46 = .ok (.iand, 1) := by decide +kernel
theorem dX5_erase_47 : decode cX5_erase 47 = .ok (.iconst 1, 1) := by decide +kernel
theorem dX5_erase_48 : decode cX5_erase 48 = .ok (.if_icmp .ne 7, 3) := by decide +kernel
theorem dX5_erase_51 : decode cX5_erase 51 = .ok (.iconst 1, 1) := by decide +kernel
theorem dX5_erase_52 : decode cX5_erase 52 = .ok (.goto 4, 3) := by decide +kernel
theorem dX5_erase_55 : decode cX5_erase 55 = .ok (.iconst 0, 1) := by decide +kernel
theorem dX5_erase_56 : decode cX5_erase 56 = .ok (.istore 4, 2) := by decide +kernel
theorem dX5_erase_58 : decode cX5_erase 58 = .ok (.aload_n 0, 1) := by decide +kernel
theorem dX5_erase_59 : decode cX5_erase 59 = .ok (.getfield 7, 3) := by decide +kernel
theorem dX5_erase_62 : decode cX5_erase 62 = .ok (.sipush 256, 3) := by decide +kernel
theorem dX5_erase_65 : decode cX5_erase 65 = .ok (.iload_n 1, 1) := by decide +kernel
theorem dX5_erase_66 : decode cX5_erase 66 = .ok (.imul, 1) := by decide +kernel
theorem dX5_erase_67 : decode cX5_erase 67 = .ok (.iload_n 3, 1) := by decide +kernel
theorem dX5_erase_68 : decode cX5_erase 68 = .ok (.iadd, 1) := by decide +kernel
theorem dX5_erase_69 : decode cX5_erase 69 = .ok (.iload 4, 2) := by decide +kernel
theorem dX5_erase_71 : decode cX5_erase 71 = .ok (.ifCond .eq 18, 3) := by decide +kernel
theorem dX5_erase_74 : decode cX5_erase 74 = .ok (.aload_n 0, 1) := by decide +kernel
theorem dX5_erase_75 : decode cX5_erase 75 = .ok (.getfield 7, 3) := by decide +kernel
theorem dX5_erase_78 : decode cX5_erase 78 = .ok (.sipush 256, 3) := by decide +kernel
theorem dX5_erase_81 : decode cX5_erase 81 = .ok (.iload_n 1, 1) := by decide +kernel
theorem dX5_erase_82 : decode cX5_erase 82 = .ok (.imul, 1) := by decide +kernel
theorem dX5_erase_83 : decode cX5_erase 83 = .ok (.iload_n 3, 1) := by decide +kernel
theorem dX5_erase_84 : decode cX5_erase 84 = .ok (.iadd, 1) := by decide +kernel
theorem dX5_erase_85 : decode cX5_erase 85 = .ok (.iaload, 1) := by decide +kernel
theorem dX5_erase_86 : decode cX5_erase 86 = .ok (.goto 4, 3) := by decide +kernel
theorem dX5_erase_89 : decode cX5_erase 89 = .ok (.iconst (-1), 1) := by decide +kernel
theorem dX5_erase_90 : decode cX5_erase 90 = .ok (.iastore, 1) := by decide +kernel
theorem dX5_erase_91 : decode cX5_erase 91 = .ok (.iinc 3 1, 3) := by decide +kernel
theorem dX5_erase_94 : decode cX5_erase 94 = .ok (.goto (-69), 3) := by decide +kernel
theorem dX5_erase_97 : decode cX5_erase 97 = .ok (.return_, 1) := by decide +kernel
theorem dX5_marked_0 : decode cX5_marked 0 = .ok (.iload_n 0, 1) := by decide +kernel
theorem dX5_marked_1 : decode cX5_marked 1 = .ok (.ldc 63, 2) := by decide +kernel
theorem dX5_marked_3 : decode cX5_marked 3 = .ok (.ixor, 1) := by decide +kernel
theorem dX5_marked_4 : decode cX5_marked 4 = .ok (.istore_n 1, 1) := by decide +kernel
theorem dX5_marked_5 : decode cX5_marked 5 = .ok (.iload_n 1, 1) := by decide +kernel
theorem dX5_marked_6 : decode cX5_marked 6 = .ok (.iconst (-1), 1) := by decide +kernel
theorem dX5_marked_7 : decode cX5_marked 7 = .ok (.if_icmp .ne 7, 3) := by decide +kernel
theorem dX5_marked_10 : decode cX5_marked 10 = .ok (.iconst 0, 1) := by decide +kernel
theorem dX5_marked_11 : decode cX5_marked 11 = .ok (.goto 4, 3) := by decide +kernel
theorem dX5_marked_14 : decode cX5_marked 14 = .ok (.iload_n 1, 1) := by decide +kernel
theorem dX5_marked_15 : decode cX5_marked 15 = .ok (.ireturn, 1) := by decide +kernel
theorem dX5_markOf_0 : decode cX5_markOf 0 = .ok (.bipush 17, 2) := by decide +kernel
theorem dX5_markOf_2 : decode cX5_markOf 2 = .ok (.istore_n 3, 1) := by decide +kernel
theorem dX5_markOf_3 : decode cX5_markOf 3 = .ok (.iload_n 1, 1) := by decide +kernel
theorem dX5_markOf_4 : decode cX5_markOf 4 = .ok (.istore 4, 2) := by decide +kernel
theorem dX5_markOf_6 : decode cX5_markOf 6 = .ok (.iload 4, 2) := by decide +kernel
theorem dX5_markOf_8 : decode cX5_markOf 8 = .ok (.iload_n 1, 1) := by decide +kernel
theorem dX5_markOf_9 : decode cX5_markOf 9 = .ok (.iload_n 2, 1) := by decide +kernel
theorem dX5_markOf_10 : decode cX5_markOf 10 = .ok (.iadd, 1) := by decide +kernel
theorem dX5_markOf_11 : decode cX5_markOf 11 = .ok (.if_icmp .ge 22, 3) := by decide +kernel
theorem dX5_markOf_14 : decode cX5_markOf 14 = .ok (.bipush 31, 2) := by decide +kernel
theorem dX5_markOf_16 : decode cX5_markOf 16 = .ok (.iload_n 3, 1) := by decide +kernel
theorem dX5_markOf_17 : decode cX5_markOf 17 = .ok (.imul, 1) := by decide +kernel
theorem dX5_markOf_18 : decode cX5_markOf 18 = .ok (.aload_n 0, 1) := by decide +kernel
theorem dX5_markOf_19 : decode cX5_markOf 19 = .ok (.getfield 7, 3) := by decide +kernel
theorem dX5_markOf_22 : decode cX5_markOf 22 = .ok (.iload 4, 2) := by decide +kernel
theorem dX5_markOf_24 : decode cX5_markOf 24 = .ok (.iaload, 1) := by decide +kernel
theorem dX5_markOf_25 : decode cX5_markOf 25 = .ok (.iadd, 1) := by decide +kernel
theorem dX5_markOf_26 : decode cX5_markOf 26 = .ok (.istore_n 3, 1) := by decide +kernel
theorem dX5_markOf_27 : decode cX5_markOf 27 = .ok (.iinc 4 1, 3) := by decide +kernel
theorem dX5_markOf_30 : decode cX5_markOf 30 = .ok (.goto (-24), 3) := by decide +kernel
theorem dX5_markOf_33 : decode cX5_markOf 33 = .ok (.iload_n 3, 1) := by decide +kernel
theorem dX5_markOf_34 : decode cX5_markOf 34 = .ok (.invokestatic 64, 3) := by decide +kernel
theorem dX5_markOf_37 : decode cX5_markOf 37 = .ok (.ireturn, 1) := by decide +kernel
theorem dX5_begin_0 : decode cX5_begin 0 = .ok (.aload_n 0, 1) := by decide +kernel
theorem dX5_begin_1 : decode cX5_begin 1 = .ok (.aload_n 0, 1) := by decide +kernel
theorem dX5_begin_2 : decode cX5_begin 2 = .ok (.getfield 40, 3) := by decide +kernel
theorem dX5_begin_5 : decode cX5_begin 5 = .ok (.iconst 1, 1) := by decide +kernel
theorem dX5_begin_6 : decode cX5_begin 6 = .ok (.iadd, 1) := by decide +kernel
theorem dX5_begin_7 : decode cX5_begin 7 = .ok (.bipush 16, 2) := by decide +kernel
theorem dX5_begin_9 : decode cX5_begin 9 = .ok (.irem, 1) := by decide +kernel
theorem dX5_begin_10 : decode cX5_begin 10 = .ok (.putfield 40, 3) := by decide +kernel
theorem dX5_begin_13 : decode cX5_begin 13 = .ok (.aload_n 0, 1) := by decide +kernel
theorem dX5_begin_14 : decode cX5_begin 14 = .ok (.aload_n 0, 1) := by decide +kernel
theorem dX5_begin_15 : decode cX5_begin 15 = .ok (.getfield 40, 3) := by decide +kernel
theorem dX5_begin_18 : decode cX5_begin 18 = .ok (.invokevirtual 68, 3) := by decide +kernel
theorem dX5_begin_21 : decode cX5_begin 21 = .ok (.aload_n 0, 1) := by decide +kernel
theorem dX5_begin_22 : decode cX5_begin 22 = .ok (.iconst 0, 1) := by decide +kernel
theorem dX5_begin_23 : decode cX5_begin 23 = .ok (.putfield 71, 3) := by decide +kernel
theorem dX5_begin_26 : decode cX5_begin 26 = .ok (.bipush 31, 2) := by decide +kernel
theorem dX5_begin_28 : decode cX5_begin 28 = .ok (.sipush 527, 3) := by decide +kernel
theorem dX5_begin_31 : decode cX5_begin 31 = .ok (.iload_n 1, 1) := by decide +kernel
theorem dX5_begin_32 : decode cX5_begin 32 = .ok (.iadd, 1) := by decide +kernel
theorem dX5_begin_33 : decode cX5_begin 33 = .ok (.imul, 1) := by decide +kernel
theorem dX5_begin_34 : decode cX5_begin 34 = .ok (.aload_n 0, 1) := by decide +kernel
theorem dX5_begin_35 : decode cX5_begin 35 = .ok (.getfield 74, 3) := by decide +kernel
theorem dX5_begin_38 : decode cX5_begin 38 = .ok (.iadd, 1) := by decide +kernel
theorem dX5_begin_39 : decode cX5_begin 39 = .ok (.istore_n 2, 1) := by decide +kernel
theorem dX5_begin_40 : decode cX5_begin 40 = .ok (.aload_n 0, 1) := by decide +kernel
theorem dX5_begin_41 : decode cX5_begin 41 = .ok (.iconst 0, 1) := by decide +kernel
theorem dX5_begin_42 : decode cX5_begin 42 = .ok (.iload_n 1, 1) := by decide +kernel
theorem dX5_begin_43 : decode cX5_begin 43 = .ok (.invokevirtual 77, 3) := by decide +kernel
theorem dX5_begin_46 : decode cX5_begin 46 = .ok (.aload_n 0, 1) := by decide +kernel
theorem dX5_begin_47 : decode cX5_begin 47 = .ok (.iconst 1, 1) := by decide +kernel
theorem dX5_begin_48 : decode cX5_begin 48 = .ok (.aload_n 0, 1) := by decide +kernel
theorem dX5_begin_49 : decode cX5_begin 49 = .ok (.getfield 74, 3) := by decide +kernel
theorem dX5_begin_52 : decode cX5_begin 52 = .ok (.invokevirtual 77, 3) := by decide +kernel
theorem dX5_begin_55 : decode cX5_begin 55 = .ok (.iconst 2, 1) := by decide +kernel
theorem dX5_begin_56 : decode cX5_begin 56 = .ok (.istore_n 3, 1) := by decide +kernel
theorem dX5_begin_57 : decode cX5_begin 57 = .ok (.iload_n 3, 1) := by decide +kernel
theorem dX5_begin_58 : decode cX5_begin 58 = .ok (.sipush 193, 3) := by decide +kernel
theorem dX5_begin_61 : decode cX5_begin 61 = .ok (.if_icmp .ge 32, 3) := by decide +kernel
theorem dX5_begin_64 : decode cX5_begin 64 = .ok (.aload_n 0, 1) := by decide +kernel
theorem dX5_begin_65 : decode cX5_begin 65 = .ok (.iload_n 3, 1) := by decide +kernel
theorem dX5_begin_66 : decode cX5_begin 66 = .ok (.aload_n 0, 1) := by decide +kernel
theorem dX5_begin_67 : decode cX5_begin 67 = .ok (.getfield 16, 3) := by decide +kernel
theorem dX5_begin_70 : decode cX5_begin 70 = .ok (.iload_n 3, 1) := by decide +kernel
theorem dX5_begin_71 : decode cX5_begin 71 = .ok (.iaload, 1) := by decide +kernel
theorem dX5_begin_72 : decode cX5_begin 72 = .ok (.invokevirtual 77, 3) := by decide +kernel
theorem dX5_begin_75 : decode cX5_begin 75 = .ok (.bipush 31, 2) := by decide +kernel
theorem dX5_begin_77 : decode cX5_begin 77 = .ok (.iload_n 2, 1) := by decide +kernel
theorem dX5_begin_78 : decode cX5_begin 78 = .ok (.imul, 1) := by decide +kernel
theorem dX5_begin_79 : decode cX5_begin 79 = .ok (.aload_n 0, 1) := by decide +kernel
theorem dX5_begin_80 : decode cX5_begin 80 = .ok (.getfield 16, 3) := by decide +kernel
theorem dX5_begin_83 : decode cX5_begin 83 = .ok (.iload_n 3, 1) := by decide +kernel
theorem dX5_begin_84 : decode cX5_begin 84 = .ok (.iaload, 1) := by decide +kernel
theorem dX5_begin_85 : decode cX5_begin 85 = .ok (.iadd, 1) := by decide +kernel
theorem dX5_begin_86 : decode cX5_begin 86 = .ok (.istore_n 2, 1) := by decide +kernel
theorem dX5_begin_87 : decode cX5_begin 87 = .ok (.iinc 3 1, 3) := by decide +kernel
theorem dX5_begin_90 : decode cX5_begin 90 = .ok (.goto (-33), 3) := by decide +kernel
theorem dX5_begin_93 : decode cX5_begin 93 = .ok (.aload_n 0, 1) := by decide +kernel
theorem dX5_begin_94 : decode cX5_begin 94 = .ok (.sipush 193, 3) := by decide +kernel
theorem dX5_begin_97 : decode cX5_begin 97 = .ok (.iload_n 2, 1) := by decide +kernel
theorem dX5_begin_98 : decode cX5_begin 98 = .ok (.invokestatic 64, 3) := by decide +kernel
theorem dX5_begin_101 : decode cX5_begin 101 = .ok (.invokevirtual 77, 3) := by decide +kernel
theorem dX5_begin_104 : decode cX5_begin 104 = .ok (.return_, 1) := by decide +kernel
theorem dX5_isFree_0 : decode cX5_isFree 0 = .ok (.iconst 1, 1) := by decide +kernel
theorem dX5_isFree_1 : decode cX5_isFree 1 = .ok (.istore_n 2, 1) := by decide +kernel
theorem dX5_isFree_2 : decode cX5_isFree 2 = .ok (.iconst 0, 1) := by decide +kernel
theorem dX5_isFree_3 : decode cX5_isFree 3 = .ok (.istore_n 3, 1) := by decide +kernel
theorem dX5_isFree_4 : decode cX5_isFree 4 = .ok (.iload_n 3, 1) := by decide +kernel
theorem dX5_isFree_5 : decode cX5_isFree 5 = .ok (.iconst 5, 1) := by decide +kernel
theorem dX5_isFree_6 : decode cX5_isFree 6 = .ok (.if_icmp .ge 40, 3) := by decide +kernel
theorem dX5_isFree_9 : decode cX5_isFree 9 = .ok (.iload_n 2, 1) := by decide +kernel
theorem dX5_isFree_10 : decode cX5_isFree 10 = .ok (.ifCond .eq 28, 3) := by decide +kernel
theorem dX5_isFree_13 : decode cX5_isFree 13 = .ok (.aload_n 0, 1) := by decide +kernel
theorem dX5_isFree_14 : decode cX5_isFree 14 = .ok (.getfield 7, 3) := by decide +kernel
theorem dX5_isFree_17 : decode cX5_isFree 17 = .ok (.sipush 256, 3) := by decide +kernel
theorem dX5_isFree_20 : decode cX5_isFree 20 = .ok (.aload_n 0, 1) := by decide +kernel
theorem dX5_isFree_21 : decode cX5_isFree 21 = .ok (.getfield 40, 3) := by decide +kernel
theorem dX5_isFree_24 : decode cX5_isFree 24 = .ok (.imul, 1) := by decide +kernel
theorem dX5_isFree_25 : decode cX5_isFree 25 = .ok (.iload_n 1, 1) := by decide +kernel
theorem dX5_isFree_26 : decode cX5_isFree 26 = .ok (.iadd, 1) := by decide +kernel
theorem dX5_isFree_27 : decode cX5_isFree 27 = .ok (.iload_n 3, 1) := by decide +kernel
theorem dX5_isFree_28 : decode cX5_isFree 28 = .ok (.iadd, 1) := by decide +kernel
theorem dX5_isFree_29 : decode cX5_isFree 29 = .ok (.iaload, 1) := by decide +kernel
theorem dX5_isFree_30 : decode cX5_isFree 30 = .ok (.iconst (-1), 1) := by decide +kernel
theorem dX5_isFree_31 : decode cX5_isFree 31 = .ok (.if_icmp .ne 7, 3) := by decide +kernel
theorem dX5_isFree_34 : decode cX5_isFree 34 = .ok (.iconst 1, 1) := by decide +kernel
theorem dX5_isFree_35 : decode cX5_isFree 35 = .ok (.goto 4, 3) := by decide +kernel
theorem dX5_isFree_38 : decode cX5_isFree 38 = .ok (.iconst 0, 1) := by decide +kernel
theorem dX5_isFree_39 : decode cX5_isFree 39 = .ok (.istore_n 2, 1) := by decide +kernel
theorem dX5_isFree_40 : decode cX5_isFree 40 = .ok (.iinc 3 1, 3) := by decide +kernel
theorem dX5_isFree_43 : decode cX5_isFree 43 = .ok (.goto (-39), 3) := by decide +kernel
theorem dX5_isFree_46 : decode cX5_isFree 46 = .ok (.iload_n 2, 1) := by decide +kernel
theorem dX5_isFree_47 : decode cX5_isFree 47 = .ok (.ireturn, 1) := by decide +kernel
theorem dX5_put_0 : decode cX5_put 0 = .ok (.aload_n 0, 1) := by decide +kernel
theorem dX5_put_1 : decode cX5_put 1 = .ok (.getfield 71, 3) := by decide +kernel
theorem dX5_put_4 : decode cX5_put 4 = .ok (.bipush 12, 2) := by decide +kernel
theorem dX5_put_6 : decode cX5_put 6 = .ok (.if_icmp .eq 20, 3) := by decide +kernel
theorem dX5_put_9 : decode cX5_put 9 = .ok (.aload_n 0, 1) := by decide +kernel
theorem dX5_put_10 : decode cX5_put 10 = .ok (.sipush 194, 3) := by decide +kernel
theorem dX5_put_13 : decode cX5_put 13 = .ok (.iconst 5, 1) := by decide +kernel
theorem dX5_put_14 : decode cX5_put 14 = .ok (.aload_n 0, 1) := by decide +kernel
theorem dX5_put_15 : decode cX5_put 15 = .ok (.getfield 71, 3) := by decide +kernel
theorem dX5_put_18 : decode cX5_put 18 = .ok (.imul, 1) := by decide +kernel
theorem dX5_put_19 : decode cX5_put 19 = .ok (.iadd, 1) := by decide +kernel
theorem dX5_put_20 : decode cX5_put 20 = .ok (.invokevirtual 81, 3) := by decide +kernel
theorem dX5_put_23 : decode cX5_put 23 = .ok (.ifCond .ne 22, 3) := by decide +kernel
theorem dX5_put_26 : decode cX5_put 26 = .ok (.aload_n 0, 1) := by decide +kernel
theorem dX5_put_27 : decode cX5_put 27 = .ok (.aload_n 0, 1) := by decide +kernel
theorem dX5_put_28 : decode cX5_put 28 = .ok (.getfield 7, 3) := by decide +kernel
theorem dX5_put_31 : decode cX5_put 31 = .ok (.sipush 256, 3) := by decide +kernel
theorem dX5_put_34 : decode cX5_put 34 = .ok (.aload_n 0, 1) := by decide +kernel
theorem dX5_put_35 : decode cX5_put 35 = .ok (.getfield 40, 3) := by decide +kernel
theorem dX5_put_38 : decode cX5_put 38 = .ok (.imul, 1) := by decide +kernel
theorem dX5_put_39 : decode cX5_put 39 = .ok (.iaload, 1) := by decide +kernel
theorem dX5_put_40 : decode cX5_put 40 = .ok (.iconst 1, 1) := by decide +kernel
theorem dX5_put_41 : decode cX5_put 41 = .ok (.iadd, 1) := by decide +kernel
theorem dX5_put_42 : decode cX5_put 42 = .ok (.invokevirtual 43, 3) := by decide +kernel
theorem dX5_put_45 : decode cX5_put 45 = .ok (.sipush 194, 3) := by decide +kernel
theorem dX5_put_48 : decode cX5_put 48 = .ok (.iconst 5, 1) := by decide +kernel
theorem dX5_put_49 : decode cX5_put 49 = .ok (.aload_n 0, 1) := by decide +kernel
theorem dX5_put_50 : decode cX5_put 50 = .ok (.getfield 71, 3) := by decide +kernel
theorem dX5_put_53 : decode cX5_put 53 = .ok (.imul, 1) := by decide +kernel
theorem dX5_put_54 : decode cX5_put 54 = .ok (.iadd, 1) := by decide +kernel
theorem dX5_put_55 : decode cX5_put 55 = .ok (.istore 4, 2) := by decide +kernel
theorem dX5_put_57 : decode cX5_put 57 = .ok (.aload_n 0, 1) := by decide +kernel
theorem dX5_put_58 : decode cX5_put 58 = .ok (.getfield 19, 3) := by decide +kernel
theorem dX5_put_61 : decode cX5_put 61 = .ok (.iconst 0, 1) := by decide +kernel
theorem dX5_put_62 : decode cX5_put 62 = .ok (.aload_n 0, 1) := by decide +kernel
theorem dX5_put_63 : decode cX5_put 63 = .ok (.getfield 74, 3) := by decide +kernel
theorem dX5_put_66 : decode cX5_put 66 = .ok (.iconst 1, 1) := by decide +kernel
theorem dX5_put_67 : decode cX5_put 67 = .ok (.iadd, 1) := by decide +kernel
theorem dX5_put_68 : decode cX5_put 68 = .ok (.iastore, 1) := by decide +kernel
theorem dX5_put_69 : decode cX5_put 69 = .ok (.aload_n 0, 1) := by decide +kernel
theorem dX5_put_70 : decode cX5_put 70 = .ok (.getfield 19, 3) := by decide +kernel
theorem dX5_put_73 : decode cX5_put 73 = .ok (.iconst 1, 1) := by decide +kernel
theorem dX5_put_74 : decode cX5_put 74 = .ok (.iload_n 1, 1) := by decide +kernel
theorem dX5_put_75 : decode cX5_put 75 = .ok (.iastore, 1) := by decide +kernel
theorem dX5_put_76 : decode cX5_put 76 = .ok (.aload_n 0, 1) := by decide +kernel
theorem dX5_put_77 : decode cX5_put 77 = .ok (.getfield 19, 3) := by decide +kernel
theorem dX5_put_80 : decode cX5_put 80 = .ok (.iconst 2, 1) := by decide +kernel
theorem dX5_put_81 : decode cX5_put 81 = .ok (.iload_n 2, 1) := by decide +kernel
theorem dX5_put_82 : decode cX5_put 82 = .ok (.iastore, 1) := by decide +kernel
theorem dX5_put_83 : decode cX5_put 83 = .ok (.aload_n 0, 1) := by decide +kernel
theorem dX5_put_84 : decode cX5_put 84 = .ok (.getfield 19, 3) := by decide +kernel
theorem dX5_put_87 : decode cX5_put 87 = .ok (.iconst 3, 1) := by decide +kernel
theorem dX5_put_88 : decode cX5_put 88 = .ok (.iload_n 3, 1) := by decide +kernel
theorem dX5_put_89 : decode cX5_put 89 = .ok (.iastore, 1) := by decide +kernel
theorem dX5_put_90 : decode cX5_put 90 = .ok (.bipush 17, 2) := by decide +kernel
theorem dX5_put_92 : decode cX5_put 92 = .ok (.istore 5, 2) := by decide +kernel
theorem dX5_put_94 : decode cX5_put 94 = .ok (.iconst 0, 1) := by decide +kernel
theorem dX5_put_95 : decode cX5_put 95 = .ok (.istore 6, 2) := by decide +kernel
theorem dX5_put_97 : decode cX5_put 97 = .ok (.iload 6, 2) := by decide +kernel
theorem dX5_put_99 : decode cX5_put 99 = .ok (.iconst 4, 1) := by decide +kernel
theorem dX5_put_100 : decode cX5_put 100 = .ok (.if_icmp .ge 24, 3) := by decide +kernel
theorem dX5_put_103 : decode cX5_put 103 = .ok (.bipush 31, 2) := by decide +kernel
theorem dX5_put_105 : decode cX5_put 105 = .ok (.iload 5, 2) := by decide +kernel
theorem dX5_put_107 : decode cX5_put 107 = .ok (.imul, 1) := by decide +kernel
theorem dX5_put_108 : decode cX5_put 108 = .ok (.aload_n 0, 1) := by decide +kernel
theorem dX5_put_109 : decode cX5_put 109 = .ok (.getfield 19, 3) := by decide +kernel
theorem dX5_put_112 : decode cX5_put 112 = .ok (.iload 6, 2) := by decide +kernel
theorem dX5_put_114 : decode cX5_put 114 = .ok (.iaload, 1) := by decide +kernel
theorem dX5_put_115 : decode cX5_put 115 = .ok (.iadd, 1) := by decide +kernel
theorem dX5_put_116 : decode cX5_put 116 = .ok (.istore 5, 2) := by decide +kernel
theorem dX5_put_118 : decode cX5_put 118 = .ok (.iinc 6 1, 3) := by decide +kernel
theorem dX5_put_121 : decode cX5_put 121 = .ok (.goto (-24), 3) := by decide +kernel
theorem dX5_put_124 : decode cX5_put 124 = .ok (.aload_n 0, 1) := by decide +kernel
theorem dX5_put_125 : decode cX5_put 125 = .ok (.getfield 19, 3) := by decide +kernel
theorem dX5_put_128 : decode cX5_put 128 = .ok (.iconst 4, 1) := by decide +kernel
theorem dX5_put_129 : decode cX5_put 129 = .ok (.iload 5, 2) := by decide +kernel
theorem dX5_put_131 : decode cX5_put 131 = .ok (.invokestatic 64, 3) := by decide +kernel
theorem dX5_put_134 : decode cX5_put 134 = .ok (.iastore, 1) := by decide +kernel
theorem dX5_put_135 : decode cX5_put 135 = .ok (.iconst 0, 1) := by decide +kernel
theorem dX5_put_136 : decode cX5_put 136 = .ok (.istore 6, 2) := by decide +kernel
theorem dX5_put_138 : decode cX5_put 138 = .ok (.iload 6, 2) := by decide +kernel
theorem dX5_put_140 : decode cX5_put 140 = .ok (.iconst 5, 1) := by decide +kernel
theorem dX5_put_141 : decode cX5_put 141 = .ok (.if_icmp .ge 25, 3) := by decide +kernel
theorem dX5_put_144 : decode cX5_put 144 = .ok (.aload_n 0, 1) := by decide +kernel
theorem dX5_put_145 : decode cX5_put 145 = .ok (.iload 4, 2) := by decide +kernel
theorem dX5_put_147 : decode cX5_put 147 = .ok (.iload 6, 2) := by decide +kernel
theorem dX5_put_149 : decode cX5_put 149 = .ok (.iadd, 1) := by decide +kernel
theorem dX5_put_150 : decode cX5_put 150 = .ok (.aload_n 0, 1) := by decide +kernel
theorem dX5_put_151 : decode cX5_put 151 = .ok (.getfield 19, 3) := by decide +kernel
theorem dX5_put_154 : decode cX5_put 154 = .ok (.iload 6, 2) := by decide +kernel
theorem dX5_put_156 : decode cX5_put 156 = .ok (.iaload, 1) := by decide +kernel
theorem dX5_put_157 : decode cX5_put 157 = .ok (.invokevirtual 77, 3) := by decide +kernel
theorem dX5_put_160 : decode cX5_put 160 = .ok (.iinc 6 1, 3) := by decide +kernel
theorem dX5_put_163 : decode cX5_put 163 = .ok (.goto (-25), 3) := by decide +kernel
theorem dX5_put_166 : decode cX5_put 166 = .ok (.aload_n 0, 1) := by decide +kernel
theorem dX5_put_167 : decode cX5_put 167 = .ok (.getfield 28, 3) := by decide +kernel
theorem dX5_put_170 : decode cX5_put 170 = .ok (.ifCond .eq 30, 3) := by decide +kernel
theorem dX5_put_173 : decode cX5_put 173 = .ok (.aload_n 0, 1) := by decide +kernel
theorem dX5_put_174 : decode cX5_put 174 = .ok (.iload_n 1, 1) := by decide +kernel
theorem dX5_put_175 : decode cX5_put 175 = .ok (.iload_n 2, 1) := by decide +kernel
theorem dX5_put_176 : decode cX5_put 176 = .ok (.iload_n 3, 1) := by decide +kernel
theorem dX5_put_177 : decode cX5_put 177 = .ok (.invokevirtual 85, 3) := by decide +kernel
theorem dX5_put_180 : decode cX5_put 180 = .ok (.aload_n 0, 1) := by decide +kernel
theorem dX5_put_181 : decode cX5_put 181 = .ok (.dup, 1) := by decide +kernel
theorem dX5_put_182 : decode cX5_put 182 = .ok (.getfield 71, 3) := by decide +kernel
theorem dX5_put_185 : decode cX5_put 185 = .ok (.iconst 1, 1) := by decide +kernel
theorem dX5_put_186 : decode cX5_put 186 = .ok (.iadd, 1) := by decide +kernel
theorem dX5_put_187 : decode cX5_put 187 = .ok (.putfield 71, 3) := by decide +kernel
theorem dX5_put_190 : decode cX5_put 190 = .ok (.aload_n 0, 1) := by decide +kernel
theorem dX5_put_191 : decode cX5_put 191 = .ok (.dup, 1) := by decide +kernel
theorem dX5_put_192 : decode cX5_put 192 = .ok (.getfield 74, 3) := by decide +kernel
theorem dX5_put_195 : decode cX5_put 195 = .ok (.iconst 1, 1) := by decide +kernel
theorem dX5_put_196 : decode cX5_put 196 = .ok (.iadd, 1) := by decide +kernel
theorem dX5_put_197 : decode cX5_put 197 = .ok (.putfield 74, 3) := by decide +kernel
theorem dX5_put_200 : decode cX5_put 200 = .ok (.aload_n 0, 1) := by decide +kernel
theorem dX5_put_201 : decode cX5_put 201 = .ok (.getfield 28, 3) := by decide +kernel
theorem dX5_put_204 : decode cX5_put 204 = .ok (.ireturn, 1) := by decide +kernel
theorem dX5_sum_0 : decode cX5_sum 0 = .ok (.aload_n 0, 1) := by decide +kernel
theorem dX5_sum_1 : decode cX5_sum 1 = .ok (.getfield 16, 3) := by decide +kernel
theorem dX5_sum_4 : decode cX5_sum 4 = .ok (.iload_n 1, 1) := by decide +kernel
theorem dX5_sum_5 : decode cX5_sum 5 = .ok (.iaload, 1) := by decide +kernel
theorem dX5_sum_6 : decode cX5_sum 6 = .ok (.i2l, 1) := by decide +kernel
theorem dX5_sum_7 : decode cX5_sum 7 = .ok (.ldc2_w 89, 3) := by decide +kernel
theorem dX5_sum_10 : decode cX5_sum 10 = .ok (.land, 1) := by decide +kernel
theorem dX5_sum_11 : decode cX5_sum 11 = .ok (.aload_n 0, 1) := by decide +kernel
theorem dX5_sum_12 : decode cX5_sum 12 = .ok (.getfield 16, 3) := by decide +kernel
theorem dX5_sum_15 : decode cX5_sum 15 = .ok (.iload_n 1, 1) := by decide +kernel
theorem dX5_sum_16 : decode cX5_sum 16 = .ok (.iconst 1, 1) := by decide +kernel
theorem dX5_sum_17 : decode cX5_sum 17 = .ok (.iadd, 1) := by decide +kernel
theorem dX5_sum_18 : decode cX5_sum 18 = .ok (.iaload, 1) := by decide +kernel
theorem dX5_sum_19 : decode cX5_sum 19 = .ok (.i2l, 1) := by decide +kernel
theorem dX5_sum_20 : decode cX5_sum 20 = .ok (.bipush 32, 2) := by decide +kernel
theorem dX5_sum_22 : decode cX5_sum 22 = .ok (.lshl, 1) := by decide +kernel
theorem dX5_sum_23 : decode cX5_sum 23 = .ok (.ladd, 1) := by decide +kernel
theorem dX5_sum_24 : decode cX5_sum 24 = .ok (.lreturn, 1) := by decide +kernel
theorem dX5_more_0 : decode cX5_more 0 = .ok (.aload_n 0, 1) := by decide +kernel
theorem dX5_more_1 : decode cX5_more 1 = .ok (.iload_n 1, 1) := by decide +kernel
theorem dX5_more_2 : decode cX5_more 2 = .ok (.invokevirtual 91, 3) := by decide +kernel
theorem dX5_more_5 : decode cX5_more 5 = .ok (.lload_n 2, 1) := by decide +kernel
theorem dX5_more_6 : decode cX5_more 6 = .ok (.ladd, 1) := by decide +kernel
theorem dX5_more_7 : decode cX5_more 7 = .ok (.lstore 4, 2) := by decide +kernel
theorem dX5_more_9 : decode cX5_more 9 = .ok (.aload_n 0, 1) := by decide +kernel
theorem dX5_more_10 : decode cX5_more 10 = .ok (.getfield 16, 3) := by decide +kernel
theorem dX5_more_13 : decode cX5_more 13 = .ok (.iload_n 1, 1) := by decide +kernel
theorem dX5_more_14 : decode cX5_more 14 = .ok (.lload 4, 2) := by decide +kernel
theorem dX5_more_16 : decode cX5_more 16 = .ok (.l2i, 1) := by decide +kernel
theorem dX5_more_17 : decode cX5_more 17 = .ok (.iastore, 1) := by decide +kernel
theorem dX5_more_18 : decode cX5_more 18 = .ok (.aload_n 0, 1) := by decide +kernel
theorem dX5_more_19 : decode cX5_more 19 = .ok (.getfield 16, 3) := by decide +kernel
theorem dX5_more_22 : decode cX5_more 22 = .ok (.iload_n 1, 1) := by decide +kernel
theorem dX5_more_23 : decode cX5_more 23 = .ok (.iconst 1, 1) := by decide +kernel
theorem dX5_more_24 : decode cX5_more 24 = .ok (.iadd, 1) := by decide +kernel
theorem dX5_more_25 : decode cX5_more 25 = .ok (.lload 4, 2) := by decide +kernel
theorem dX5_more_27 : decode cX5_more 27 = .ok (.bipush 32, 2) := by decide +kernel
theorem dX5_more_29 : decode cX5_more 29 = .ok (.lshr, 1) := by decide +kernel
theorem dX5_more_30 : decode cX5_more 30 = .ok (.l2i, 1) := by decide +kernel
theorem dX5_more_31 : decode cX5_more 31 = .ok (.iastore, 1) := by decide +kernel
theorem dX5_more_32 : decode cX5_more 32 = .ok (.return_, 1) := by decide +kernel
theorem dX5_act_0 : decode cX5_act 0 = .ok (.iload_n 1, 1) := by decide +kernel
theorem dX5_act_1 : decode cX5_act 1 = .ok (.tableswitch 219 1 8 #[47, 63, 74, 128, 157, 186, 197, 208], 47) := by decide +kernel
theorem dX5_act_48 : decode cX5_act 48 = .ok (.aload_n 0, 1) := by decide +kernel
theorem dX5_act_49 : decode cX5_act 49 = .ok (.iload_n 2, 1) := by decide +kernel
theorem dX5_act_50 : decode cX5_act 50 = .ok (.iload_n 3, 1) := by decide +kernel
theorem dX5_act_51 : decode cX5_act 51 = .ok (.bipush 16, 2) := by decide +kernel
theorem dX5_act_53 : decode cX5_act 53 = .ok (.irem, 1) := by decide +kernel
theorem dX5_act_54 : decode cX5_act 54 = .ok (.iload_n 3, 1) := by decide +kernel
theorem dX5_act_55 : decode cX5_act 55 = .ok (.bipush 16, 2) := by decide +kernel
theorem dX5_act_57 : decode cX5_act 57 = .ok (.idiv, 1) := by decide +kernel
theorem dX5_act_58 : decode cX5_act 58 = .ok (.invokevirtual 95, 3) := by decide +kernel
theorem dX5_act_61 : decode cX5_act 61 = .ok (.goto 167, 3) := by decide +kernel
theorem dX5_act_64 : decode cX5_act 64 = .ok (.aload_n 0, 1) := by decide +kernel
theorem dX5_act_65 : decode cX5_act 65 = .ok (.getfield 16, 3) := by decide +kernel
theorem dX5_act_68 : decode cX5_act 68 = .ok (.bipush 16, 2) := by decide +kernel
theorem dX5_act_70 : decode cX5_act 70 = .ok (.iconst 0, 1) := by decide +kernel
theorem dX5_act_71 : decode cX5_act 71 = .ok (.iastore, 1) := by decide +kernel
theorem dX5_act_72 : decode cX5_act 72 = .ok (.goto 156, 3) := by decide +kernel
theorem dX5_act_75 : decode cX5_act 75 = .ok (.aload_n 0, 1) := by decide +kernel
theorem dX5_act_76 : decode cX5_act 76 = .ok (.iconst 4, 1) := by decide +kernel
theorem dX5_act_77 : decode cX5_act 77 = .ok (.iload_n 2, 1) := by decide +kernel
theorem dX5_act_78 : decode cX5_act 78 = .ok (.ifCond .ne 14, 3) := by decide +kernel
theorem dX5_act_81 : decode cX5_act 81 = .ok (.aload_n 0, 1) := by decide +kernel
theorem dX5_act_82 : decode cX5_act 82 = .ok (.getfield 16, 3) := by decide +kernel
theorem dX5_act_85 : decode cX5_act 85 = .ok (.bipush 16, 2) := by decide +kernel
theorem dX5_act_87 : decode cX5_act 87 = .ok (.iaload, 1) := by decide +kernel
theorem dX5_act_88 : decode cX5_act 88 = .ok (.i2l, 1) := by decide +kernel
theorem dX5_act_89 : decode cX5_act 89 = .ok (.goto 4, 3) := by decide +kernel
theorem dX5_act_92 : decode cX5_act 92 = .ok (.lconst 0, 1) := by decide +kernel
theorem dX5_act_93 : decode cX5_act 93 = .ok (.invokevirtual 98, 3) := by decide +kernel
theorem dX5_act_96 : decode cX5_act 96 = .ok (.aload_n 0, 1) := by decide +kernel
theorem dX5_act_97 : decode cX5_act 97 = .ok (.bipush 8, 2) := by decide +kernel
theorem dX5_act_99 : decode cX5_act 99 = .ok (.iload_n 2, 1) := by decide +kernel
theorem dX5_act_100 : decode cX5_act 100 = .ok (.ifCond .ne 14, 3) := by decide +kernel
theorem dX5_act_103 : decode cX5_act 103 = .ok (.aload_n 0, 1) := by decide +kernel
theorem dX5_act_104 : decode cX5_act 104 = .ok (.getfield 16, 3) := by decide +kernel
theorem dX5_act_107 : decode cX5_act 107 = .ok (.bipush 16, 2) := by decide +kernel
theorem dX5_act_109 : decode cX5_act 109 = .ok (.iaload, 1) := by decide +kernel
theorem dX5_act_110 : decode cX5_act 110 = .ok (.i2l, 1) := by decide +kernel
theorem dX5_act_111 : decode cX5_act 111 = .ok (.goto 4, 3) := by decide +kernel
theorem dX5_act_114 : decode cX5_act 114 = .ok (.lconst 0, 1) := by decide +kernel
theorem dX5_act_115 : decode cX5_act 115 = .ok (.invokevirtual 98, 3) := by decide +kernel
theorem dX5_act_118 : decode cX5_act 118 = .ok (.aload_n 0, 1) := by decide +kernel
theorem dX5_act_119 : decode cX5_act 119 = .ok (.getfield 16, 3) := by decide +kernel
theorem dX5_act_122 : decode cX5_act 122 = .ok (.bipush 16, 2) := by decide +kernel
theorem dX5_act_124 : decode cX5_act 124 = .ok (.iconst 0, 1) := by decide +kernel
theorem dX5_act_125 : decode cX5_act 125 = .ok (.iastore, 1) := by decide +kernel
theorem dX5_act_126 : decode cX5_act 126 = .ok (.goto 102, 3) := by decide +kernel
theorem dX5_act_129 : decode cX5_act 129 = .ok (.aload_n 0, 1) := by decide +kernel
theorem dX5_act_130 : decode cX5_act 130 = .ok (.iconst 4, 1) := by decide +kernel
theorem dX5_act_131 : decode cX5_act 131 = .ok (.iload_n 2, 1) := by decide +kernel
theorem dX5_act_132 : decode cX5_act 132 = .ok (.i2l, 1) := by decide +kernel
theorem dX5_act_133 : decode cX5_act 133 = .ok (.invokevirtual 98, 3) := by decide +kernel
theorem dX5_act_136 : decode cX5_act 136 = .ok (.aload_n 0, 1) := by decide +kernel
theorem dX5_act_137 : decode cX5_act 137 = .ok (.bipush 6, 2) := by decide +kernel
theorem dX5_act_139 : decode cX5_act 139 = .ok (.iload_n 2, 1) := by decide +kernel
theorem dX5_act_140 : decode cX5_act 140 = .ok (.i2l, 1) := by decide +kernel
theorem dX5_act_141 : decode cX5_act 141 = .ok (.invokevirtual 98, 3) := by decide +kernel
theorem dX5_act_144 : decode cX5_act 144 = .ok (.aload_n 0, 1) := by decide +kernel
theorem dX5_act_145 : decode cX5_act 145 = .ok (.getfield 16, 3) := by decide +kernel
theorem dX5_act_148 : decode cX5_act 148 = .ok (.bipush 12, 2) := by decide +kernel
theorem dX5_act_150 : decode cX5_act 150 = .ok (.dup2, 1) := by decide +kernel
theorem dX5_act_151 : decode cX5_act 151 = .ok (.iaload, 1) := by decide +kernel
theorem dX5_act_152 : decode cX5_act 152 = .ok (.iconst 1, 1) := by decide +kernel
theorem dX5_act_153 : decode cX5_act 153 = .ok (.iadd, 1) := by decide +kernel
theorem dX5_act_154 : decode cX5_act 154 = .ok (.iastore, 1) := by decide +kernel
theorem dX5_act_155 : decode cX5_act 155 = .ok (.goto 73, 3) := by decide +kernel
theorem dX5_act_158 : decode cX5_act 158 = .ok (.aload_n 0, 1) := by decide +kernel
theorem dX5_act_159 : decode cX5_act 159 = .ok (.iconst 4, 1) := by decide +kernel
theorem dX5_act_160 : decode cX5_act 160 = .ok (.iload_n 2, 1) := by decide +kernel
theorem dX5_act_161 : decode cX5_act 161 = .ok (.i2l, 1) := by decide +kernel
theorem dX5_act_162 : decode cX5_act 162 = .ok (.invokevirtual 98, 3) := by decide +kernel
theorem dX5_act_165 : decode cX5_act 165 = .ok (.aload_n 0, 1) := by decide +kernel
theorem dX5_act_166 : decode cX5_act 166 = .ok (.bipush 8, 2) := by decide +kernel
theorem dX5_act_168 : decode cX5_act 168 = .ok (.iload_n 2, 1) := by decide +kernel
theorem dX5_act_169 : decode cX5_act 169 = .ok (.i2l, 1) := by decide +kernel
theorem dX5_act_170 : decode cX5_act 170 = .ok (.invokevirtual 98, 3) := by decide +kernel
theorem dX5_act_173 : decode cX5_act 173 = .ok (.aload_n 0, 1) := by decide +kernel
theorem dX5_act_174 : decode cX5_act 174 = .ok (.getfield 16, 3) := by decide +kernel
theorem dX5_act_177 : decode cX5_act 177 = .ok (.bipush 11, 2) := by decide +kernel
theorem dX5_act_179 : decode cX5_act 179 = .ok (.dup2, 1) := by decide +kernel
theorem dX5_act_180 : decode cX5_act 180 = .ok (.iaload, 1) := by decide +kernel
theorem dX5_act_181 : decode cX5_act 181 = .ok (.iconst 1, 1) := by decide +kernel
theorem dX5_act_182 : decode cX5_act 182 = .ok (.iadd, 1) := by decide +kernel
theorem dX5_act_183 : decode cX5_act 183 = .ok (.iastore, 1) := by decide +kernel
theorem dX5_act_184 : decode cX5_act 184 = .ok (.goto 44, 3) := by decide +kernel
theorem dX5_act_187 : decode cX5_act 187 = .ok (.aload_n 0, 1) := by decide +kernel
theorem dX5_act_188 : decode cX5_act 188 = .ok (.getfield 16, 3) := by decide +kernel
theorem dX5_act_191 : decode cX5_act 191 = .ok (.bipush 14, 2) := by decide +kernel
theorem dX5_act_193 : decode cX5_act 193 = .ok (.iload_n 2, 1) := by decide +kernel
theorem dX5_act_194 : decode cX5_act 194 = .ok (.iastore, 1) := by decide +kernel
theorem dX5_act_195 : decode cX5_act 195 = .ok (.goto 33, 3) := by decide +kernel
theorem dX5_act_198 : decode cX5_act 198 = .ok (.aload_n 0, 1) := by decide +kernel
theorem dX5_act_199 : decode cX5_act 199 = .ok (.getfield 16, 3) := by decide +kernel
theorem dX5_act_202 : decode cX5_act 202 = .ok (.bipush 13, 2) := by decide +kernel
theorem dX5_act_204 : decode cX5_act 204 = .ok (.iconst 1, 1) := by decide +kernel
theorem dX5_act_205 : decode cX5_act 205 = .ok (.iastore, 1) := by decide +kernel
theorem dX5_act_206 : decode cX5_act 206 = .ok (.goto 22, 3) := by decide +kernel
theorem dX5_act_209 : decode cX5_act 209 = .ok (.aload_n 0, 1) := by decide +kernel
theorem dX5_act_210 : decode cX5_act 210 = .ok (.getfield 16, 3) := by decide +kernel
theorem dX5_act_213 : decode cX5_act 213 = .ok (.bipush 13, 2) := by decide +kernel
theorem dX5_act_215 : decode cX5_act 215 = .ok (.iconst 0, 1) := by decide +kernel
theorem dX5_act_216 : decode cX5_act 216 = .ok (.iastore, 1) := by decide +kernel
theorem dX5_act_217 : decode cX5_act 217 = .ok (.goto 11, 3) := by decide +kernel
theorem dX5_act_220 : decode cX5_act 220 = .ok (.aload_n 0, 1) := by decide +kernel
theorem dX5_act_221 : decode cX5_act 221 = .ok (.getfield 16, 3) := by decide +kernel
theorem dX5_act_224 : decode cX5_act 224 = .ok (.bipush 15, 2) := by decide +kernel
theorem dX5_act_226 : decode cX5_act 226 = .ok (.iload_n 2, 1) := by decide +kernel
theorem dX5_act_227 : decode cX5_act 227 = .ok (.iastore, 1) := by decide +kernel
theorem dX5_act_228 : decode cX5_act 228 = .ok (.return_, 1) := by decide +kernel
theorem dX5_piece_0 : decode cX5_piece 0 = .ok (.bipush 17, 2) := by decide +kernel
theorem dX5_piece_2 : decode cX5_piece 2 = .ok (.iconst 3, 1) := by decide +kernel
theorem dX5_piece_3 : decode cX5_piece 3 = .ok (.iload_n 2, 1) := by decide +kernel
theorem dX5_piece_4 : decode cX5_piece 4 = .ok (.imul, 1) := by decide +kernel
theorem dX5_piece_5 : decode cX5_piece 5 = .ok (.iadd, 1) := by decide +kernel
theorem dX5_piece_6 : decode cX5_piece 6 = .ok (.istore 4, 2) := by decide +kernel
theorem dX5_piece_8 : decode cX5_piece 8 = .ok (.aload_n 0, 1) := by decide +kernel
theorem dX5_piece_9 : decode cX5_piece 9 = .ok (.iconst 2, 1) := by decide +kernel
theorem dX5_piece_10 : decode cX5_piece 10 = .ok (.iload_n 1, 1) := by decide +kernel
theorem dX5_piece_11 : decode cX5_piece 11 = .ok (.i2l, 1) := by decide +kernel
theorem dX5_piece_12 : decode cX5_piece 12 = .ok (.invokevirtual 98, 3) := by decide +kernel
theorem dX5_piece_15 : decode cX5_piece 15 = .ok (.aload_n 0, 1) := by decide +kernel
theorem dX5_piece_16 : decode cX5_piece 16 = .ok (.iconst 4, 1) := by decide +kernel
theorem dX5_piece_17 : decode cX5_piece 17 = .ok (.iload_n 1, 1) := by decide +kernel
theorem dX5_piece_18 : decode cX5_piece 18 = .ok (.ineg, 1) := by decide +kernel
theorem dX5_piece_19 : decode cX5_piece 19 = .ok (.i2l, 1) := by decide +kernel
theorem dX5_piece_20 : decode cX5_piece 20 = .ok (.invokevirtual 98, 3) := by decide +kernel
theorem dX5_piece_23 : decode cX5_piece 23 = .ok (.aload_n 0, 1) := by decide +kernel
theorem dX5_piece_24 : decode cX5_piece 24 = .ok (.iload 4, 2) := by decide +kernel
theorem dX5_piece_26 : decode cX5_piece 26 = .ok (.iconst 1, 1) := by decide +kernel
theorem dX5_piece_27 : decode cX5_piece 27 = .ok (.iadd, 1) := by decide +kernel
theorem dX5_piece_28 : decode cX5_piece 28 = .ok (.iload_n 1, 1) := by decide +kernel
theorem dX5_piece_29 : decode cX5_piece 29 = .ok (.i2l, 1) := by decide +kernel
theorem dX5_piece_30 : decode cX5_piece 30 = .ok (.invokevirtual 98, 3) := by decide +kernel
theorem dX5_piece_33 : decode cX5_piece 33 = .ok (.aload_n 0, 1) := by decide +kernel
theorem dX5_piece_34 : decode cX5_piece 34 = .ok (.getfield 16, 3) := by decide +kernel
theorem dX5_piece_37 : decode cX5_piece 37 = .ok (.iload 4, 2) := by decide +kernel
theorem dX5_piece_39 : decode cX5_piece 39 = .ok (.dup2, 1) := by decide +kernel
theorem dX5_piece_40 : decode cX5_piece 40 = .ok (.iaload, 1) := by decide +kernel
theorem dX5_piece_41 : decode cX5_piece 41 = .ok (.iconst 1, 1) := by decide +kernel
theorem dX5_piece_42 : decode cX5_piece 42 = .ok (.iadd, 1) := by decide +kernel
theorem dX5_piece_43 : decode cX5_piece 43 = .ok (.iastore, 1) := by decide +kernel
theorem dX5_piece_44 : decode cX5_piece 44 = .ok (.aload_n 0, 1) := by decide +kernel
theorem dX5_piece_45 : decode cX5_piece 45 = .ok (.getfield 16, 3) := by decide +kernel
theorem dX5_piece_48 : decode cX5_piece 48 = .ok (.bipush 10, 2) := by decide +kernel
theorem dX5_piece_50 : decode cX5_piece 50 = .ok (.dup2, 1) := by decide +kernel
theorem dX5_piece_51 : decode cX5_piece 51 = .ok (.iaload, 1) := by decide +kernel
theorem dX5_piece_52 : decode cX5_piece 52 = .ok (.iconst 1, 1) := by decide +kernel
theorem dX5_piece_53 : decode cX5_piece 53 = .ok (.iadd, 1) := by decide +kernel
theorem dX5_piece_54 : decode cX5_piece 54 = .ok (.iastore, 1) := by decide +kernel
theorem dX5_piece_55 : decode cX5_piece 55 = .ok (.aload_n 0, 1) := by decide +kernel
theorem dX5_piece_56 : decode cX5_piece 56 = .ok (.getfield 16, 3) := by decide +kernel
theorem dX5_piece_59 : decode cX5_piece 59 = .ok (.bipush 16, 2) := by decide +kernel
theorem dX5_piece_61 : decode cX5_piece 61 = .ok (.iload_n 1, 1) := by decide +kernel
theorem dX5_piece_62 : decode cX5_piece 62 = .ok (.iastore, 1) := by decide +kernel
theorem dX5_piece_63 : decode cX5_piece 63 = .ok (.bipush 65, 2) := by decide +kernel
theorem dX5_piece_65 : decode cX5_piece 65 = .ok (.iconst 4, 1) := by decide +kernel
theorem dX5_piece_66 : decode cX5_piece 66 = .ok (.iload_n 3, 1) := by decide +kernel
theorem dX5_piece_67 : decode cX5_piece 67 = .ok (.bipush 32, 2) := by decide +kernel
theorem dX5_piece_69 : decode cX5_piece 69 = .ok (.irem, 1) := by decide +kernel
theorem dX5_piece_70 : decode cX5_piece 70 = .ok (.imul, 1) := by decide +kernel
theorem dX5_piece_71 : decode cX5_piece 71 = .ok (.iadd, 1) := by decide +kernel
theorem dX5_piece_72 : decode cX5_piece 72 = .ok (.istore 5, 2) := by decide +kernel
theorem dX5_piece_74 : decode cX5_piece 74 = .ok (.aload_n 0, 1) := by decide +kernel
theorem dX5_piece_75 : decode cX5_piece 75 = .ok (.getfield 16, 3) := by decide +kernel
theorem dX5_piece_78 : decode cX5_piece 78 = .ok (.iload 5, 2) := by decide +kernel
theorem dX5_piece_80 : decode cX5_piece 80 = .ok (.iaload, 1) := by decide +kernel
theorem dX5_piece_81 : decode cX5_piece 81 = .ok (.iload_n 3, 1) := by decide +kernel
theorem dX5_piece_82 : decode cX5_piece 82 = .ok (.if_icmp .ge 41, 3) := by decide +kernel
theorem dX5_piece_85 : decode cX5_piece 85 = .ok (.aload_n 0, 1) := by decide +kernel
theorem dX5_piece_86 : decode cX5_piece 86 = .ok (.getfield 16, 3) := by decide +kernel
theorem dX5_piece_89 : decode cX5_piece 89 = .ok (.iload 5, 2) := by decide +kernel
theorem dX5_piece_91 : decode cX5_piece 91 = .ok (.iload_n 3, 1) := by decide +kernel
theorem dX5_piece_92 : decode cX5_piece 92 = .ok (.iastore, 1) := by decide +kernel
theorem dX5_piece_93 : decode cX5_piece 93 = .ok (.aload_n 0, 1) := by decide +kernel
theorem dX5_piece_94 : decode cX5_piece 94 = .ok (.getfield 16, 3) := by decide +kernel
theorem dX5_piece_97 : decode cX5_piece 97 = .ok (.iload 5, 2) := by decide +kernel
theorem dX5_piece_99 : decode cX5_piece 99 = .ok (.iconst 1, 1) := by decide +kernel
theorem dX5_piece_100 : decode cX5_piece 100 = .ok (.iadd, 1) := by decide +kernel
theorem dX5_piece_101 : decode cX5_piece 101 = .ok (.iconst 0, 1) := by decide +kernel
theorem dX5_piece_102 : decode cX5_piece 102 = .ok (.iastore, 1) := by decide +kernel
theorem dX5_piece_103 : decode cX5_piece 103 = .ok (.aload_n 0, 1) := by decide +kernel
theorem dX5_piece_104 : decode cX5_piece 104 = .ok (.getfield 16, 3) := by decide +kernel
theorem dX5_piece_107 : decode cX5_piece 107 = .ok (.iload 5, 2) := by decide +kernel
theorem dX5_piece_109 : decode cX5_piece 109 = .ok (.iconst 2, 1) := by decide +kernel
theorem dX5_piece_110 : decode cX5_piece 110 = .ok (.iadd, 1) := by decide +kernel
theorem dX5_piece_111 : decode cX5_piece 111 = .ok (.iconst 0, 1) := by decide +kernel
theorem dX5_piece_112 : decode cX5_piece 112 = .ok (.iastore, 1) := by decide +kernel
theorem dX5_piece_113 : decode cX5_piece 113 = .ok (.aload_n 0, 1) := by decide +kernel
theorem dX5_piece_114 : decode cX5_piece 114 = .ok (.getfield 16, 3) := by decide +kernel
theorem dX5_piece_117 : decode cX5_piece 117 = .ok (.iload 5, 2) := by decide +kernel
theorem dX5_piece_119 : decode cX5_piece 119 = .ok (.iconst 3, 1) := by decide +kernel
theorem dX5_piece_120 : decode cX5_piece 120 = .ok (.iadd, 1) := by decide +kernel
theorem dX5_piece_121 : decode cX5_piece 121 = .ok (.iconst 0, 1) := by decide +kernel
theorem dX5_piece_122 : decode cX5_piece 122 = .ok (.iastore, 1) := by decide +kernel
theorem dX5_piece_123 : decode cX5_piece 123 = .ok (.aload_n 0, 1) := by decide +kernel
theorem dX5_piece_124 : decode cX5_piece 124 = .ok (.getfield 16, 3) := by decide +kernel
theorem dX5_piece_127 : decode cX5_piece 127 = .ok (.iload 5, 2) := by decide +kernel
theorem dX5_piece_129 : decode cX5_piece 129 = .ok (.iaload, 1) := by decide +kernel
theorem dX5_piece_130 : decode cX5_piece 130 = .ok (.iload_n 3, 1) := by decide +kernel
theorem dX5_piece_131 : decode cX5_piece 131 = .ok (.if_icmp .ne 26, 3) := by decide +kernel
theorem dX5_piece_134 : decode cX5_piece 134 = .ok (.aload_n 0, 1) := by decide +kernel
theorem dX5_piece_135 : decode cX5_piece 135 = .ok (.getfield 16, 3) := by decide +kernel
theorem dX5_piece_138 : decode cX5_piece 138 = .ok (.iload 5, 2) := by decide +kernel
theorem dX5_piece_140 : decode cX5_piece 140 = .ok (.iconst 1, 1) := by decide +kernel
theorem dX5_piece_141 : decode cX5_piece 141 = .ok (.iadd, 1) := by decide +kernel
theorem dX5_piece_142 : decode cX5_piece 142 = .ok (.dup2, 1) := by decide +kernel
theorem dX5_piece_143 : decode cX5_piece 143 = .ok (.iaload, 1) := by decide +kernel
theorem dX5_piece_144 : decode cX5_piece 144 = .ok (.iconst 1, 1) := by decide +kernel
theorem dX5_piece_145 : decode cX5_piece 145 = .ok (.iadd, 1) := by decide +kernel
theorem dX5_piece_146 : decode cX5_piece 146 = .ok (.iastore, 1) := by decide +kernel
theorem dX5_piece_147 : decode cX5_piece 147 = .ok (.aload_n 0, 1) := by decide +kernel
theorem dX5_piece_148 : decode cX5_piece 148 = .ok (.iload 5, 2) := by decide +kernel
theorem dX5_piece_150 : decode cX5_piece 150 = .ok (.iconst 2, 1) := by decide +kernel
theorem dX5_piece_151 : decode cX5_piece 151 = .ok (.iadd, 1) := by decide +kernel
theorem dX5_piece_152 : decode cX5_piece 152 = .ok (.iload_n 1, 1) := by decide +kernel
theorem dX5_piece_153 : decode cX5_piece 153 = .ok (.i2l, 1) := by decide +kernel
theorem dX5_piece_154 : decode cX5_piece 154 = .ok (.invokevirtual 98, 3) := by decide +kernel
theorem dX5_piece_157 : decode cX5_piece 157 = .ok (.return_, 1) := by decide +kernel
theorem dX5_isRate_0 : decode cX5_isRate 0 = .ok (.iload_n 0, 1) := by decide +kernel
theorem dX5_isRate_1 : decode cX5_isRate 1 = .ok (.i2l, 1) := by decide +kernel
theorem dX5_isRate_2 : decode cX5_isRate 2 = .ok (.lconst 0, 1) := by decide +kernel
theorem dX5_isRate_3 : decode cX5_isRate 3 = .ok (.ldc2_w 102, 3) := by decide +kernel
theorem dX5_isRate_6 : decode cX5_isRate 6 = .ok (.invokestatic 52, 3) := by decide +kernel
theorem dX5_isRate_9 : decode cX5_isRate 9 = .ok (.ifCond .eq 31, 3) := by decide +kernel
theorem dX5_isRate_12 : decode cX5_isRate 12 = .ok (.iload_n 1, 1) := by decide +kernel
theorem dX5_isRate_13 : decode cX5_isRate 13 = .ok (.i2l, 1) := by decide +kernel
theorem dX5_isRate_14 : decode cX5_isRate 14 = .ok (.lconst 0, 1) := by decide +kernel
theorem dX5_isRate_15 : decode cX5_isRate 15 = .ok (.ldc2_w 104, 3) := by decide +kernel
theorem dX5_isRate_18 : decode cX5_isRate 18 = .ok (.invokestatic 52, 3) := by decide +kernel
theorem dX5_isRate_21 : decode cX5_isRate 21 = .ok (.ifCond .eq 19, 3) := by decide +kernel
theorem dX5_isRate_24 : decode cX5_isRate 24 = .ok (.iload_n 2, 1) := by decide +kernel
theorem dX5_isRate_25 : decode cX5_isRate 25 = .ok (.i2l, 1) := by decide +kernel
theorem dX5_isRate_26 : decode cX5_isRate 26 = .ok (.lconst 0, 1) := by decide +kernel
theorem dX5_isRate_27 : decode cX5_isRate 27 = .ok (.ldc2_w 106, 3) := by decide +kernel
theorem dX5_isRate_30 : decode cX5_isRate 30 = .ok (.invokestatic 52, 3) := by decide +kernel
theorem dX5_isRate_33 : decode cX5_isRate 33 = .ok (.ifCond .eq 7, 3) := by decide +kernel
theorem dX5_isRate_36 : decode cX5_isRate 36 = .ok (.iconst 1, 1) := by decide +kernel
theorem dX5_isRate_37 : decode cX5_isRate 37 = .ok (.goto 4, 3) := by decide +kernel
theorem dX5_isRate_40 : decode cX5_isRate 40 = .ok (.iconst 0, 1) := by decide +kernel
theorem dX5_isRate_41 : decode cX5_isRate 41 = .ok (.ireturn, 1) := by decide +kernel
theorem dX5_place_0 : decode cX5_place 0 = .ok (.bipush 40, 2) := by decide +kernel
theorem dX5_place_2 : decode cX5_place 2 = .ok (.iload_n 0, 1) := by decide +kernel
theorem dX5_place_3 : decode cX5_place 3 = .ok (.imul, 1) := by decide +kernel
theorem dX5_place_4 : decode cX5_place 4 = .ok (.iconst 4, 1) := by decide +kernel
theorem dX5_place_5 : decode cX5_place 5 = .ok (.iload_n 1, 1) := by decide +kernel
theorem dX5_place_6 : decode cX5_place 6 = .ok (.imul, 1) := by decide +kernel
theorem dX5_place_7 : decode cX5_place 7 = .ok (.iadd, 1) := by decide +kernel
theorem dX5_place_8 : decode cX5_place 8 = .ok (.iload_n 2, 1) := by decide +kernel
theorem dX5_place_9 : decode cX5_place 9 = .ok (.iadd, 1) := by decide +kernel
theorem dX5_place_10 : decode cX5_place 10 = .ok (.ireturn, 1) := by decide +kernel
theorem dX5_rate_0 : decode cX5_rate 0 = .ok (.aload_n 0, 1) := by decide +kernel
theorem dX5_rate_1 : decode cX5_rate 1 = .ok (.iconst 0, 1) := by decide +kernel
theorem dX5_rate_2 : decode cX5_rate 2 = .ok (.putfield 47, 3) := by decide +kernel
theorem dX5_rate_5 : decode cX5_rate 5 = .ok (.iload_n 1, 1) := by decide +kernel
theorem dX5_rate_6 : decode cX5_rate 6 = .ok (.iload_n 2, 1) := by decide +kernel
theorem dX5_rate_7 : decode cX5_rate 7 = .ok (.iload_n 3, 1) := by decide +kernel
theorem dX5_rate_8 : decode cX5_rate 8 = .ok (.invokestatic 108, 3) := by decide +kernel
theorem dX5_rate_11 : decode cX5_rate 11 = .ok (.ifCond .eq 16, 3) := by decide +kernel
theorem dX5_rate_14 : decode cX5_rate 14 = .ok (.iload 4, 2) := by decide +kernel
theorem dX5_rate_16 : decode cX5_rate 16 = .ok (.i2l, 1) := by decide +kernel
theorem dX5_rate_17 : decode cX5_rate 17 = .ok (.lconst 0, 1) := by decide +kernel
theorem dX5_rate_18 : decode cX5_rate 18 = .ok (.ldc2_w 50, 3) := by decide +kernel
theorem dX5_rate_21 : decode cX5_rate 21 = .ok (.invokestatic 52, 3) := by decide +kernel
theorem dX5_rate_24 : decode cX5_rate 24 = .ok (.ifCond .ne 5, 3) := by decide +kernel
theorem dX5_rate_27 : decode cX5_rate 27 = .ok (.iconst (-1), 1) := by decide +kernel
theorem dX5_rate_28 : decode cX5_rate 28 = .ok (.ireturn, 1) := by decide +kernel
theorem dX5_rate_29 : decode cX5_rate 29 = .ok (.aload_n 0, 1) := by decide +kernel
theorem dX5_rate_30 : decode cX5_rate 30 = .ok (.getfield 22, 3) := by decide +kernel
theorem dX5_rate_33 : decode cX5_rate 33 = .ok (.iload_n 1, 1) := by decide +kernel
theorem dX5_rate_34 : decode cX5_rate 34 = .ok (.iload_n 2, 1) := by decide +kernel
theorem dX5_rate_35 : decode cX5_rate 35 = .ok (.iload_n 3, 1) := by decide +kernel
theorem dX5_rate_36 : decode cX5_rate 36 = .ok (.invokestatic 112, 3) := by decide +kernel
theorem dX5_rate_39 : decode cX5_rate 39 = .ok (.iload 4, 2) := by decide +kernel
theorem dX5_rate_41 : decode cX5_rate 41 = .ok (.iastore, 1) := by decide +kernel
theorem dX5_rate_42 : decode cX5_rate 42 = .ok (.iconst 1, 1) := by decide +kernel
theorem dX5_rate_43 : decode cX5_rate 43 = .ok (.ireturn, 1) := by decide +kernel
theorem dX5_loadTable_0 : decode cX5_loadTable 0 = .ok (.aload_n 0, 1) := by decide +kernel
theorem dX5_loadTable_1 : decode cX5_loadTable 1 = .ok (.iconst 0, 1) := by decide +kernel
theorem dX5_loadTable_2 : decode cX5_loadTable 2 = .ok (.putfield 47, 3) := by decide +kernel
theorem dX5_loadTable_5 : decode cX5_loadTable 5 = .ok (.aload_n 0, 1) := by decide +kernel
theorem dX5_loadTable_6 : decode cX5_loadTable 6 = .ok (.getfield 28, 3) := by decide +kernel
theorem dX5_loadTable_9 : decode cX5_loadTable 9 = .ok (.ifCond .ne 6, 3) := by decide +kernel
theorem dX5_loadTable_12 : decode cX5_loadTable 12 = .ok (.bipush (-7), 2) := by decide +kernel
theorem dX5_loadTable_14 : decode cX5_loadTable 14 = .ok (.ireturn, 1) := by decide +kernel
theorem dX5_loadTable_15 : decode cX5_loadTable 15 = .ok (.iload_n 1, 1) := by decide +kernel
theorem dX5_loadTable_16 : decode cX5_loadTable 16 = .ok (.ifCond .lt 14, 3) := by decide +kernel
theorem dX5_loadTable_19 : decode cX5_loadTable 19 = .ok (.iload_n 1, 1) := by decide +kernel
theorem dX5_loadTable_20 : decode cX5_loadTable 20 = .ok (.aload_n 0, 1) := by decide +kernel
theorem dX5_loadTable_21 : decode cX5_loadTable 21 = .ok (.getfield 16, 3) := by decide +kernel
theorem dX5_loadTable_24 : decode cX5_loadTable 24 = .ok (.bipush 15, 2) := by decide +kernel
theorem dX5_loadTable_26 : decode cX5_loadTable 26 = .ok (.iaload, 1) := by decide +kernel
theorem dX5_loadTable_27 : decode cX5_loadTable 27 = .ok (.if_icmp .ge 5, 3) := by decide +kernel
theorem dX5_loadTable_30 : decode cX5_loadTable 30 = .ok (.iconst 0, 1) := by decide +kernel
theorem dX5_loadTable_31 : decode cX5_loadTable 31 = .ok (.ireturn, 1) := by decide +kernel
theorem dX5_loadTable_32 : decode cX5_loadTable 32 = .ok (.aload_n 0, 1) := by decide +kernel
theorem dX5_loadTable_33 : decode cX5_loadTable 33 = .ok (.bipush 9, 2) := by decide +kernel
theorem dX5_loadTable_35 : decode cX5_loadTable 35 = .ok (.iload_n 1, 1) := by decide +kernel
theorem dX5_loadTable_36 : decode cX5_loadTable 36 = .ok (.iconst 0, 1) := by decide +kernel
theorem dX5_loadTable_37 : decode cX5_loadTable 37 = .ok (.invokevirtual 116, 3) := by decide +kernel
theorem dX5_loadTable_40 : decode cX5_loadTable 40 = .ok (.ifCond .ne 6, 3) := by decide +kernel
theorem dX5_loadTable_43 : decode cX5_loadTable 43 = .ok (.bipush (-7), 2) := by decide +kernel
theorem dX5_loadTable_45 : decode cX5_loadTable 45 = .ok (.ireturn, 1) := by decide +kernel
theorem dX5_loadTable_46 : decode cX5_loadTable 46 = .ok (.iconst 0, 1) := by decide +kernel
theorem dX5_loadTable_47 : decode cX5_loadTable 47 = .ok (.istore_n 2, 1) := by decide +kernel
theorem dX5_loadTable_48 : decode cX5_loadTable 48 = .ok (.iload_n 2, 1) := by decide +kernel
theorem dX5_loadTable_49 : decode cX5_loadTable 49 = .ok (.sipush 320, 3) := by decide +kernel
theorem dX5_loadTable_52 : decode cX5_loadTable 52 = .ok (.if_icmp .ge 21, 3) := by decide +kernel
theorem dX5_loadTable_55 : decode cX5_loadTable 55 = .ok (.aload_n 0, 1) := by decide +kernel
theorem dX5_loadTable_56 : decode cX5_loadTable 56 = .ok (.getfield 25, 3) := by decide +kernel
theorem dX5_loadTable_59 : decode cX5_loadTable 59 = .ok (.iload_n 2, 1) := by decide +kernel
theorem dX5_loadTable_60 : decode cX5_loadTable 60 = .ok (.aload_n 0, 1) := by decide +kernel
theorem dX5_loadTable_61 : decode cX5_loadTable 61 = .ok (.getfield 22, 3) := by decide +kernel
theorem dX5_loadTable_64 : decode cX5_loadTable 64 = .ok (.iload_n 2, 1) := by decide +kernel
theorem dX5_loadTable_65 : decode cX5_loadTable 65 = .ok (.iaload, 1) := by decide +kernel
theorem dX5_loadTable_66 : decode cX5_loadTable 66 = .ok (.iastore, 1) := by decide +kernel
theorem dX5_loadTable_67 : decode cX5_loadTable 67 = .ok (.iinc 2 1, 3) := by decide +kernel
theorem dX5_loadTable_70 : decode cX5_loadTable 70 = .ok (.goto (-22), 3) := by decide +kernel
theorem dX5_loadTable_73 : decode cX5_loadTable 73 = .ok (.iconst 1, 1) := by decide +kernel
theorem dX5_loadTable_74 : decode cX5_loadTable 74 = .ok (.ireturn, 1) := by decide +kernel
theorem dX5_weigh_0 : decode cX5_weigh 0 = .ok (.aload_n 0, 1) := by decide +kernel
theorem dX5_weigh_1 : decode cX5_weigh 1 = .ok (.iconst 0, 1) := by decide +kernel
theorem dX5_weigh_2 : decode cX5_weigh 2 = .ok (.putfield 47, 3) := by decide +kernel
theorem dX5_weigh_5 : decode cX5_weigh 5 = .ok (.iload_n 2, 1) := by decide +kernel
theorem dX5_weigh_6 : decode cX5_weigh 6 = .ok (.iconst 1, 1) := by decide +kernel
theorem dX5_weigh_7 : decode cX5_weigh 7 = .ok (.isub, 1) := by decide +kernel
theorem dX5_weigh_8 : decode cX5_weigh 8 = .ok (.bipush 50, 2) := by decide +kernel
theorem dX5_weigh_10 : decode cX5_weigh 10 = .ok (.idiv, 1) := by decide +kernel
theorem dX5_weigh_11 : decode cX5_weigh 11 = .ok (.istore 4, 2) := by decide +kernel
theorem dX5_weigh_13 : decode cX5_weigh 13 = .ok (.iload_n 2, 1) := by decide +kernel
theorem dX5_weigh_14 : decode cX5_weigh 14 = .ok (.i2l, 1) := by decide +kernel
theorem dX5_weigh_15 : decode cX5_weigh 15 = .ok (.lconst 1, 1) := by decide +kernel
theorem dX5_weigh_16 : decode cX5_weigh 16 = .ok (.ldc2_w 119, 3) := by decide +kernel
theorem dX5_weigh_19 : decode cX5_weigh 19 = .ok (.invokestatic 52, 3) := by decide +kernel
theorem dX5_weigh_22 : decode cX5_weigh 22 = .ok (.ifCond .eq 13, 3) := by decide +kernel
theorem dX5_weigh_25 : decode cX5_weigh 25 = .ok (.iload_n 1, 1) := by decide +kernel
theorem dX5_weigh_26 : decode cX5_weigh 26 = .ok (.iload 4, 2) := by decide +kernel
theorem dX5_weigh_28 : decode cX5_weigh 28 = .ok (.iload_n 3, 1) := by decide +kernel
theorem dX5_weigh_29 : decode cX5_weigh 29 = .ok (.invokestatic 108, 3) := by decide +kernel
theorem dX5_weigh_32 : decode cX5_weigh 32 = .ok (.ifCond .ne 5, 3) := by decide +kernel
theorem dX5_weigh_35 : decode cX5_weigh 35 = .ok (.iconst (-1), 1) := by decide +kernel
theorem dX5_weigh_36 : decode cX5_weigh 36 = .ok (.ireturn, 1) := by decide +kernel
theorem dX5_weigh_37 : decode cX5_weigh 37 = .ok (.aload_n 0, 1) := by decide +kernel
theorem dX5_weigh_38 : decode cX5_weigh 38 = .ok (.getfield 25, 3) := by decide +kernel
theorem dX5_weigh_41 : decode cX5_weigh 41 = .ok (.iload_n 1, 1) := by decide +kernel
theorem dX5_weigh_42 : decode cX5_weigh 42 = .ok (.iload 4, 2) := by decide +kernel
theorem dX5_weigh_44 : decode cX5_weigh 44 = .ok (.iload_n 3, 1) := by decide +kernel
theorem dX5_weigh_45 : decode cX5_weigh 45 = .ok (.invokestatic 112, 3) := by decide +kernel
theorem dX5_weigh_48 : decode cX5_weigh 48 = .ok (.iaload, 1) := by decide +kernel
theorem dX5_weigh_49 : decode cX5_weigh 49 = .ok (.istore 5, 2) := by decide +kernel
theorem dX5_weigh_51 : decode cX5_weigh 51 = .ok (.iload 5, 2) := by decide +kernel
theorem dX5_weigh_53 : decode cX5_weigh 53 = .ok (.ifCond .ne 7, 3) := by decide +kernel
theorem dX5_weigh_56 : decode cX5_weigh 56 = .ok (.iconst (-1), 1) := by decide +kernel
theorem dX5_weigh_57 : decode cX5_weigh 57 = .ok (.goto 5, 3) := by decide +kernel
theorem dX5_weigh_60 : decode cX5_weigh 60 = .ok (.iload 5, 2) := by decide +kernel
theorem dX5_weigh_62 : decode cX5_weigh 62 = .ok (.ireturn, 1) := by decide +kernel
theorem dX5_isDay_0 : decode cX5_isDay 0 = .ok (.iload_n 0, 1) := by decide +kernel
theorem dX5_isDay_1 : decode cX5_isDay 1 = .ok (.i2l, 1) := by decide +kernel
theorem dX5_isDay_2 : decode cX5_isDay 2 = .ok (.lconst 0, 1) := by decide +kernel
theorem dX5_isDay_3 : decode cX5_isDay 3 = .ok (.ldc2_w 121, 3) := by decide +kernel
theorem dX5_isDay_6 : decode cX5_isDay 6 = .ok (.invokestatic 52, 3) := by decide +kernel
theorem dX5_isDay_9 : decode cX5_isDay 9 = .ok (.ireturn, 1) := by decide +kernel
theorem dX5_frank_0 : decode cX5_frank 0 = .ok (.aload_n 0, 1) := by decide +kernel
theorem dX5_frank_1 : decode cX5_frank 1 = .ok (.iconst 0, 1) := by decide +kernel
theorem dX5_frank_2 : decode cX5_frank 2 = .ok (.putfield 47, 3) := by decide +kernel
theorem dX5_frank_5 : decode cX5_frank 5 = .ok (.aload_n 0, 1) := by decide +kernel
theorem dX5_frank_6 : decode cX5_frank 6 = .ok (.getfield 28, 3) := by decide +kernel
theorem dX5_frank_9 : decode cX5_frank 9 = .ok (.ifCond .ne 6, 3) := by decide +kernel
theorem dX5_frank_12 : decode cX5_frank 12 = .ok (.bipush (-7), 2) := by decide +kernel
theorem dX5_frank_14 : decode cX5_frank 14 = .ok (.ireturn, 1) := by decide +kernel
theorem dX5_frank_15 : decode cX5_frank 15 = .ok (.aload_n 0, 1) := by decide +kernel
theorem dX5_frank_16 : decode cX5_frank 16 = .ok (.getfield 16, 3) := by decide +kernel
theorem dX5_frank_19 : decode cX5_frank 19 = .ok (.bipush 13, 2) := by decide +kernel
theorem dX5_frank_21 : decode cX5_frank 21 = .ok (.iaload, 1) := by decide +kernel
theorem dX5_frank_22 : decode cX5_frank 22 = .ok (.ifCond .ne 37, 3) := by decide +kernel
theorem dX5_frank_25 : decode cX5_frank 25 = .ok (.iload_n 3, 1) := by decide +kernel
theorem dX5_frank_26 : decode cX5_frank 26 = .ok (.invokestatic 123, 3) := by decide +kernel
theorem dX5_frank_29 : decode cX5_frank 29 = .ok (.ifCond .eq 30, 3) := by decide +kernel
theorem dX5_frank_32 : decode cX5_frank 32 = .ok (.iload_n 3, 1) := by decide +kernel
theorem dX5_frank_33 : decode cX5_frank 33 = .ok (.aload_n 0, 1) := by decide +kernel
theorem dX5_frank_34 : decode cX5_frank 34 = .ok (.getfield 16, 3) := by decide +kernel
theorem dX5_frank_37 : decode cX5_frank 37 = .ok (.bipush 14, 2) := by decide +kernel
theorem dX5_frank_39 : decode cX5_frank 39 = .ok (.iaload, 1) := by decide +kernel
theorem dX5_frank_40 : decode cX5_frank 40 = .ok (.if_icmp .gt 19, 3) := by decide +kernel
theorem dX5_frank_43 : decode cX5_frank 43 = .ok (.iload_n 1, 1) := by decide +kernel
theorem dX5_frank_44 : decode cX5_frank 44 = .ok (.i2l, 1) := by decide +kernel
theorem dX5_frank_45 : decode cX5_frank 45 = .ok (.lconst 0, 1) := by decide +kernel
theorem dX5_frank_46 : decode cX5_frank 46 = .ok (.ldc2_w 126, 3) := by decide +kernel
theorem dX5_frank_49 : decode cX5_frank 49 = .ok (.invokestatic 52, 3) := by decide +kernel
theorem dX5_frank_52 : decode cX5_frank 52 = .ok (.ifCond .eq 7, 3) := by decide +kernel
theorem dX5_frank_55 : decode cX5_frank 55 = .ok (.iconst 1, 1) := by decide +kernel
theorem dX5_frank_56 : decode cX5_frank 56 = .ok (.goto 4, 3) := by decide +kernel
theorem dX5_frank_59 : decode cX5_frank 59 = .ok (.iconst 0, 1) := by decide +kernel
theorem dX5_frank_60 : decode cX5_frank 60 = .ok (.istore 4, 2) := by decide +kernel
theorem dX5_frank_62 : decode cX5_frank 62 = .ok (.iload 4, 2) := by decide +kernel
theorem dX5_frank_64 : decode cX5_frank 64 = .ok (.ifCond .eq 31, 3) := by decide +kernel
theorem dX5_frank_67 : decode cX5_frank 67 = .ok (.iload_n 2, 1) := by decide +kernel
theorem dX5_frank_68 : decode cX5_frank 68 = .ok (.invokestatic 128, 3) := by decide +kernel
theorem dX5_frank_71 : decode cX5_frank 71 = .ok (.ifCond .eq 24, 3) := by decide +kernel
theorem dX5_frank_74 : decode cX5_frank 74 = .ok (.iload_n 2, 1) := by decide +kernel
theorem dX5_frank_75 : decode cX5_frank 75 = .ok (.i2l, 1) := by decide +kernel
theorem dX5_frank_76 : decode cX5_frank 76 = .ok (.aload_n 0, 1) := by decide +kernel
theorem dX5_frank_77 : decode cX5_frank 77 = .ok (.iconst 4, 1) := by decide +kernel
theorem dX5_frank_78 : decode cX5_frank 78 = .ok (.invokevirtual 91, 3) := by decide +kernel
theorem dX5_frank_81 : decode cX5_frank 81 = .ok (.lcmp, 1) := by decide +kernel
theorem dX5_frank_82 : decode cX5_frank 82 = .ok (.ifCond .gt 13, 3) := by decide +kernel
theorem dX5_frank_85 : decode cX5_frank 85 = .ok (.aload_n 0, 1) := by decide +kernel
theorem dX5_frank_86 : decode cX5_frank 86 = .ok (.getfield 16, 3) := by decide +kernel
theorem dX5_frank_89 : decode cX5_frank 89 = .ok (.bipush 16, 2) := by decide +kernel
theorem dX5_frank_91 : decode cX5_frank 91 = .ok (.iaload, 1) := by decide +kernel
theorem dX5_frank_92 : decode cX5_frank 92 = .ok (.ifCond .eq 5, 3) := by decide +kernel
theorem dX5_frank_95 : decode cX5_frank 95 = .ok (.iconst 0, 1) := by decide +kernel
theorem dX5_frank_96 : decode cX5_frank 96 = .ok (.ireturn, 1) := by decide +kernel
theorem dX5_frank_97 : decode cX5_frank 97 = .ok (.aload_n 0, 1) := by decide +kernel
theorem dX5_frank_98 : decode cX5_frank 98 = .ok (.iconst 1, 1) := by decide +kernel
theorem dX5_frank_99 : decode cX5_frank 99 = .ok (.iload_n 2, 1) := by decide +kernel
theorem dX5_frank_100 : decode cX5_frank 100 = .ok (.iload_n 1, 1) := by decide +kernel
theorem dX5_frank_101 : decode cX5_frank 101 = .ok (.bipush 16, 2) := by decide +kernel
theorem dX5_frank_103 : decode cX5_frank 103 = .ok (.iload_n 3, 1) := by decide +kernel
theorem dX5_frank_104 : decode cX5_frank 104 = .ok (.imul, 1) := by decide +kernel
theorem dX5_frank_105 : decode cX5_frank 105 = .ok (.iadd, 1) := by decide +kernel
theorem dX5_frank_106 : decode cX5_frank 106 = .ok (.invokevirtual 116, 3) := by decide +kernel
theorem dX5_frank_109 : decode cX5_frank 109 = .ok (.ifCond .ne 6, 3) := by decide +kernel
theorem dX5_frank_112 : decode cX5_frank 112 = .ok (.bipush (-7), 2) := by decide +kernel
theorem dX5_frank_114 : decode cX5_frank 114 = .ok (.ireturn, 1) := by decide +kernel
theorem dX5_frank_115 : decode cX5_frank 115 = .ok (.aload_n 0, 1) := by decide +kernel
theorem dX5_frank_116 : decode cX5_frank 116 = .ok (.dup, 1) := by decide +kernel
theorem dX5_frank_117 : decode cX5_frank 117 = .ok (.getfield 131, 3) := by decide +kernel
theorem dX5_frank_120 : decode cX5_frank 120 = .ok (.iconst 1, 1) := by decide +kernel
theorem dX5_frank_121 : decode cX5_frank 121 = .ok (.iadd, 1) := by decide +kernel
theorem dX5_frank_122 : decode cX5_frank 122 = .ok (.putfield 131, 3) := by decide +kernel
theorem dX5_frank_125 : decode cX5_frank 125 = .ok (.aload_n 0, 1) := by decide +kernel
theorem dX5_frank_126 : decode cX5_frank 126 = .ok (.aload_n 0, 1) := by decide +kernel
theorem dX5_frank_127 : decode cX5_frank 127 = .ok (.getfield 134, 3) := by decide +kernel
theorem dX5_frank_130 : decode cX5_frank 130 = .ok (.iload_n 2, 1) := by decide +kernel
theorem dX5_frank_131 : decode cX5_frank 131 = .ok (.i2l, 1) := by decide +kernel
theorem dX5_frank_132 : decode cX5_frank 132 = .ok (.ladd, 1) := by decide +kernel
theorem dX5_frank_133 : decode cX5_frank 133 = .ok (.putfield 134, 3) := by decide +kernel
theorem dX5_frank_136 : decode cX5_frank 136 = .ok (.aload_n 0, 1) := by decide +kernel
theorem dX5_frank_137 : decode cX5_frank 137 = .ok (.iconst 2, 1) := by decide +kernel
theorem dX5_frank_138 : decode cX5_frank 138 = .ok (.iconst 0, 1) := by decide +kernel
theorem dX5_frank_139 : decode cX5_frank 139 = .ok (.iconst 0, 1) := by decide +kernel
theorem dX5_frank_140 : decode cX5_frank 140 = .ok (.invokevirtual 116, 3) := by decide +kernel
theorem dX5_frank_143 : decode cX5_frank 143 = .ok (.ifCond .eq 7, 3) := by decide +kernel
theorem dX5_frank_146 : decode cX5_frank 146 = .ok (.iconst 1, 1) := by decide +kernel
theorem dX5_frank_147 : decode cX5_frank 147 = .ok (.goto 5, 3) := by decide +kernel
theorem dX5_frank_150 : decode cX5_frank 150 = .ok (.bipush (-7), 2) := by decide +kernel
theorem dX5_frank_152 : decode cX5_frank 152 = .ok (.ireturn, 1) := by decide +kernel
theorem dX5_printed_0 : decode cX5_printed 0 = .ok (.aload_n 0, 1) := by decide +kernel
theorem dX5_printed_1 : decode cX5_printed 1 = .ok (.iconst 0, 1) := by decide +kernel
theorem dX5_printed_2 : decode cX5_printed 2 = .ok (.putfield 47, 3) := by decide +kernel
theorem dX5_printed_5 : decode cX5_printed 5 = .ok (.iload_n 1, 1) := by decide +kernel
theorem dX5_printed_6 : decode cX5_printed 6 = .ok (.ifCond .ne 11, 3) := by decide +kernel
theorem dX5_printed_9 : decode cX5_printed 9 = .ok (.aload_n 0, 1) := by decide +kernel
theorem dX5_printed_10 : decode cX5_printed 10 = .ok (.getfield 131, 3) := by decide +kernel
theorem dX5_printed_13 : decode cX5_printed 13 = .ok (.i2l, 1) := by decide +kernel
theorem dX5_printed_14 : decode cX5_printed 14 = .ok (.goto 18, 3) := by decide +kernel
theorem dX5_printed_17 : decode cX5_printed 17 = .ok (.iload_n 1, 1) := by decide +kernel
theorem dX5_printed_18 : decode cX5_printed 18 = .ok (.iconst 1, 1) := by decide +kernel
theorem dX5_printed_19 : decode cX5_printed 19 = .ok (.if_icmp .ne 10, 3) := by decide +kernel
theorem dX5_printed_22 : decode cX5_printed 22 = .ok (.aload_n 0, 1) := by decide +kernel
theorem dX5_printed_23 : decode cX5_printed 23 = .ok (.getfield 134, 3) := by decide +kernel
theorem dX5_printed_26 : decode cX5_printed 26 = .ok (.goto 6, 3) := by decide +kernel
theorem dX5_printed_29 : decode cX5_printed 29 = .ok (.ldc2_w 138, 3) := by decide +kernel
theorem dX5_printed_32 : decode cX5_printed 32 = .ok (.lreturn, 1) := by decide +kernel
theorem dX5_code_0 : decode cX5_code 0 = .ok (.aload_n 0, 1) := by decide +kernel
theorem dX5_code_1 : decode cX5_code 1 = .ok (.getfield 37, 3) := by decide +kernel
theorem dX5_code_4 : decode cX5_code 4 = .ok (.i2l, 1) := by decide +kernel
theorem dX5_code_5 : decode cX5_code 5 = .ok (.ldc2_w 140, 3) := by decide +kernel
theorem dX5_code_8 : decode cX5_code 8 = .ok (.lmul, 1) := by decide +kernel
theorem dX5_code_9 : decode cX5_code 9 = .ok (.iload_n 1, 1) := by decide +kernel
theorem dX5_code_10 : decode cX5_code 10 = .ok (.i2l, 1) := by decide +kernel
theorem dX5_code_11 : decode cX5_code 11 = .ok (.ladd, 1) := by decide +kernel
theorem dX5_code_12 : decode cX5_code 12 = .ok (.ldc2_w 142, 3) := by decide +kernel
theorem dX5_code_15 : decode cX5_code 15 = .ok (.lmul, 1) := by decide +kernel
theorem dX5_code_16 : decode cX5_code 16 = .ok (.iload_n 2, 1) := by decide +kernel
theorem dX5_code_17 : decode cX5_code 17 = .ok (.i2l, 1) := by decide +kernel
theorem dX5_code_18 : decode cX5_code 18 = .ok (.ldc2_w 144, 3) := by decide +kernel
theorem dX5_code_21 : decode cX5_code 21 = .ok (.lmul, 1) := by decide +kernel
theorem dX5_code_22 : decode cX5_code 22 = .ok (.ladd, 1) := by decide +kernel
theorem dX5_code_23 : decode cX5_code 23 = .ok (.lstore_n 3, 1) := by decide +kernel
theorem dX5_code_24 : decode cX5_code 24 = .ok (.lload_n 3, 1) := by decide +kernel
theorem dX5_code_25 : decode cX5_code 25 = .ok (.ldc2_w 146, 3) := by decide +kernel
theorem dX5_code_28 : decode cX5_code 28 = .ok (.lrem, 1) := by decide +kernel
theorem dX5_code_29 : decode cX5_code 29 = .ok (.l2i, 1) := by decide +kernel
theorem dX5_code_30 : decode cX5_code 30 = .ok (.ireturn, 1) := by decide +kernel
theorem dX5_refill_0 : decode cX5_refill 0 = .ok (.aload_n 0, 1) := by decide +kernel
theorem dX5_refill_1 : decode cX5_refill 1 = .ok (.iconst 0, 1) := by decide +kernel
theorem dX5_refill_2 : decode cX5_refill 2 = .ok (.putfield 47, 3) := by decide +kernel
theorem dX5_refill_5 : decode cX5_refill 5 = .ok (.aload_n 0, 1) := by decide +kernel
theorem dX5_refill_6 : decode cX5_refill 6 = .ok (.getfield 28, 3) := by decide +kernel
theorem dX5_refill_9 : decode cX5_refill 9 = .ok (.ifCond .ne 6, 3) := by decide +kernel
theorem dX5_refill_12 : decode cX5_refill 12 = .ok (.bipush (-7), 2) := by decide +kernel
theorem dX5_refill_14 : decode cX5_refill 14 = .ok (.ireturn, 1) := by decide +kernel
theorem dX5_refill_15 : decode cX5_refill 15 = .ok (.iload_n 1, 1) := by decide +kernel
theorem dX5_refill_16 : decode cX5_refill 16 = .ok (.invokestatic 128, 3) := by decide +kernel
theorem dX5_refill_19 : decode cX5_refill 19 = .ok (.ifCond .eq 35, 3) := by decide +kernel
theorem dX5_refill_22 : decode cX5_refill 22 = .ok (.iload_n 2, 1) := by decide +kernel
theorem dX5_refill_23 : decode cX5_refill 23 = .ok (.aload_n 0, 1) := by decide +kernel
theorem dX5_refill_24 : decode cX5_refill 24 = .ok (.aload_n 0, 1) := by decide +kernel
theorem dX5_refill_25 : decode cX5_refill 25 = .ok (.getfield 16, 3) := by decide +kernel
theorem dX5_refill_28 : decode cX5_refill 28 = .ok (.bipush 12, 2) := by decide +kernel
theorem dX5_refill_30 : decode cX5_refill 30 = .ok (.iaload, 1) := by decide +kernel
theorem dX5_refill_31 : decode cX5_refill 31 = .ok (.iload_n 1, 1) := by decide +kernel
theorem dX5_refill_32 : decode cX5_refill 32 = .ok (.invokevirtual 148, 3) := by decide +kernel
theorem dX5_refill_35 : decode cX5_refill 35 = .ok (.if_icmp .ne 19, 3) := by decide +kernel
theorem dX5_refill_38 : decode cX5_refill 38 = .ok (.aload_n 0, 1) := by decide +kernel
theorem dX5_refill_39 : decode cX5_refill 39 = .ok (.bipush 6, 2) := by decide +kernel
theorem dX5_refill_41 : decode cX5_refill 41 = .ok (.invokevirtual 91, 3) := by decide +kernel
theorem dX5_refill_44 : decode cX5_refill 44 = .ok (.iload_n 1, 1) := by decide +kernel
theorem dX5_refill_45 : decode cX5_refill 45 = .ok (.i2l, 1) := by decide +kernel
theorem dX5_refill_46 : decode cX5_refill 46 = .ok (.ladd, 1) := by decide +kernel
theorem dX5_refill_47 : decode cX5_refill 47 = .ok (.ldc2_w 152, 3) := by decide +kernel
theorem dX5_refill_50 : decode cX5_refill 50 = .ok (.lcmp, 1) := by decide +kernel
theorem dX5_refill_51 : decode cX5_refill 51 = .ok (.ifCond .lt 5, 3) := by decide +kernel
theorem dX5_refill_54 : decode cX5_refill 54 = .ok (.iconst 0, 1) := by decide +kernel
theorem dX5_refill_55 : decode cX5_refill 55 = .ok (.ireturn, 1) := by decide +kernel
theorem dX5_refill_56 : decode cX5_refill 56 = .ok (.aload_n 0, 1) := by decide +kernel
theorem dX5_refill_57 : decode cX5_refill 57 = .ok (.iconst 4, 1) := by decide +kernel
theorem dX5_refill_58 : decode cX5_refill 58 = .ok (.iload_n 1, 1) := by decide +kernel
theorem dX5_refill_59 : decode cX5_refill 59 = .ok (.iconst 0, 1) := by decide +kernel
theorem dX5_refill_60 : decode cX5_refill 60 = .ok (.invokevirtual 116, 3) := by decide +kernel
theorem dX5_refill_63 : decode cX5_refill 63 = .ok (.ifCond .eq 7, 3) := by decide +kernel
theorem dX5_refill_66 : decode cX5_refill 66 = .ok (.iconst 1, 1) := by decide +kernel
theorem dX5_refill_67 : decode cX5_refill 67 = .ok (.goto 5, 3) := by decide +kernel
theorem dX5_refill_70 : decode cX5_refill 70 = .ok (.bipush (-7), 2) := by decide +kernel
theorem dX5_refill_72 : decode cX5_refill 72 = .ok (.ireturn, 1) := by decide +kernel
theorem dX5_codeFor_0 : decode cX5_codeFor 0 = .ok (.aload_n 0, 1) := by decide +kernel
theorem dX5_codeFor_1 : decode cX5_codeFor 1 = .ok (.iconst 0, 1) := by decide +kernel
theorem dX5_codeFor_2 : decode cX5_codeFor 2 = .ok (.putfield 47, 3) := by decide +kernel
theorem dX5_codeFor_5 : decode cX5_codeFor 5 = .ok (.iload_n 1, 1) := by decide +kernel
theorem dX5_codeFor_6 : decode cX5_codeFor 6 = .ok (.ifCond .lt 7, 3) := by decide +kernel
theorem dX5_codeFor_9 : decode cX5_codeFor 9 = .ok (.iload_n 2, 1) := by decide +kernel
theorem dX5_codeFor_10 : decode cX5_codeFor 10 = .ok (.ifCond .ge 7, 3) := by decide +kernel
theorem dX5_codeFor_13 : decode cX5_codeFor 13 = .ok (.iconst (-1), 1) := by decide +kernel
theorem dX5_codeFor_14 : decode cX5_codeFor 14 = .ok (.goto 9, 3) := by decide +kernel
theorem dX5_codeFor_17 : decode cX5_codeFor 17 = .ok (.aload_n 0, 1) := by decide +kernel
theorem dX5_codeFor_18 : decode cX5_codeFor 18 = .ok (.iload_n 1, 1) := by decide +kernel
theorem dX5_codeFor_19 : decode cX5_codeFor 19 = .ok (.iload_n 2, 1) := by decide +kernel
theorem dX5_codeFor_20 : decode cX5_codeFor 20 = .ok (.invokevirtual 148, 3) := by decide +kernel
theorem dX5_codeFor_23 : decode cX5_codeFor 23 = .ok (.ireturn, 1) := by decide +kernel
theorem dX5_claimBack_0 : decode cX5_claimBack 0 = .ok (.aload_n 0, 1) := by decide +kernel
theorem dX5_claimBack_1 : decode cX5_claimBack 1 = .ok (.iconst 0, 1) := by decide +kernel
theorem dX5_claimBack_2 : decode cX5_claimBack 2 = .ok (.putfield 47, 3) := by decide +kernel
theorem dX5_claimBack_5 : decode cX5_claimBack 5 = .ok (.aload_n 0, 1) := by decide +kernel
theorem dX5_claimBack_6 : decode cX5_claimBack 6 = .ok (.getfield 28, 3) := by decide +kernel
theorem dX5_claimBack_9 : decode cX5_claimBack 9 = .ok (.ifCond .ne 6, 3) := by decide +kernel
theorem dX5_claimBack_12 : decode cX5_claimBack 12 = .ok (.bipush (-7), 2) := by decide +kernel
theorem dX5_claimBack_14 : decode cX5_claimBack 14 = .ok (.ireturn, 1) := by decide +kernel
theorem dX5_claimBack_15 : decode cX5_claimBack 15 = .ok (.aload_n 0, 1) := by decide +kernel
theorem dX5_claimBack_16 : decode cX5_claimBack 16 = .ok (.getfield 16, 3) := by decide +kernel
theorem dX5_claimBack_19 : decode cX5_claimBack 19 = .ok (.bipush 11, 2) := by decide +kernel
theorem dX5_claimBack_21 : decode cX5_claimBack 21 = .ok (.iaload, 1) := by decide +kernel
theorem dX5_claimBack_22 : decode cX5_claimBack 22 = .ok (.iconst 1, 1) := by decide +kernel
theorem dX5_claimBack_23 : decode cX5_claimBack 23 = .ok (.iadd, 1) := by decide +kernel
theorem dX5_claimBack_24 : decode cX5_claimBack 24 = .ok (.aload_n 0, 1) := by decide +kernel
theorem dX5_claimBack_25 : decode cX5_claimBack 25 = .ok (.getfield 16, 3) := by decide +kernel
theorem dX5_claimBack_28 : decode cX5_claimBack 28 = .ok (.bipush 10, 2) := by decide +kernel
theorem dX5_claimBack_30 : decode cX5_claimBack 30 = .ok (.iaload, 1) := by decide +kernel
theorem dX5_claimBack_31 : decode cX5_claimBack 31 = .ok (.bipush 100, 2) := by decide +kernel
theorem dX5_claimBack_33 : decode cX5_claimBack 33 = .ok (.idiv, 1) := by decide +kernel
theorem dX5_claimBack_34 : decode cX5_claimBack 34 = .ok (.if_icmp .le 7, 3) := by decide +kernel
theorem dX5_claimBack_37 : decode cX5_claimBack 37 = .ok (.iconst 1, 1) := by decide +kernel
theorem dX5_claimBack_38 : decode cX5_claimBack 38 = .ok (.goto 4, 3) := by decide +kernel
theorem dX5_claimBack_41 : decode cX5_claimBack 41 = .ok (.iconst 0, 1) := by decide +kernel
theorem dX5_claimBack_42 : decode cX5_claimBack 42 = .ok (.istore_n 3, 1) := by decide +kernel
theorem dX5_claimBack_43 : decode cX5_claimBack 43 = .ok (.iload_n 3, 1) := by decide +kernel
theorem dX5_claimBack_44 : decode cX5_claimBack 44 = .ok (.ifCond .ne 28, 3) := by decide +kernel
theorem dX5_claimBack_47 : decode cX5_claimBack 47 = .ok (.iload_n 2, 1) := by decide +kernel
theorem dX5_claimBack_48 : decode cX5_claimBack 48 = .ok (.invokestatic 128, 3) := by decide +kernel
theorem dX5_claimBack_51 : decode cX5_claimBack 51 = .ok (.ifCond .eq 21, 3) := by decide +kernel
theorem dX5_claimBack_54 : decode cX5_claimBack 54 = .ok (.iload_n 2, 1) := by decide +kernel
theorem dX5_claimBack_55 : decode cX5_claimBack 55 = .ok (.i2l, 1) := by decide +kernel
theorem dX5_claimBack_56 : decode cX5_claimBack 56 = .ok (.aload_n 0, 1) := by decide +kernel
theorem dX5_claimBack_57 : decode cX5_claimBack 57 = .ok (.iconst 2, 1) := by decide +kernel
theorem dX5_claimBack_58 : decode cX5_claimBack 58 = .ok (.invokevirtual 91, 3) := by decide +kernel
theorem dX5_claimBack_61 : decode cX5_claimBack 61 = .ok (.lcmp, 1) := by decide +kernel
theorem dX5_claimBack_62 : decode cX5_claimBack 62 = .ok (.ifCond .gt 10, 3) := by decide +kernel
theorem dX5_claimBack_65 : decode cX5_claimBack 65 = .ok (.iload_n 1, 1) := by decide +kernel
theorem dX5_claimBack_66 : decode cX5_claimBack 66 = .ok (.invokestatic 123, 3) := by decide +kernel
theorem dX5_claimBack_69 : decode cX5_claimBack 69 = .ok (.ifCond .ne 5, 3) := by decide +kernel
theorem dX5_claimBack_72 : decode cX5_claimBack 72 = .ok (.iconst 0, 1) := by decide +kernel
theorem dX5_claimBack_73 : decode cX5_claimBack 73 = .ok (.ireturn, 1) := by decide +kernel
theorem dX5_claimBack_74 : decode cX5_claimBack 74 = .ok (.aload_n 0, 1) := by decide +kernel
theorem dX5_claimBack_75 : decode cX5_claimBack 75 = .ok (.iconst 5, 1) := by decide +kernel
theorem dX5_claimBack_76 : decode cX5_claimBack 76 = .ok (.iload_n 2, 1) := by decide +kernel
theorem dX5_claimBack_77 : decode cX5_claimBack 77 = .ok (.iload_n 1, 1) := by decide +kernel
theorem dX5_claimBack_78 : decode cX5_claimBack 78 = .ok (.invokevirtual 116, 3) := by decide +kernel
theorem dX5_claimBack_81 : decode cX5_claimBack 81 = .ok (.ifCond .eq 7, 3) := by decide +kernel
theorem dX5_claimBack_84 : decode cX5_claimBack 84 = .ok (.iconst 1, 1) := by decide +kernel
theorem dX5_claimBack_85 : decode cX5_claimBack 85 = .ok (.goto 5, 3) := by decide +kernel
theorem dX5_claimBack_88 : decode cX5_claimBack 88 = .ok (.bipush (-7), 2) := by decide +kernel
theorem dX5_claimBack_90 : decode cX5_claimBack 90 = .ok (.ireturn, 1) := by decide +kernel
theorem dX5_book_0 : decode cX5_book 0 = .ok (.aload_n 0, 1) := by decide +kernel
theorem dX5_book_1 : decode cX5_book 1 = .ok (.iconst 0, 1) := by decide +kernel
theorem dX5_book_2 : decode cX5_book 2 = .ok (.putfield 47, 3) := by decide +kernel
theorem dX5_book_5 : decode cX5_book 5 = .ok (.aload_n 0, 1) := by decide +kernel
theorem dX5_book_6 : decode cX5_book 6 = .ok (.getfield 28, 3) := by decide +kernel
theorem dX5_book_9 : decode cX5_book 9 = .ok (.ifCond .ne 7, 3) := by decide +kernel
theorem dX5_book_12 : decode cX5_book 12 = .ok (.ldc2_w 154, 3) := by decide +kernel
theorem dX5_book_15 : decode cX5_book 15 = .ok (.lreturn, 1) := by decide +kernel
theorem dX5_book_16 : decode cX5_book 16 = .ok (.iload_n 1, 1) := by decide +kernel
theorem dX5_book_17 : decode cX5_book 17 = .ok (.i2l, 1) := by decide +kernel
theorem dX5_book_18 : decode cX5_book 18 = .ok (.lconst 0, 1) := by decide +kernel
theorem dX5_book_19 : decode cX5_book 19 = .ok (.ldc2_w 104, 3) := by decide +kernel
theorem dX5_book_22 : decode cX5_book 22 = .ok (.invokestatic 52, 3) := by decide +kernel
theorem dX5_book_25 : decode cX5_book 25 = .ok (.ifCond .ne 9, 3) := by decide +kernel
theorem dX5_book_28 : decode cX5_book 28 = .ok (.ldc2_w 138, 3) := by decide +kernel
theorem dX5_book_31 : decode cX5_book 31 = .ok (.goto 30, 3) := by decide +kernel
theorem dX5_book_34 : decode cX5_book 34 = .ok (.iload_n 1, 1) := by decide +kernel
theorem dX5_book_35 : decode cX5_book 35 = .ok (.iconst 4, 1) := by decide +kernel
theorem dX5_book_36 : decode cX5_book 36 = .ok (.if_icmp .ge 15, 3) := by decide +kernel
theorem dX5_book_39 : decode cX5_book 39 = .ok (.aload_n 0, 1) := by decide +kernel
theorem dX5_book_40 : decode cX5_book 40 = .ok (.iconst 2, 1) := by decide +kernel
theorem dX5_book_41 : decode cX5_book 41 = .ok (.iconst 2, 1) := by decide +kernel
theorem dX5_book_42 : decode cX5_book 42 = .ok (.iload_n 1, 1) := by decide +kernel
theorem dX5_book_43 : decode cX5_book 43 = .ok (.imul, 1) := by decide +kernel
theorem dX5_book_44 : decode cX5_book 44 = .ok (.iadd, 1) := by decide +kernel
theorem dX5_book_45 : decode cX5_book 45 = .ok (.invokevirtual 91, 3) := by decide +kernel
theorem dX5_book_48 : decode cX5_book 48 = .ok (.goto 13, 3) := by decide +kernel
theorem dX5_book_51 : decode cX5_book 51 = .ok (.aload_n 0, 1) := by decide +kernel
theorem dX5_book_52 : decode cX5_book 52 = .ok (.getfield 16, 3) := by decide +kernel
theorem dX5_book_55 : decode cX5_book 55 = .ok (.bipush 6, 2) := by decide +kernel
theorem dX5_book_57 : decode cX5_book 57 = .ok (.iload_n 1, 1) := by decide +kernel
theorem dX5_book_58 : decode cX5_book 58 = .ok (.iadd, 1) := by decide +kernel
theorem dX5_book_59 : decode cX5_book 59 = .ok (.iaload, 1) := by decide +kernel
theorem dX5_book_60 : decode cX5_book 60 = .ok (.i2l, 1) := by decide +kernel
theorem dX5_book_61 : decode cX5_book 61 = .ok (.lreturn, 1) := by decide +kernel
theorem dX5_counter_0 : decode cX5_counter 0 = .ok (.aload_n 0, 1) := by decide +kernel
theorem dX5_counter_1 : decode cX5_counter 1 = .ok (.iconst 0, 1) := by decide +kernel
theorem dX5_counter_2 : decode cX5_counter 2 = .ok (.putfield 47, 3) := by decide +kernel
theorem dX5_counter_5 : decode cX5_counter 5 = .ok (.aload_n 0, 1) := by decide +kernel
theorem dX5_counter_6 : decode cX5_counter 6 = .ok (.getfield 28, 3) := by decide +kernel
theorem dX5_counter_9 : decode cX5_counter 9 = .ok (.ifCond .ne 7, 3) := by decide +kernel
theorem dX5_counter_12 : decode cX5_counter 12 = .ok (.ldc2_w 154, 3) := by decide +kernel
theorem dX5_counter_15 : decode cX5_counter 15 = .ok (.lreturn, 1) := by decide +kernel
theorem dX5_counter_16 : decode cX5_counter 16 = .ok (.iload_n 1, 1) := by decide +kernel
theorem dX5_counter_17 : decode cX5_counter 17 = .ok (.i2l, 1) := by decide +kernel
theorem dX5_counter_18 : decode cX5_counter 18 = .ok (.lconst 0, 1) := by decide +kernel
theorem dX5_counter_19 : decode cX5_counter 19 = .ok (.ldc2_w 126, 3) := by decide +kernel
theorem dX5_counter_22 : decode cX5_counter 22 = .ok (.invokestatic 52, 3) := by decide +kernel
theorem dX5_counter_25 : decode cX5_counter 25 = .ok (.ifCond .eq 13, 3) := by decide +kernel
theorem dX5_counter_28 : decode cX5_counter 28 = .ok (.iload_n 2, 1) := by decide +kernel
theorem dX5_counter_29 : decode cX5_counter 29 = .ok (.i2l, 1) := by decide +kernel
theorem dX5_counter_30 : decode cX5_counter 30 = .ok (.lconst 0, 1) := by decide +kernel
theorem dX5_counter_31 : decode cX5_counter 31 = .ok (.lconst 1, 1) := by decide +kernel
theorem dX5_counter_32 : decode cX5_counter 32 = .ok (.invokestatic 52, 3) := by decide +kernel
theorem dX5_counter_35 : decode cX5_counter 35 = .ok (.ifCond .ne 7, 3) := by decide +kernel
theorem dX5_counter_38 : decode cX5_counter 38 = .ok (.ldc2_w 138, 3) := by decide +kernel
theorem dX5_counter_41 : decode cX5_counter 41 = .ok (.lreturn, 1) := by decide +kernel
theorem dX5_counter_42 : decode cX5_counter 42 = .ok (.bipush 17, 2) := by decide +kernel
theorem dX5_counter_44 : decode cX5_counter 44 = .ok (.iconst 3, 1) := by decide +kernel
theorem dX5_counter_45 : decode cX5_counter 45 = .ok (.iload_n 1, 1) := by decide +kernel
theorem dX5_counter_46 : decode cX5_counter 46 = .ok (.imul, 1) := by decide +kernel
theorem dX5_counter_47 : decode cX5_counter 47 = .ok (.iadd, 1) := by decide +kernel
theorem dX5_counter_48 : decode cX5_counter 48 = .ok (.istore_n 3, 1) := by decide +kernel
theorem dX5_counter_49 : decode cX5_counter 49 = .ok (.iload_n 2, 1) := by decide +kernel
theorem dX5_counter_50 : decode cX5_counter 50 = .ok (.ifCond .ne 13, 3) := by decide +kernel
theorem dX5_counter_53 : decode cX5_counter 53 = .ok (.aload_n 0, 1) := by decide +kernel
theorem dX5_counter_54 : decode cX5_counter 54 = .ok (.getfield 16, 3) := by decide +kernel
theorem dX5_counter_57 : decode cX5_counter 57 = .ok (.iload_n 3, 1) := by decide +kernel
theorem dX5_counter_58 : decode cX5_counter 58 = .ok (.iaload, 1) := by decide +kernel
theorem dX5_counter_59 : decode cX5_counter 59 = .ok (.i2l, 1) := by decide +kernel
theorem dX5_counter_60 : decode cX5_counter 60 = .ok (.goto 10, 3) := by decide +kernel
theorem dX5_counter_63 : decode cX5_counter 63 = .ok (.aload_n 0, 1) := by decide +kernel
theorem dX5_counter_64 : decode cX5_counter 64 = .ok (.iload_n 3, 1) := by decide +kernel
theorem dX5_counter_65 : decode cX5_counter 65 = .ok (.iconst 1, 1) := by decide +kernel
theorem dX5_counter_66 : decode cX5_counter 66 = .ok (.iadd, 1) := by decide +kernel
theorem dX5_counter_67 : decode cX5_counter 67 = .ok (.invokevirtual 91, 3) := by decide +kernel
theorem dX5_counter_70 : decode cX5_counter 70 = .ok (.lreturn, 1) := by decide +kernel
theorem dX5_dayTotal_0 : decode cX5_dayTotal 0 = .ok (.aload_n 0, 1) := by decide +kernel
theorem dX5_dayTotal_1 : decode cX5_dayTotal 1 = .ok (.iconst 0, 1) := by decide +kernel
theorem dX5_dayTotal_2 : decode cX5_dayTotal 2 = .ok (.putfield 47, 3) := by decide +kernel
theorem dX5_dayTotal_5 : decode cX5_dayTotal 5 = .ok (.aload_n 0, 1) := by decide +kernel
theorem dX5_dayTotal_6 : decode cX5_dayTotal 6 = .ok (.getfield 28, 3) := by decide +kernel
theorem dX5_dayTotal_9 : decode cX5_dayTotal 9 = .ok (.ifCond .ne 7, 3) := by decide +kernel
theorem dX5_dayTotal_12 : decode cX5_dayTotal 12 = .ok (.ldc2_w 154, 3) := by decide +kernel
theorem dX5_dayTotal_15 : decode cX5_dayTotal 15 = .ok (.lreturn, 1) := by decide +kernel
theorem dX5_dayTotal_16 : decode cX5_dayTotal 16 = .ok (.iload_n 1, 1) := by decide +kernel
theorem dX5_dayTotal_17 : decode cX5_dayTotal 17 = .ok (.invokestatic 123, 3) := by decide +kernel
theorem dX5_dayTotal_20 : decode cX5_dayTotal 20 = .ok (.ifCond .eq 13, 3) := by decide +kernel
theorem dX5_dayTotal_23 : decode cX5_dayTotal 23 = .ok (.iload_n 2, 1) := by decide +kernel
theorem dX5_dayTotal_24 : decode cX5_dayTotal 24 = .ok (.i2l, 1) := by decide +kernel
theorem dX5_dayTotal_25 : decode cX5_dayTotal 25 = .ok (.lconst 0, 1) := by decide +kernel
theorem dX5_dayTotal_26 : decode cX5_dayTotal 26 = .ok (.lconst 1, 1) := by decide +kernel
theorem dX5_dayTotal_27 : decode cX5_dayTotal 27 = .ok (.invokestatic 52, 3) := by decide +kernel
theorem dX5_dayTotal_30 : decode cX5_dayTotal 30 = .ok (.ifCond .ne 7, 3) := by decide +kernel
theorem dX5_dayTotal_33 : decode cX5_dayTotal 33 = .ok (.ldc2_w 138, 3) := by decide +kernel
theorem dX5_dayTotal_36 : decode cX5_dayTotal 36 = .ok (.lreturn, 1) := by decide +kernel
theorem dX5_dayTotal_37 : decode cX5_dayTotal 37 = .ok (.bipush 65, 2) := by decide +kernel
theorem dX5_dayTotal_39 : decode cX5_dayTotal 39 = .ok (.iconst 4, 1) := by decide +kernel
theorem dX5_dayTotal_40 : decode cX5_dayTotal 40 = .ok (.iload_n 1, 1) := by decide +kernel
theorem dX5_dayTotal_41 : decode cX5_dayTotal 41 = .ok (.bipush 32, 2) := by decide +kernel
theorem dX5_dayTotal_43 : decode cX5_dayTotal 43 = .ok (.irem, 1) := by decide +kernel
theorem dX5_dayTotal_44 : decode cX5_dayTotal 44 = .ok (.imul, 1) := by decide +kernel
theorem dX5_dayTotal_45 : decode cX5_dayTotal 45 = .ok (.iadd, 1) := by decide +kernel
theorem dX5_dayTotal_46 : decode cX5_dayTotal 46 = .ok (.istore_n 3, 1) := by decide +kernel
theorem dX5_dayTotal_47 : decode cX5_dayTotal 47 = .ok (.aload_n 0, 1) := by decide +kernel
theorem dX5_dayTotal_48 : decode cX5_dayTotal 48 = .ok (.getfield 16, 3) := by decide +kernel
theorem dX5_dayTotal_51 : decode cX5_dayTotal 51 = .ok (.iload_n 3, 1) := by decide +kernel
theorem dX5_dayTotal_52 : decode cX5_dayTotal 52 = .ok (.iaload, 1) := by decide +kernel
theorem dX5_dayTotal_53 : decode cX5_dayTotal 53 = .ok (.iload_n 1, 1) := by decide +kernel
theorem dX5_dayTotal_54 : decode cX5_dayTotal 54 = .ok (.if_icmp .eq 7, 3) := by decide +kernel
theorem dX5_dayTotal_57 : decode cX5_dayTotal 57 = .ok (.lconst 0, 1) := by decide +kernel
theorem dX5_dayTotal_58 : decode cX5_dayTotal 58 = .ok (.goto 26, 3) := by decide +kernel
theorem dX5_dayTotal_61 : decode cX5_dayTotal 61 = .ok (.iload_n 2, 1) := by decide +kernel
theorem dX5_dayTotal_62 : decode cX5_dayTotal 62 = .ok (.ifCond .ne 15, 3) := by decide +kernel
theorem dX5_dayTotal_65 : decode cX5_dayTotal 65 = .ok (.aload_n 0, 1) := by decide +kernel
theorem dX5_dayTotal_66 : decode cX5_dayTotal 66 = .ok (.getfield 16, 3) := by decide +kernel
theorem dX5_dayTotal_69 : decode cX5_dayTotal 69 = .ok (.iload_n 3, 1) := by decide +kernel
theorem dX5_dayTotal_70 : decode cX5_dayTotal 70 = .ok (.iconst 1, 1) := by decide +kernel
theorem dX5_dayTotal_71 : decode cX5_dayTotal 71 = .ok (.iadd, 1) := by decide +kernel
theorem dX5_dayTotal_72 : decode cX5_dayTotal 72 = .ok (.iaload, 1) := by decide +kernel
theorem dX5_dayTotal_73 : decode cX5_dayTotal 73 = .ok (.i2l, 1) := by decide +kernel
theorem dX5_dayTotal_74 : decode cX5_dayTotal 74 = .ok (.goto 10, 3) := by decide +kernel
theorem dX5_dayTotal_77 : decode cX5_dayTotal 77 = .ok (.aload_n 0, 1) := by decide +kernel
theorem dX5_dayTotal_78 : decode cX5_dayTotal 78 = .ok (.iload_n 3, 1) := by decide +kernel
theorem dX5_dayTotal_79 : decode cX5_dayTotal 79 = .ok (.iconst 2, 1) := by decide +kernel
theorem dX5_dayTotal_80 : decode cX5_dayTotal 80 = .ok (.iadd, 1) := by decide +kernel
theorem dX5_dayTotal_81 : decode cX5_dayTotal 81 = .ok (.invokevirtual 91, 3) := by decide +kernel
theorem dX5_dayTotal_84 : decode cX5_dayTotal 84 = .ok (.lreturn, 1) := by decide +kernel
theorem dX5_inspect_0 : decode cX5_inspect 0 = .ok (.aload_n 0, 1) := by decide +kernel
theorem dX5_inspect_1 : decode cX5_inspect 1 = .ok (.iconst 0, 1) := by decide +kernel
theorem dX5_inspect_2 : decode cX5_inspect 2 = .ok (.putfield 47, 3) := by decide +kernel
theorem dX5_inspect_5 : decode cX5_inspect 5 = .ok (.aload_n 0, 1) := by decide +kernel
theorem dX5_inspect_6 : decode cX5_inspect 6 = .ok (.getfield 28, 3) := by decide +kernel
theorem dX5_inspect_9 : decode cX5_inspect 9 = .ok (.ifCond .ne 6, 3) := by decide +kernel
theorem dX5_inspect_12 : decode cX5_inspect 12 = .ok (.bipush (-7), 2) := by decide +kernel
theorem dX5_inspect_14 : decode cX5_inspect 14 = .ok (.ireturn, 1) := by decide +kernel
theorem dX5_inspect_15 : decode cX5_inspect 15 = .ok (.iload_n 1, 1) := by decide +kernel
theorem dX5_inspect_16 : decode cX5_inspect 16 = .ok (.invokestatic 123, 3) := by decide +kernel
theorem dX5_inspect_19 : decode cX5_inspect 19 = .ok (.ifCond .eq 14, 3) := by decide +kernel
theorem dX5_inspect_22 : decode cX5_inspect 22 = .ok (.iload_n 1, 1) := by decide +kernel
theorem dX5_inspect_23 : decode cX5_inspect 23 = .ok (.aload_n 0, 1) := by decide +kernel
theorem dX5_inspect_24 : decode cX5_inspect 24 = .ok (.getfield 16, 3) := by decide +kernel
theorem dX5_inspect_27 : decode cX5_inspect 27 = .ok (.bipush 14, 2) := by decide +kernel
theorem dX5_inspect_29 : decode cX5_inspect 29 = .ok (.iaload, 1) := by decide +kernel
theorem dX5_inspect_30 : decode cX5_inspect 30 = .ok (.if_icmp .ge 5, 3) := by decide +kernel
theorem dX5_inspect_33 : decode cX5_inspect 33 = .ok (.iconst 0, 1) := by decide +kernel
theorem dX5_inspect_34 : decode cX5_inspect 34 = .ok (.ireturn, 1) := by decide +kernel
theorem dX5_inspect_35 : decode cX5_inspect 35 = .ok (.aload_n 0, 1) := by decide +kernel
theorem dX5_inspect_36 : decode cX5_inspect 36 = .ok (.bipush 6, 2) := by decide +kernel
theorem dX5_inspect_38 : decode cX5_inspect 38 = .ok (.iload_n 1, 1) := by decide +kernel
theorem dX5_inspect_39 : decode cX5_inspect 39 = .ok (.iconst 0, 1) := by decide +kernel
theorem dX5_inspect_40 : decode cX5_inspect 40 = .ok (.invokevirtual 116, 3) := by decide +kernel
theorem dX5_inspect_43 : decode cX5_inspect 43 = .ok (.ifCond .eq 7, 3) := by decide +kernel
theorem dX5_inspect_46 : decode cX5_inspect 46 = .ok (.iconst 1, 1) := by decide +kernel
theorem dX5_inspect_47 : decode cX5_inspect 47 = .ok (.goto 5, 3) := by decide +kernel
theorem dX5_inspect_50 : decode cX5_inspect 50 = .ok (.bipush (-7), 2) := by decide +kernel
theorem dX5_inspect_52 : decode cX5_inspect 52 = .ok (.ireturn, 1) := by decide +kernel
theorem dX5_lock_0 : decode cX5_lock 0 = .ok (.aload_n 0, 1) := by decide +kernel
theorem dX5_lock_1 : decode cX5_lock 1 = .ok (.iconst 0, 1) := by decide +kernel
theorem dX5_lock_2 : decode cX5_lock 2 = .ok (.putfield 47, 3) := by decide +kernel
theorem dX5_lock_5 : decode cX5_lock 5 = .ok (.aload_n 0, 1) := by decide +kernel
theorem dX5_lock_6 : decode cX5_lock 6 = .ok (.getfield 28, 3) := by decide +kernel
theorem dX5_lock_9 : decode cX5_lock 9 = .ok (.ifCond .ne 6, 3) := by decide +kernel
theorem dX5_lock_12 : decode cX5_lock 12 = .ok (.bipush (-7), 2) := by decide +kernel
theorem dX5_lock_14 : decode cX5_lock 14 = .ok (.ireturn, 1) := by decide +kernel
theorem dX5_lock_15 : decode cX5_lock 15 = .ok (.aload_n 0, 1) := by decide +kernel
theorem dX5_lock_16 : decode cX5_lock 16 = .ok (.getfield 16, 3) := by decide +kernel
theorem dX5_lock_19 : decode cX5_lock 19 = .ok (.bipush 13, 2) := by decide +kernel
theorem dX5_lock_21 : decode cX5_lock 21 = .ok (.iaload, 1) := by decide +kernel
theorem dX5_lock_22 : decode cX5_lock 22 = .ok (.iconst 1, 1) := by decide +kernel
theorem dX5_lock_23 : decode cX5_lock 23 = .ok (.if_icmp .ne 5, 3) := by decide +kernel
theorem dX5_lock_26 : decode cX5_lock 26 = .ok (.iconst 0, 1) := by decide +kernel
theorem dX5_lock_27 : decode cX5_lock 27 = .ok (.ireturn, 1) := by decide +kernel
theorem dX5_lock_28 : decode cX5_lock 28 = .ok (.aload_n 0, 1) := by decide +kernel
theorem dX5_lock_29 : decode cX5_lock 29 = .ok (.bipush 7, 2) := by decide +kernel
theorem dX5_lock_31 : decode cX5_lock 31 = .ok (.iconst 0, 1) := by decide +kernel
theorem dX5_lock_32 : decode cX5_lock 32 = .ok (.iconst 0, 1) := by decide +kernel
theorem dX5_lock_33 : decode cX5_lock 33 = .ok (.invokevirtual 116, 3) := by decide +kernel
theorem dX5_lock_36 : decode cX5_lock 36 = .ok (.ifCond .eq 7, 3) := by decide +kernel
theorem dX5_lock_39 : decode cX5_lock 39 = .ok (.iconst 1, 1) := by decide +kernel
theorem dX5_lock_40 : decode cX5_lock 40 = .ok (.goto 5, 3) := by decide +kernel
theorem dX5_lock_43 : decode cX5_lock 43 = .ok (.bipush (-7), 2) := by decide +kernel
theorem dX5_lock_45 : decode cX5_lock 45 = .ok (.ireturn, 1) := by decide +kernel
theorem dX5_unlock_0 : decode cX5_unlock 0 = .ok (.aload_n 0, 1) := by decide +kernel
theorem dX5_unlock_1 : decode cX5_unlock 1 = .ok (.iconst 0, 1) := by decide +kernel
theorem dX5_unlock_2 : decode cX5_unlock 2 = .ok (.putfield 47, 3) := by decide +kernel
theorem dX5_unlock_5 : decode cX5_unlock 5 = .ok (.aload_n 0, 1) := by decide +kernel
theorem dX5_unlock_6 : decode cX5_unlock 6 = .ok (.getfield 28, 3) := by decide +kernel
theorem dX5_unlock_9 : decode cX5_unlock 9 = .ok (.ifCond .ne 6, 3) := by decide +kernel
theorem dX5_unlock_12 : decode cX5_unlock 12 = .ok (.bipush (-7), 2) := by decide +kernel
theorem dX5_unlock_14 : decode cX5_unlock 14 = .ok (.ireturn, 1) := by decide +kernel
theorem dX5_unlock_15 : decode cX5_unlock 15 = .ok (.aload_n 0, 1) := by decide +kernel
theorem dX5_unlock_16 : decode cX5_unlock 16 = .ok (.getfield 16, 3) := by decide +kernel
theorem dX5_unlock_19 : decode cX5_unlock 19 = .ok (.bipush 13, 2) := by decide +kernel
theorem dX5_unlock_21 : decode cX5_unlock 21 = .ok (.iaload, 1) := by decide +kernel
theorem dX5_unlock_22 : decode cX5_unlock 22 = .ok (.ifCond .eq 19, 3) := by decide +kernel
theorem dX5_unlock_25 : decode cX5_unlock 25 = .ok (.iload_n 1, 1) := by decide +kernel
theorem dX5_unlock_26 : decode cX5_unlock 26 = .ok (.aload_n 0, 1) := by decide +kernel
theorem dX5_unlock_27 : decode cX5_unlock 27 = .ok (.aload_n 0, 1) := by decide +kernel
theorem dX5_unlock_28 : decode cX5_unlock 28 = .ok (.getfield 16, 3) := by decide +kernel
theorem dX5_unlock_31 : decode cX5_unlock 31 = .ok (.bipush 12, 2) := by decide +kernel
theorem dX5_unlock_33 : decode cX5_unlock 33 = .ok (.iaload, 1) := by decide +kernel
theorem dX5_unlock_34 : decode cX5_unlock 34 = .ok (.iconst 0, 1) := by decide +kernel
theorem dX5_unlock_35 : decode cX5_unlock 35 = .ok (.invokevirtual 148, 3) := by decide +kernel
theorem dX5_unlock_38 : decode cX5_unlock 38 = .ok (.if_icmp .eq 5, 3) := by decide +kernel
theorem dX5_unlock_41 : decode cX5_unlock 41 = .ok (.iconst 0, 1) := by decide +kernel
theorem dX5_unlock_42 : decode cX5_unlock 42 = .ok (.ireturn, 1) := by decide +kernel
theorem dX5_unlock_43 : decode cX5_unlock 43 = .ok (.aload_n 0, 1) := by decide +kernel
theorem dX5_unlock_44 : decode cX5_unlock 44 = .ok (.bipush 8, 2) := by decide +kernel
theorem dX5_unlock_46 : decode cX5_unlock 46 = .ok (.iconst 0, 1) := by decide +kernel
theorem dX5_unlock_47 : decode cX5_unlock 47 = .ok (.iconst 0, 1) := by decide +kernel
theorem dX5_unlock_48 : decode cX5_unlock 48 = .ok (.invokevirtual 116, 3) := by decide +kernel
theorem dX5_unlock_51 : decode cX5_unlock 51 = .ok (.ifCond .eq 7, 3) := by decide +kernel
theorem dX5_unlock_54 : decode cX5_unlock 54 = .ok (.iconst 1, 1) := by decide +kernel
theorem dX5_unlock_55 : decode cX5_unlock 55 = .ok (.goto 5, 3) := by decide +kernel
theorem dX5_unlock_58 : decode cX5_unlock 58 = .ok (.bipush (-7), 2) := by decide +kernel
theorem dX5_unlock_60 : decode cX5_unlock 60 = .ok (.ireturn, 1) := by decide +kernel
theorem dX5_cut_0 : decode cX5_cut 0 = .ok (.aload_n 0, 1) := by decide +kernel
theorem dX5_cut_1 : decode cX5_cut 1 = .ok (.iconst 0, 1) := by decide +kernel
theorem dX5_cut_2 : decode cX5_cut 2 = .ok (.putfield 47, 3) := by decide +kernel
theorem dX5_cut_5 : decode cX5_cut 5 = .ok (.iload_n 1, 1) := by decide +kernel
theorem dX5_cut_6 : decode cX5_cut 6 = .ok (.i2l, 1) := by decide +kernel
theorem dX5_cut_7 : decode cX5_cut 7 = .ok (.lconst 0, 1) := by decide +kernel
theorem dX5_cut_8 : decode cX5_cut 8 = .ok (.ldc2_w 121, 3) := by decide +kernel
theorem dX5_cut_11 : decode cX5_cut 11 = .ok (.invokestatic 52, 3) := by decide +kernel
theorem dX5_cut_14 : decode cX5_cut 14 = .ok (.ifCond .ne 5, 3) := by decide +kernel
theorem dX5_cut_17 : decode cX5_cut 17 = .ok (.iconst (-1), 1) := by decide +kernel
theorem dX5_cut_18 : decode cX5_cut 18 = .ok (.ireturn, 1) := by decide +kernel
theorem dX5_cut_19 : decode cX5_cut 19 = .ok (.aload_n 0, 1) := by decide +kernel
theorem dX5_cut_20 : decode cX5_cut 20 = .ok (.iload_n 1, 1) := by decide +kernel
theorem dX5_cut_21 : decode cX5_cut 21 = .ok (.putfield 32, 3) := by decide +kernel
theorem dX5_cut_24 : decode cX5_cut 24 = .ok (.aload_n 0, 1) := by decide +kernel
theorem dX5_cut_25 : decode cX5_cut 25 = .ok (.iload_n 2, 1) := by decide +kernel
theorem dX5_cut_26 : decode cX5_cut 26 = .ok (.putfield 60, 3) := by decide +kernel
theorem dX5_cut_29 : decode cX5_cut 29 = .ok (.iconst 1, 1) := by decide +kernel
theorem dX5_cut_30 : decode cX5_cut 30 = .ok (.ireturn, 1) := by decide +kernel
theorem dX5_mount_0 : decode cX5_mount 0 = .ok (.aload_n 0, 1) := by decide +kernel
theorem dX5_mount_1 : decode cX5_mount 1 = .ok (.iconst 0, 1) := by decide +kernel
theorem dX5_mount_2 : decode cX5_mount 2 = .ok (.putfield 47, 3) := by decide +kernel
theorem dX5_mount_5 : decode cX5_mount 5 = .ok (.aload_n 0, 1) := by decide +kernel
theorem dX5_mount_6 : decode cX5_mount 6 = .ok (.iconst 1, 1) := by decide +kernel
theorem dX5_mount_7 : decode cX5_mount 7 = .ok (.putfield 28, 3) := by decide +kernel
theorem dX5_mount_10 : decode cX5_mount 10 = .ok (.iconst (-1), 1) := by decide +kernel
theorem dX5_mount_11 : decode cX5_mount 11 = .ok (.istore_n 1, 1) := by decide +kernel
theorem dX5_mount_12 : decode cX5_mount 12 = .ok (.iconst 0, 1) := by decide +kernel
theorem dX5_mount_13 : decode cX5_mount 13 = .ok (.istore_n 2, 1) := by decide +kernel
theorem dX5_mount_14 : decode cX5_mount 14 = .ok (.iload_n 2, 1) := by decide +kernel
theorem dX5_mount_15 : decode cX5_mount 15 = .ok (.bipush 16, 2) := by decide +kernel
theorem dX5_mount_17 : decode cX5_mount 17 = .ok (.if_icmp .ge 81, 3) := by decide +kernel
theorem dX5_mount_20 : decode cX5_mount 20 = .ok (.aload_n 0, 1) := by decide +kernel
theorem dX5_mount_21 : decode cX5_mount 21 = .ok (.getfield 7, 3) := by decide +kernel
theorem dX5_mount_24 : decode cX5_mount 24 = .ok (.sipush 256, 3) := by decide +kernel
theorem dX5_mount_27 : decode cX5_mount 27 = .ok (.iload_n 2, 1) := by decide +kernel
theorem dX5_mount_28 : decode cX5_mount 28 = .ok (.imul, 1) := by decide +kernel
theorem dX5_mount_29 : decode cX5_mount 29 = .ok (.sipush 193, 3) := by decide +kernel
theorem dX5_mount_32 : decode cX5_mount 32 = .ok (.iadd, 1) := by decide +kernel
theorem dX5_mount_33 : decode cX5_mount 33 = .ok (.iaload, 1) := by decide +kernel
theorem dX5_mount_34 : decode cX5_mount 34 = .ok (.aload_n 0, 1) := by decide +kernel
theorem dX5_mount_35 : decode cX5_mount 35 = .ok (.sipush 256, 3) := by decide +kernel
theorem dX5_mount_38 : decode cX5_mount 38 = .ok (.iload_n 2, 1) := by decide +kernel
theorem dX5_mount_39 : decode cX5_mount 39 = .ok (.imul, 1) := by decide +kernel
theorem dX5_mount_40 : decode cX5_mount 40 = .ok (.sipush 193, 3) := by decide +kernel
theorem dX5_mount_43 : decode cX5_mount 43 = .ok (.invokevirtual 156, 3) := by decide +kernel
theorem dX5_mount_46 : decode cX5_mount 46 = .ok (.if_icmp .ne 7, 3) := by decide +kernel
theorem dX5_mount_49 : decode cX5_mount 49 = .ok (.iconst 1, 1) := by decide +kernel
theorem dX5_mount_50 : decode cX5_mount 50 = .ok (.goto 4, 3) := by decide +kernel
theorem dX5_mount_53 : decode cX5_mount 53 = .ok (.iconst 0, 1) := by decide +kernel
theorem dX5_mount_54 : decode cX5_mount 54 = .ok (.istore_n 3, 1) := by decide +kernel
theorem dX5_mount_55 : decode cX5_mount 55 = .ok (.iload_n 3, 1) := by decide +kernel
theorem dX5_mount_56 : decode cX5_mount 56 = .ok (.ifCond .eq 34, 3) := by decide +kernel
theorem dX5_mount_59 : decode cX5_mount 59 = .ok (.iload_n 1, 1) := by decide +kernel
theorem dX5_mount_60 : decode cX5_mount 60 = .ok (.ifCond .lt 26, 3) := by decide +kernel
theorem dX5_mount_63 : decode cX5_mount 63 = .ok (.aload_n 0, 1) := by decide +kernel
theorem dX5_mount_64 : decode cX5_mount 64 = .ok (.getfield 7, 3) := by decide +kernel
theorem dX5_mount_67 : decode cX5_mount 67 = .ok (.sipush 256, 3) := by decide +kernel
theorem dX5_mount_70 : decode cX5_mount 70 = .ok (.iload_n 2, 1) := by decide +kernel
theorem dX5_mount_71 : decode cX5_mount 71 = .ok (.imul, 1) := by decide +kernel
theorem dX5_mount_72 : decode cX5_mount 72 = .ok (.iaload, 1) := by decide +kernel
theorem dX5_mount_73 : decode cX5_mount 73 = .ok (.aload_n 0, 1) := by decide +kernel
theorem dX5_mount_74 : decode cX5_mount 74 = .ok (.getfield 7, 3) := by decide +kernel
theorem dX5_mount_77 : decode cX5_mount 77 = .ok (.sipush 256, 3) := by decide +kernel
theorem dX5_mount_80 : decode cX5_mount 80 = .ok (.iload_n 1, 1) := by decide +kernel
theorem dX5_mount_81 : decode cX5_mount 81 = .ok (.imul, 1) := by decide +kernel
theorem dX5_mount_82 : decode cX5_mount 82 = .ok (.iaload, 1) := by decide +kernel
theorem dX5_mount_83 : decode cX5_mount 83 = .ok (.if_icmp .le 7, 3) := by decide +kernel
theorem dX5_mount_86 : decode cX5_mount 86 = .ok (.iload_n 2, 1) := by decide +kernel
theorem dX5_mount_87 : decode cX5_mount 87 = .ok (.goto 4, 3) := by decide +kernel
theorem dX5_mount_90 : decode cX5_mount 90 = .ok (.iload_n 1, 1) := by decide +kernel
theorem dX5_mount_91 : decode cX5_mount 91 = .ok (.istore_n 1, 1) := by decide +kernel
theorem dX5_mount_92 : decode cX5_mount 92 = .ok (.iinc 2 1, 3) := by decide +kernel
theorem dX5_mount_95 : decode cX5_mount 95 = .ok (.goto (-81), 3) := by decide +kernel
theorem dX5_mount_98 : decode cX5_mount 98 = .ok (.aload_n 0, 1) := by decide +kernel
theorem dX5_mount_99 : decode cX5_mount 99 = .ok (.iload_n 1, 1) := by decide +kernel
theorem dX5_mount_100 : decode cX5_mount 100 = .ok (.putfield 40, 3) := by decide +kernel
theorem dX5_mount_103 : decode cX5_mount 103 = .ok (.aload_n 0, 1) := by decide +kernel
theorem dX5_mount_104 : decode cX5_mount 104 = .ok (.aload_n 0, 1) := by decide +kernel
theorem dX5_mount_105 : decode cX5_mount 105 = .ok (.getfield 7, 3) := by decide +kernel
theorem dX5_mount_108 : decode cX5_mount 108 = .ok (.sipush 256, 3) := by decide +kernel
theorem dX5_mount_111 : decode cX5_mount 111 = .ok (.iload_n 1, 1) := by decide +kernel
theorem dX5_mount_112 : decode cX5_mount 112 = .ok (.imul, 1) := by decide +kernel
theorem dX5_mount_113 : decode cX5_mount 113 = .ok (.iconst 1, 1) := by decide +kernel
theorem dX5_mount_114 : decode cX5_mount 114 = .ok (.iadd, 1) := by decide +kernel
theorem dX5_mount_115 : decode cX5_mount 115 = .ok (.iaload, 1) := by decide +kernel
theorem dX5_mount_116 : decode cX5_mount 116 = .ok (.putfield 74, 3) := by decide +kernel
theorem dX5_mount_119 : decode cX5_mount 119 = .ok (.iconst 2, 1) := by decide +kernel
theorem dX5_mount_120 : decode cX5_mount 120 = .ok (.istore_n 2, 1) := by decide +kernel
theorem dX5_mount_121 : decode cX5_mount 121 = .ok (.iload_n 2, 1) := by decide +kernel
theorem dX5_mount_122 : decode cX5_mount 122 = .ok (.sipush 193, 3) := by decide +kernel
theorem dX5_mount_125 : decode cX5_mount 125 = .ok (.if_icmp .ge 27, 3) := by decide +kernel
theorem dX5_mount_128 : decode cX5_mount 128 = .ok (.aload_n 0, 1) := by decide +kernel
theorem dX5_mount_129 : decode cX5_mount 129 = .ok (.getfield 16, 3) := by decide +kernel
theorem dX5_mount_132 : decode cX5_mount 132 = .ok (.iload_n 2, 1) := by decide +kernel
theorem dX5_mount_133 : decode cX5_mount 133 = .ok (.aload_n 0, 1) := by decide +kernel
theorem dX5_mount_134 : decode cX5_mount 134 = .ok (.getfield 7, 3) := by decide +kernel
theorem dX5_mount_137 : decode cX5_mount 137 = .ok (.sipush 256, 3) := by decide +kernel
theorem dX5_mount_140 : decode cX5_mount 140 = .ok (.iload_n 1, 1) := by decide +kernel
theorem dX5_mount_141 : decode cX5_mount 141 = .ok (.imul, 1) := by decide +kernel
theorem dX5_mount_142 : decode cX5_mount 142 = .ok (.iload_n 2, 1) := by decide +kernel
theorem dX5_mount_143 : decode cX5_mount 143 = .ok (.iadd, 1) := by decide +kernel
theorem dX5_mount_144 : decode cX5_mount 144 = .ok (.iaload, 1) := by decide +kernel
theorem dX5_mount_145 : decode cX5_mount 145 = .ok (.iastore, 1) := by decide +kernel
theorem dX5_mount_146 : decode cX5_mount 146 = .ok (.iinc 2 1, 3) := by decide +kernel
theorem dX5_mount_149 : decode cX5_mount 149 = .ok (.goto (-28), 3) := by decide +kernel
theorem dX5_mount_152 : decode cX5_mount 152 = .ok (.aload_n 0, 1) := by decide +kernel
theorem dX5_mount_153 : decode cX5_mount 153 = .ok (.iconst 0, 1) := by decide +kernel
theorem dX5_mount_154 : decode cX5_mount 154 = .ok (.putfield 71, 3) := by decide +kernel
theorem dX5_mount_157 : decode cX5_mount 157 = .ok (.iconst 1, 1) := by decide +kernel
theorem dX5_mount_158 : decode cX5_mount 158 = .ok (.istore_n 2, 1) := by decide +kernel
theorem dX5_mount_159 : decode cX5_mount 159 = .ok (.iload_n 2, 1) := by decide +kernel
theorem dX5_mount_160 : decode cX5_mount 160 = .ok (.ifCond .eq 122, 3) := by decide +kernel
theorem dX5_mount_163 : decode cX5_mount 163 = .ok (.aload_n 0, 1) := by decide +kernel
theorem dX5_mount_164 : decode cX5_mount 164 = .ok (.getfield 71, 3) := by decide +kernel
theorem dX5_mount_167 : decode cX5_mount 167 = .ok (.bipush 12, 2) := by decide +kernel
theorem dX5_mount_169 : decode cX5_mount 169 = .ok (.if_icmp .ge 113, 3) := by decide +kernel
theorem dX5_mount_172 : decode cX5_mount 172 = .ok (.sipush 256, 3) := by decide +kernel
theorem dX5_mount_175 : decode cX5_mount 175 = .ok (.iload_n 1, 1) := by decide +kernel
theorem dX5_mount_176 : decode cX5_mount 176 = .ok (.imul, 1) := by decide +kernel
theorem dX5_mount_177 : decode cX5_mount 177 = .ok (.sipush 194, 3) := by decide +kernel
theorem dX5_mount_180 : decode cX5_mount 180 = .ok (.iadd, 1) := by decide +kernel
theorem dX5_mount_181 : decode cX5_mount 181 = .ok (.iconst 5, 1) := by decide +kernel
theorem dX5_mount_182 : decode cX5_mount 182 = .ok (.aload_n 0, 1) := by decide +kernel
theorem dX5_mount_183 : decode cX5_mount 183 = .ok (.getfield 71, 3) := by decide +kernel
theorem dX5_mount_186 : decode cX5_mount 186 = .ok (.imul, 1) := by decide +kernel
theorem dX5_mount_187 : decode cX5_mount 187 = .ok (.iadd, 1) := by decide +kernel
theorem dX5_mount_188 : decode cX5_mount 188 = .ok (.istore_n 3, 1) := by decide +kernel
theorem dX5_mount_189 : decode cX5_mount 189 = .ok (.aload_n 0, 1) := by decide +kernel
theorem dX5_mount_190 : decode cX5_mount 190 = .ok (.getfield 7, 3) := by decide +kernel
theorem dX5_mount_193 : decode cX5_mount 193 = .ok (.iload_n 3, 1) := by decide +kernel
theorem dX5_mount_194 : decode cX5_mount 194 = .ok (.iaload, 1) := by decide +kernel
theorem dX5_mount_195 : decode cX5_mount 195 = .ok (.aload_n 0, 1) := by decide +kernel
theorem dX5_mount_196 : decode cX5_mount 196 = .ok (.getfield 74, 3) := by decide +kernel
theorem dX5_mount_199 : decode cX5_mount 199 = .ok (.iconst 1, 1) := by decide +kernel
theorem dX5_mount_200 : decode cX5_mount 200 = .ok (.iadd, 1) := by decide +kernel
theorem dX5_mount_201 : decode cX5_mount 201 = .ok (.if_icmp .ne 24, 3) := by decide +kernel
theorem dX5_mount_204 : decode cX5_mount 204 = .ok (.aload_n 0, 1) := by decide +kernel
theorem dX5_mount_205 : decode cX5_mount 205 = .ok (.getfield 7, 3) := by decide +kernel
theorem dX5_mount_208 : decode cX5_mount 208 = .ok (.iload_n 3, 1) := by decide +kernel
theorem dX5_mount_209 : decode cX5_mount 209 = .ok (.iconst 4, 1) := by decide +kernel
theorem dX5_mount_210 : decode cX5_mount 210 = .ok (.iadd, 1) := by decide +kernel
theorem dX5_mount_211 : decode cX5_mount 211 = .ok (.iaload, 1) := by decide +kernel
theorem dX5_mount_212 : decode cX5_mount 212 = .ok (.aload_n 0, 1) := by decide +kernel
theorem dX5_mount_213 : decode cX5_mount 213 = .ok (.iload_n 3, 1) := by decide +kernel
theorem dX5_mount_214 : decode cX5_mount 214 = .ok (.iconst 4, 1) := by decide +kernel
theorem dX5_mount_215 : decode cX5_mount 215 = .ok (.invokevirtual 156, 3) := by decide +kernel
theorem dX5_mount_218 : decode cX5_mount 218 = .ok (.if_icmp .ne 7, 3) := by decide +kernel
theorem dX5_mount_221 : decode cX5_mount 221 = .ok (.iconst 1, 1) := by decide +kernel
theorem dX5_mount_222 : decode cX5_mount 222 = .ok (.goto 4, 3) := by decide +kernel
theorem dX5_mount_225 : decode cX5_mount 225 = .ok (.iconst 0, 1) := by decide +kernel
theorem dX5_mount_226 : decode cX5_mount 226 = .ok (.istore_n 2, 1) := by decide +kernel
theorem dX5_mount_227 : decode cX5_mount 227 = .ok (.iload_n 2, 1) := by decide +kernel
theorem dX5_mount_228 : decode cX5_mount 228 = .ok (.ifCond .eq 51, 3) := by decide +kernel
theorem dX5_mount_231 : decode cX5_mount 231 = .ok (.aload_n 0, 1) := by decide +kernel
theorem dX5_mount_232 : decode cX5_mount 232 = .ok (.aload_n 0, 1) := by decide +kernel
theorem dX5_mount_233 : decode cX5_mount 233 = .ok (.getfield 7, 3) := by decide +kernel
theorem dX5_mount_236 : decode cX5_mount 236 = .ok (.iload_n 3, 1) := by decide +kernel
theorem dX5_mount_237 : decode cX5_mount 237 = .ok (.iconst 1, 1) := by decide +kernel
theorem dX5_mount_238 : decode cX5_mount 238 = .ok (.iadd, 1) := by decide +kernel
theorem dX5_mount_239 : decode cX5_mount 239 = .ok (.iaload, 1) := by decide +kernel
theorem dX5_mount_240 : decode cX5_mount 240 = .ok (.aload_n 0, 1) := by decide +kernel
theorem dX5_mount_241 : decode cX5_mount 241 = .ok (.getfield 7, 3) := by decide +kernel
theorem dX5_mount_244 : decode cX5_mount 244 = .ok (.iload_n 3, 1) := by decide +kernel
theorem dX5_mount_245 : decode cX5_mount 245 = .ok (.iconst 2, 1) := by decide +kernel
theorem dX5_mount_246 : decode cX5_mount 246 = .ok (.iadd, 1) := by decide +kernel
theorem dX5_mount_247 : decode cX5_mount 247 = .ok (.iaload, 1) := by decide +kernel
theorem dX5_mount_248 : decode cX5_mount 248 = .ok (.aload_n 0, 1) := by decide +kernel
theorem dX5_mount_249 : decode cX5_mount 249 = .ok (.getfield 7, 3) := by decide +kernel
theorem dX5_mount_252 : decode cX5_mount 252 = .ok (.iload_n 3, 1) := by decide +kernel
theorem dX5_mount_253 : decode cX5_mount 253 = .ok (.iconst 3, 1) := by decide +kernel
theorem dX5_mount_254 : decode cX5_mount 254 = .ok (.iadd, 1) := by decide +kernel
theorem dX5_mount_255 : decode cX5_mount 255 = .ok (.iaload, 1) := by decide +kernel
theorem dX5_mount_256 : decode cX5_mount 256 = .ok (.invokevirtual 85, 3) := by decide +kernel
theorem dX5_mount_259 : decode cX5_mount 259 = .ok (.aload_n 0, 1) := by decide +kernel
theorem dX5_mount_260 : decode cX5_mount 260 = .ok (.dup, 1) := by decide +kernel
theorem dX5_mount_261 : decode cX5_mount 261 = .ok (.getfield 71, 3) := by decide +kernel
theorem dX5_mount_264 : decode cX5_mount 264 = .ok (.iconst 1, 1) := by decide +kernel
theorem dX5_mount_265 : decode cX5_mount 265 = .ok (.iadd, 1) := by decide +kernel
theorem dX5_mount_266 : decode cX5_mount 266 = .ok (.putfield 71, 3) := by decide +kernel
theorem dX5_mount_269 : decode cX5_mount 269 = .ok (.aload_n 0, 1) := by decide +kernel
theorem dX5_mount_270 : decode cX5_mount 270 = .ok (.dup, 1) := by decide +kernel
theorem dX5_mount_271 : decode cX5_mount 271 = .ok (.getfield 74, 3) := by decide +kernel
theorem dX5_mount_274 : decode cX5_mount 274 = .ok (.iconst 1, 1) := by decide +kernel
theorem dX5_mount_275 : decode cX5_mount 275 = .ok (.iadd, 1) := by decide +kernel
theorem dX5_mount_276 : decode cX5_mount 276 = .ok (.putfield 74, 3) := by decide +kernel
theorem dX5_mount_279 : decode cX5_mount 279 = .ok (.goto (-120), 3) := by decide +kernel
theorem dX5_mount_282 : decode cX5_mount 282 = .ok (.aload_n 0, 1) := by decide +kernel
theorem dX5_mount_283 : decode cX5_mount 283 = .ok (.getfield 74, 3) := by decide +kernel
theorem dX5_mount_286 : decode cX5_mount 286 = .ok (.ireturn, 1) := by decide +kernel
theorem dX5_uncertain_0 : decode cX5_uncertain 0 = .ok (.aload_n 0, 1) := by decide +kernel
theorem dX5_uncertain_1 : decode cX5_uncertain 1 = .ok (.iconst 0, 1) := by decide +kernel
theorem dX5_uncertain_2 : decode cX5_uncertain 2 = .ok (.putfield 47, 3) := by decide +kernel
theorem dX5_uncertain_5 : decode cX5_uncertain 5 = .ok (.aload_n 0, 1) := by decide +kernel
theorem dX5_uncertain_6 : decode cX5_uncertain 6 = .ok (.getfield 28, 3) := by decide +kernel
theorem dX5_uncertain_9 : decode cX5_uncertain 9 = .ok (.ifCond .ne 8, 3) := by decide +kernel
theorem dX5_uncertain_12 : decode cX5_uncertain 12 = .ok (.bipush (-7), 2) := by decide +kernel
theorem dX5_uncertain_14 : decode cX5_uncertain 14 = .ok (.goto 18, 3) := by decide +kernel
theorem dX5_uncertain_17 : decode cX5_uncertain 17 = .ok (.aload_n 0, 1) := by decide +kernel
theorem dX5_uncertain_18 : decode cX5_uncertain 18 = .ok (.getfield 16, 3) := by decide +kernel
theorem dX5_uncertain_21 : decode cX5_uncertain 21 = .ok (.bipush 16, 2) := by decide +kernel
theorem dX5_uncertain_23 : decode cX5_uncertain 23 = .ok (.iaload, 1) := by decide +kernel
theorem dX5_uncertain_24 : decode cX5_uncertain 24 = .ok (.ifCond .eq 7, 3) := by decide +kernel
theorem dX5_uncertain_27 : decode cX5_uncertain 27 = .ok (.iconst 1, 1) := by decide +kernel
theorem dX5_uncertain_28 : decode cX5_uncertain 28 = .ok (.goto 4, 3) := by decide +kernel
theorem dX5_uncertain_31 : decode cX5_uncertain 31 = .ok (.iconst 0, 1) := by decide +kernel
theorem dX5_uncertain_32 : decode cX5_uncertain 32 = .ok (.ireturn, 1) := by decide +kernel
theorem dX5_settle_0 : decode cX5_settle 0 = .ok (.aload_n 0, 1) := by decide +kernel
theorem dX5_settle_1 : decode cX5_settle 1 = .ok (.iconst 0, 1) := by decide +kernel
theorem dX5_settle_2 : decode cX5_settle 2 = .ok (.putfield 47, 3) := by decide +kernel
theorem dX5_settle_5 : decode cX5_settle 5 = .ok (.aload_n 0, 1) := by decide +kernel
theorem dX5_settle_6 : decode cX5_settle 6 = .ok (.getfield 28, 3) := by decide +kernel
theorem dX5_settle_9 : decode cX5_settle 9 = .ok (.ifCond .ne 6, 3) := by decide +kernel
theorem dX5_settle_12 : decode cX5_settle 12 = .ok (.bipush (-7), 2) := by decide +kernel
theorem dX5_settle_14 : decode cX5_settle 14 = .ok (.ireturn, 1) := by decide +kernel
theorem dX5_settle_15 : decode cX5_settle 15 = .ok (.aload_n 0, 1) := by decide +kernel
theorem dX5_settle_16 : decode cX5_settle 16 = .ok (.getfield 16, 3) := by decide +kernel
theorem dX5_settle_19 : decode cX5_settle 19 = .ok (.bipush 16, 2) := by decide +kernel
theorem dX5_settle_21 : decode cX5_settle 21 = .ok (.iaload, 1) := by decide +kernel
theorem dX5_settle_22 : decode cX5_settle 22 = .ok (.ifCond .ne 5, 3) := by decide +kernel
theorem dX5_settle_25 : decode cX5_settle 25 = .ok (.iconst 0, 1) := by decide +kernel
theorem dX5_settle_26 : decode cX5_settle 26 = .ok (.ireturn, 1) := by decide +kernel
theorem dX5_settle_27 : decode cX5_settle 27 = .ok (.aload_n 0, 1) := by decide +kernel
theorem dX5_settle_28 : decode cX5_settle 28 = .ok (.iconst 3, 1) := by decide +kernel
theorem dX5_settle_29 : decode cX5_settle 29 = .ok (.iload_n 1, 1) := by decide +kernel
theorem dX5_settle_30 : decode cX5_settle 30 = .ok (.ifCond .eq 7, 3) := by decide +kernel
theorem dX5_settle_33 : decode cX5_settle 33 = .ok (.iconst 1, 1) := by decide +kernel
theorem dX5_settle_34 : decode cX5_settle 34 = .ok (.goto 4, 3) := by decide +kernel
theorem dX5_settle_37 : decode cX5_settle 37 = .ok (.iconst 0, 1) := by decide +kernel
theorem dX5_settle_38 : decode cX5_settle 38 = .ok (.iconst 0, 1) := by decide +kernel
theorem dX5_settle_39 : decode cX5_settle 39 = .ok (.invokevirtual 116, 3) := by decide +kernel
theorem dX5_settle_42 : decode cX5_settle 42 = .ok (.ifCond .eq 7, 3) := by decide +kernel
theorem dX5_settle_45 : decode cX5_settle 45 = .ok (.iconst 1, 1) := by decide +kernel
theorem dX5_settle_46 : decode cX5_settle 46 = .ok (.goto 5, 3) := by decide +kernel
theorem dX5_settle_49 : decode cX5_settle 49 = .ok (.bipush (-7), 2) := by decide +kernel
theorem dX5_settle_51 : decode cX5_settle 51 = .ok (.ireturn, 1) := by decide +kernel
theorem dX5_wear_0 : decode cX5_wear 0 = .ok (.aload_n 0, 1) := by decide +kernel
theorem dX5_wear_1 : decode cX5_wear 1 = .ok (.iconst 0, 1) := by decide +kernel
theorem dX5_wear_2 : decode cX5_wear 2 = .ok (.putfield 47, 3) := by decide +kernel
theorem dX5_wear_5 : decode cX5_wear 5 = .ok (.iload_n 1, 1) := by decide +kernel
theorem dX5_wear_6 : decode cX5_wear 6 = .ok (.i2l, 1) := by decide +kernel
theorem dX5_wear_7 : decode cX5_wear 7 = .ok (.lconst 0, 1) := by decide +kernel
theorem dX5_wear_8 : decode cX5_wear 8 = .ok (.ldc2_w 126, 3) := by decide +kernel
theorem dX5_wear_11 : decode cX5_wear 11 = .ok (.invokestatic 52, 3) := by decide +kernel
theorem dX5_wear_14 : decode cX5_wear 14 = .ok (.ifCond .eq 12, 3) := by decide +kernel
theorem dX5_wear_17 : decode cX5_wear 17 = .ok (.aload_n 0, 1) := by decide +kernel
theorem dX5_wear_18 : decode cX5_wear 18 = .ok (.getfield 13, 3) := by decide +kernel
theorem dX5_wear_21 : decode cX5_wear 21 = .ok (.iload_n 1, 1) := by decide +kernel
theorem dX5_wear_22 : decode cX5_wear 22 = .ok (.iaload, 1) := by decide +kernel
theorem dX5_wear_23 : decode cX5_wear 23 = .ok (.goto 4, 3) := by decide +kernel
theorem dX5_wear_26 : decode cX5_wear 26 = .ok (.iconst (-1), 1) := by decide +kernel
theorem dX5_wear_27 : decode cX5_wear 27 = .ok (.ireturn, 1) := by decide +kernel
theorem dX5_word_0 : decode cX5_word 0 = .ok (.aload_n 0, 1) := by decide +kernel
theorem dX5_word_1 : decode cX5_word 1 = .ok (.iconst 0, 1) := by decide +kernel
theorem dX5_word_2 : decode cX5_word 2 = .ok (.putfield 47, 3) := by decide +kernel
theorem dX5_word_5 : decode cX5_word 5 = .ok (.iload_n 1, 1) := by decide +kernel
theorem dX5_word_6 : decode cX5_word 6 = .ok (.i2l, 1) := by decide +kernel
theorem dX5_word_7 : decode cX5_word 7 = .ok (.lconst 0, 1) := by decide +kernel
theorem dX5_word_8 : decode cX5_word 8 = .ok (.ldc2_w 126, 3) := by decide +kernel
theorem dX5_word_11 : decode cX5_word 11 = .ok (.invokestatic 52, 3) := by decide +kernel
theorem dX5_word_14 : decode cX5_word 14 = .ok (.ifCond .eq 30, 3) := by decide +kernel
theorem dX5_word_17 : decode cX5_word 17 = .ok (.iload_n 2, 1) := by decide +kernel
theorem dX5_word_18 : decode cX5_word 18 = .ok (.i2l, 1) := by decide +kernel
theorem dX5_word_19 : decode cX5_word 19 = .ok (.lconst 0, 1) := by decide +kernel
theorem dX5_word_20 : decode cX5_word 20 = .ok (.ldc2_w 159, 3) := by decide +kernel
theorem dX5_word_23 : decode cX5_word 23 = .ok (.invokestatic 52, 3) := by decide +kernel
theorem dX5_word_26 : decode cX5_word 26 = .ok (.ifCond .eq 18, 3) := by decide +kernel
theorem dX5_word_29 : decode cX5_word 29 = .ok (.aload_n 0, 1) := by decide +kernel
theorem dX5_word_30 : decode cX5_word 30 = .ok (.getfield 7, 3) := by decide +kernel
theorem dX5_word_33 : decode cX5_word 33 = .ok (.sipush 256, 3) := by decide +kernel
theorem dX5_word_36 : decode cX5_word 36 = .ok (.iload_n 1, 1) := by decide +kernel
theorem dX5_word_37 : decode cX5_word 37 = .ok (.imul, 1) := by decide +kernel
theorem dX5_word_38 : decode cX5_word 38 = .ok (.iload_n 2, 1) := by decide +kernel
theorem dX5_word_39 : decode cX5_word 39 = .ok (.iadd, 1) := by decide +kernel
theorem dX5_word_40 : decode cX5_word 40 = .ok (.iaload, 1) := by decide +kernel
theorem dX5_word_41 : decode cX5_word 41 = .ok (.goto 4, 3) := by decide +kernel
theorem dX5_word_44 : decode cX5_word 44 = .ok (.iconst (-1), 1) := by decide +kernel
theorem dX5_word_45 : decode cX5_word 45 = .ok (.ireturn, 1) := by decide +kernel
theorem dX5_sound_0 : decode cX5_sound 0 = .ok (.aload_n 0, 1) := by decide +kernel
theorem dX5_sound_1 : decode cX5_sound 1 = .ok (.iconst 0, 1) := by decide +kernel
theorem dX5_sound_2 : decode cX5_sound 2 = .ok (.putfield 47, 3) := by decide +kernel
theorem dX5_sound_5 : decode cX5_sound 5 = .ok (.aload_n 0, 1) := by decide +kernel
theorem dX5_sound_6 : decode cX5_sound 6 = .ok (.getfield 28, 3) := by decide +kernel
theorem dX5_sound_9 : decode cX5_sound 9 = .ok (.ifCond .eq 7, 3) := by decide +kernel
theorem dX5_sound_12 : decode cX5_sound 12 = .ok (.iconst 1, 1) := by decide +kernel
theorem dX5_sound_13 : decode cX5_sound 13 = .ok (.goto 5, 3) := by decide +kernel
theorem dX5_sound_16 : decode cX5_sound 16 = .ok (.bipush (-7), 2) := by decide +kernel
theorem dX5_sound_18 : decode cX5_sound 18 = .ok (.ireturn, 1) := by decide +kernel
end
section
theorem dL_cell_0 : decode cL_cell 0 = .ok (.iload_n 1, 1) := by decide +kernel
theorem dL_cell_1 : decode cL_cell 1 = .ok (.aload_n 0, 1) := by decide +kernel
theorem dL_cell_2 : decode cL_cell 2 = .ok (.arraylength, 1) := by decide +kernel
theorem dL_cell_3 : decode cL_cell 3 = .ok (.if_icmp .ge 9, 3) := by decide +kernel
theorem dL_cell_6 : decode cL_cell 6 = .ok (.aload_n 0, 1) := by decide +kernel
theorem dL_cell_7 : decode cL_cell 7 = .ok (.iload_n 1, 1) := by decide +kernel
theorem dL_cell_8 : decode cL_cell 8 = .ok (.iaload, 1) := by decide +kernel
theorem dL_cell_9 : decode cL_cell 9 = .ok (.goto 4, 3) := by decide +kernel
theorem dL_cell_12 : decode cL_cell 12 = .ok (.iconst 0, 1) := by decide +kernel
theorem dL_cell_13 : decode cL_cell 13 = .ok (.ireturn, 1) := by decide +kernel
theorem dL_law_0 : decode cL_law 0 = .ok (.new 7, 3) := by decide +kernel
theorem dL_law_3 : decode cL_law 3 = .ok (.dup, 1) := by decide +kernel
theorem dL_law_4 : decode cL_law 4 = .ok (.aload_n 0, 1) := by decide +kernel
theorem dL_law_5 : decode cL_law 5 = .ok (.iconst 0, 1) := by decide +kernel
theorem dL_law_6 : decode cL_law 6 = .ok (.invokestatic 9, 3) := by decide +kernel
theorem dL_law_9 : decode cL_law 9 = .ok (.invokespecial 15, 3) := by decide +kernel
theorem dL_law_12 : decode cL_law 12 = .ok (.astore_n 1, 1) := by decide +kernel
theorem dL_law_13 : decode cL_law 13 = .ok (.new 18, 3) := by decide +kernel
theorem dL_law_16 : decode cL_law 16 = .ok (.dup, 1) := by decide +kernel
theorem dL_law_17 : decode cL_law 17 = .ok (.aload_n 0, 1) := by decide +kernel
theorem dL_law_18 : decode cL_law 18 = .ok (.iconst 0, 1) := by decide +kernel
theorem dL_law_19 : decode cL_law 19 = .ok (.invokestatic 9, 3) := by decide +kernel
theorem dL_law_22 : decode cL_law 22 = .ok (.invokespecial 20, 3) := by decide +kernel
theorem dL_law_25 : decode cL_law 25 = .ok (.astore_n 2, 1) := by decide +kernel
theorem dL_law_26 : decode cL_law 26 = .ok (.iconst 1, 1) := by decide +kernel
theorem dL_law_27 : decode cL_law 27 = .ok (.istore_n 3, 1) := by decide +kernel
theorem dL_law_28 : decode cL_law 28 = .ok (.iload_n 3, 1) := by decide +kernel
theorem dL_law_29 : decode cL_law 29 = .ok (.aload_n 0, 1) := by decide +kernel
theorem dL_law_30 : decode cL_law 30 = .ok (.arraylength, 1) := by decide +kernel
theorem dL_law_31 : decode cL_law 31 = .ok (.iconst 5, 1) := by decide +kernel
theorem dL_law_32 : decode cL_law 32 = .ok (.isub, 1) := by decide +kernel
theorem dL_law_33 : decode cL_law 33 = .ok (.if_icmp .gt 716, 3) := by decide +kernel
theorem dL_law_36 : decode cL_law 36 = .ok (.aload_n 0, 1) := by decide +kernel
theorem dL_law_37 : decode cL_law 37 = .ok (.iload_n 3, 1) := by decide +kernel
theorem dL_law_38 : decode cL_law 38 = .ok (.iaload, 1) := by decide +kernel
theorem dL_law_39 : decode cL_law 39 = .ok (.bipush 31, 2) := by decide +kernel
theorem dL_law_41 : decode cL_law 41 = .ok (.iand, 1) := by decide +kernel
theorem dL_law_42 : decode cL_law 42 = .ok (.tableswitch 701 0 20 #[98, 151, 174, 217, 260, 284, 317, 350, 383, 407, 441, 475, 498, 511, 534, 567, 580, 593, 632, 655, 688], 98) := by decide +kernel
theorem dL_law_140 : decode cL_law 140 = .ok (.aload_n 1, 1) := by decide +kernel
theorem dL_law_141 : decode cL_law 141 = .ok (.aload_n 0, 1) := by decide +kernel
theorem dL_law_142 : decode cL_law 142 = .ok (.iload_n 3, 1) := by decide +kernel
theorem dL_law_143 : decode cL_law 143 = .ok (.iconst 1, 1) := by decide +kernel
theorem dL_law_144 : decode cL_law 144 = .ok (.iadd, 1) := by decide +kernel
theorem dL_law_145 : decode cL_law 145 = .ok (.iaload, 1) := by decide +kernel
theorem dL_law_146 : decode cL_law 146 = .ok (.aload_n 0, 1) := by decide +kernel
theorem dL_law_147 : decode cL_law 147 = .ok (.iload_n 3, 1) := by decide +kernel
theorem dL_law_148 : decode cL_law 148 = .ok (.iconst 2, 1) := by decide +kernel
theorem dL_law_149 : decode cL_law 149 = .ok (.iadd, 1) := by decide +kernel
theorem dL_law_150 : decode cL_law 150 = .ok (.iaload, 1) := by decide +kernel
theorem dL_law_151 : decode cL_law 151 = .ok (.aload_n 0, 1) := by decide +kernel
theorem dL_law_152 : decode cL_law 152 = .ok (.iload_n 3, 1) := by decide +kernel
theorem dL_law_153 : decode cL_law 153 = .ok (.iconst 3, 1) := by decide +kernel
theorem dL_law_154 : decode cL_law 154 = .ok (.iadd, 1) := by decide +kernel
theorem dL_law_155 : decode cL_law 155 = .ok (.iaload, 1) := by decide +kernel
theorem dL_law_156 : decode cL_law 156 = .ok (.aload_n 0, 1) := by decide +kernel
theorem dL_law_157 : decode cL_law 157 = .ok (.iload_n 3, 1) := by decide +kernel
theorem dL_law_158 : decode cL_law 158 = .ok (.iconst 4, 1) := by decide +kernel
theorem dL_law_159 : decode cL_law 159 = .ok (.iadd, 1) := by decide +kernel
theorem dL_law_160 : decode cL_law 160 = .ok (.iaload, 1) := by decide +kernel
theorem dL_law_161 : decode cL_law 161 = .ok (.invokevirtual 21, 3) := by decide +kernel
theorem dL_law_164 : decode cL_law 164 = .ok (.aload_n 2, 1) := by decide +kernel
theorem dL_law_165 : decode cL_law 165 = .ok (.aload_n 0, 1) := by decide +kernel
theorem dL_law_166 : decode cL_law 166 = .ok (.iload_n 3, 1) := by decide +kernel
theorem dL_law_167 : decode cL_law 167 = .ok (.iconst 1, 1) := by decide +kernel
theorem dL_law_168 : decode cL_law 168 = .ok (.iadd, 1) := by decide +kernel
theorem dL_law_169 : decode cL_law 169 = .ok (.iaload, 1) := by decide +kernel
theorem dL_law_170 : decode cL_law 170 = .ok (.aload_n 0, 1) := by decide +kernel
theorem dL_law_171 : decode cL_law 171 = .ok (.iload_n 3, 1) := by decide +kernel
theorem dL_law_172 : decode cL_law 172 = .ok (.iconst 2, 1) := by decide +kernel
theorem dL_law_173 : decode cL_law 173 = .ok (.iadd, 1) := by decide +kernel
theorem dL_law_174 : decode cL_law 174 = .ok (.iaload, 1) := by decide +kernel
theorem dL_law_175 : decode cL_law 175 = .ok (.aload_n 0, 1) := by decide +kernel
theorem dL_law_176 : decode cL_law 176 = .ok (.iload_n 3, 1) := by decide +kernel
theorem dL_law_177 : decode cL_law 177 = .ok (.iconst 3, 1) := by decide +kernel
theorem dL_law_178 : decode cL_law 178 = .ok (.iadd, 1) := by decide +kernel
theorem dL_law_179 : decode cL_law 179 = .ok (.iaload, 1) := by decide +kernel
theorem dL_law_180 : decode cL_law 180 = .ok (.aload_n 0, 1) := by decide +kernel
theorem dL_law_181 : decode cL_law 181 = .ok (.iload_n 3, 1) := by decide +kernel
theorem dL_law_182 : decode cL_law 182 = .ok (.iconst 4, 1) := by decide +kernel
theorem dL_law_183 : decode cL_law 183 = .ok (.iadd, 1) := by decide +kernel
theorem dL_law_184 : decode cL_law 184 = .ok (.iaload, 1) := by decide +kernel
theorem dL_law_185 : decode cL_law 185 = .ok (.invokevirtual 25, 3) := by decide +kernel
theorem dL_law_188 : decode cL_law 188 = .ok (.if_icmp .eq 555, 3) := by decide +kernel
theorem dL_law_191 : decode cL_law 191 = .ok (.iconst 0, 1) := by decide +kernel
theorem dL_law_192 : decode cL_law 192 = .ok (.ireturn, 1) := by decide +kernel
theorem dL_law_193 : decode cL_law 193 = .ok (.aload_n 1, 1) := by decide +kernel
theorem dL_law_194 : decode cL_law 194 = .ok (.aload_n 0, 1) := by decide +kernel
theorem dL_law_195 : decode cL_law 195 = .ok (.iload_n 3, 1) := by decide +kernel
theorem dL_law_196 : decode cL_law 196 = .ok (.iconst 1, 1) := by decide +kernel
theorem dL_law_197 : decode cL_law 197 = .ok (.iadd, 1) := by decide +kernel
theorem dL_law_198 : decode cL_law 198 = .ok (.iaload, 1) := by decide +kernel
theorem dL_law_199 : decode cL_law 199 = .ok (.invokevirtual 26, 3) := by decide +kernel
theorem dL_law_202 : decode cL_law 202 = .ok (.aload_n 2, 1) := by decide +kernel
theorem dL_law_203 : decode cL_law 203 = .ok (.aload_n 0, 1) := by decide +kernel
theorem dL_law_204 : decode cL_law 204 = .ok (.iload_n 3, 1) := by decide +kernel
theorem dL_law_205 : decode cL_law 205 = .ok (.iconst 1, 1) := by decide +kernel
theorem dL_law_206 : decode cL_law 206 = .ok (.iadd, 1) := by decide +kernel
theorem dL_law_207 : decode cL_law 207 = .ok (.iaload, 1) := by decide +kernel
theorem dL_law_208 : decode cL_law 208 = .ok (.invokevirtual 30, 3) := by decide +kernel
theorem dL_law_211 : decode cL_law 211 = .ok (.if_icmp .eq 532, 3) := by decide +kernel
theorem dL_law_214 : decode cL_law 214 = .ok (.iconst 0, 1) := by decide +kernel
theorem dL_law_215 : decode cL_law 215 = .ok (.ireturn, 1) := by decide +kernel
theorem dL_law_216 : decode cL_law 216 = .ok (.aload_n 1, 1) := by decide +kernel
theorem dL_law_217 : decode cL_law 217 = .ok (.aload_n 0, 1) := by decide +kernel
theorem dL_law_218 : decode cL_law 218 = .ok (.iload_n 3, 1) := by decide +kernel
theorem dL_law_219 : decode cL_law 219 = .ok (.iconst 1, 1) := by decide +kernel
theorem dL_law_220 : decode cL_law 220 = .ok (.iadd, 1) := by decide +kernel
theorem dL_law_221 : decode cL_law 221 = .ok (.iaload, 1) := by decide +kernel
theorem dL_law_222 : decode cL_law 222 = .ok (.aload_n 0, 1) := by decide +kernel
theorem dL_law_223 : decode cL_law 223 = .ok (.iload_n 3, 1) := by decide +kernel
theorem dL_law_224 : decode cL_law 224 = .ok (.iconst 2, 1) := by decide +kernel
theorem dL_law_225 : decode cL_law 225 = .ok (.iadd, 1) := by decide +kernel
theorem dL_law_226 : decode cL_law 226 = .ok (.iaload, 1) := by decide +kernel
theorem dL_law_227 : decode cL_law 227 = .ok (.aload_n 0, 1) := by decide +kernel
theorem dL_law_228 : decode cL_law 228 = .ok (.iload_n 3, 1) := by decide +kernel
theorem dL_law_229 : decode cL_law 229 = .ok (.iconst 3, 1) := by decide +kernel
theorem dL_law_230 : decode cL_law 230 = .ok (.iadd, 1) := by decide +kernel
theorem dL_law_231 : decode cL_law 231 = .ok (.iaload, 1) := by decide +kernel
theorem dL_law_232 : decode cL_law 232 = .ok (.invokevirtual 31, 3) := by decide +kernel
theorem dL_law_235 : decode cL_law 235 = .ok (.aload_n 2, 1) := by decide +kernel
theorem dL_law_236 : decode cL_law 236 = .ok (.aload_n 0, 1) := by decide +kernel
theorem dL_law_237 : decode cL_law 237 = .ok (.iload_n 3, 1) := by decide +kernel
theorem dL_law_238 : decode cL_law 238 = .ok (.iconst 1, 1) := by decide +kernel
theorem dL_law_239 : decode cL_law 239 = .ok (.iadd, 1) := by decide +kernel
theorem dL_law_240 : decode cL_law 240 = .ok (.iaload, 1) := by decide +kernel
theorem dL_law_241 : decode cL_law 241 = .ok (.aload_n 0, 1) := by decide +kernel
theorem dL_law_242 : decode cL_law 242 = .ok (.iload_n 3, 1) := by decide +kernel
theorem dL_law_243 : decode cL_law 243 = .ok (.iconst 2, 1) := by decide +kernel
theorem dL_law_244 : decode cL_law 244 = .ok (.iadd, 1) := by decide +kernel
theorem dL_law_245 : decode cL_law 245 = .ok (.iaload, 1) := by decide +kernel
theorem dL_law_246 : decode cL_law 246 = .ok (.aload_n 0, 1) := by decide +kernel
theorem dL_law_247 : decode cL_law 247 = .ok (.iload_n 3, 1) := by decide +kernel
theorem dL_law_248 : decode cL_law 248 = .ok (.iconst 3, 1) := by decide +kernel
theorem dL_law_249 : decode cL_law 249 = .ok (.iadd, 1) := by decide +kernel
theorem dL_law_250 : decode cL_law 250 = .ok (.iaload, 1) := by decide +kernel
theorem dL_law_251 : decode cL_law 251 = .ok (.invokevirtual 35, 3) := by decide +kernel
theorem dL_law_254 : decode cL_law 254 = .ok (.if_icmp .eq 489, 3) := by decide +kernel
theorem dL_law_257 : decode cL_law 257 = .ok (.iconst 0, 1) := by decide +kernel
theorem dL_law_258 : decode cL_law 258 = .ok (.ireturn, 1) := by decide +kernel
theorem dL_law_259 : decode cL_law 259 = .ok (.aload_n 1, 1) := by decide +kernel
theorem dL_law_260 : decode cL_law 260 = .ok (.aload_n 0, 1) := by decide +kernel
theorem dL_law_261 : decode cL_law 261 = .ok (.iload_n 3, 1) := by decide +kernel
theorem dL_law_262 : decode cL_law 262 = .ok (.iconst 1, 1) := by decide +kernel
theorem dL_law_263 : decode cL_law 263 = .ok (.iadd, 1) := by decide +kernel
theorem dL_law_264 : decode cL_law 264 = .ok (.iaload, 1) := by decide +kernel
theorem dL_law_265 : decode cL_law 265 = .ok (.aload_n 0, 1) := by decide +kernel
theorem dL_law_266 : decode cL_law 266 = .ok (.iload_n 3, 1) := by decide +kernel
theorem dL_law_267 : decode cL_law 267 = .ok (.iconst 2, 1) := by decide +kernel
theorem dL_law_268 : decode cL_law 268 = .ok (.iadd, 1) := by decide +kernel
theorem dL_law_269 : decode cL_law 269 = .ok (.iaload, 1) := by decide +kernel
theorem dL_law_270 : decode cL_law 270 = .ok (.aload_n 0, 1) := by decide +kernel
theorem dL_law_271 : decode cL_law 271 = .ok (.iload_n 3, 1) := by decide +kernel
theorem dL_law_272 : decode cL_law 272 = .ok (.iconst 3, 1) := by decide +kernel
theorem dL_law_273 : decode cL_law 273 = .ok (.iadd, 1) := by decide +kernel
theorem dL_law_274 : decode cL_law 274 = .ok (.iaload, 1) := by decide +kernel
theorem dL_law_275 : decode cL_law 275 = .ok (.invokevirtual 36, 3) := by decide +kernel
theorem dL_law_278 : decode cL_law 278 = .ok (.aload_n 2, 1) := by decide +kernel
theorem dL_law_279 : decode cL_law 279 = .ok (.aload_n 0, 1) := by decide +kernel
theorem dL_law_280 : decode cL_law 280 = .ok (.iload_n 3, 1) := by decide +kernel
theorem dL_law_281 : decode cL_law 281 = .ok (.iconst 1, 1) := by decide +kernel
theorem dL_law_282 : decode cL_law 282 = .ok (.iadd, 1) := by decide +kernel
theorem dL_law_283 : decode cL_law 283 = .ok (.iaload, 1) := by decide +kernel
theorem dL_law_284 : decode cL_law 284 = .ok (.aload_n 0, 1) := by decide +kernel
theorem dL_law_285 : decode cL_law 285 = .ok (.iload_n 3, 1) := by decide +kernel
theorem dL_law_286 : decode cL_law 286 = .ok (.iconst 2, 1) := by decide +kernel
theorem dL_law_287 : decode cL_law 287 = .ok (.iadd, 1) := by decide +kernel
theorem dL_law_288 : decode cL_law 288 = .ok (.iaload, 1) := by decide +kernel
theorem dL_law_289 : decode cL_law 289 = .ok (.aload_n 0, 1) := by decide +kernel
theorem dL_law_290 : decode cL_law 290 = .ok (.iload_n 3, 1) := by decide +kernel
theorem dL_law_291 : decode cL_law 291 = .ok (.iconst 3, 1) := by decide +kernel
theorem dL_law_292 : decode cL_law 292 = .ok (.iadd, 1) := by decide +kernel
theorem dL_law_293 : decode cL_law 293 = .ok (.iaload, 1) := by decide +kernel
theorem dL_law_294 : decode cL_law 294 = .ok (.invokevirtual 39, 3) := by decide +kernel
theorem dL_law_297 : decode cL_law 297 = .ok (.if_icmp .eq 446, 3) := by decide +kernel
theorem dL_law_300 : decode cL_law 300 = .ok (.iconst 0, 1) := by decide +kernel
theorem dL_law_301 : decode cL_law 301 = .ok (.ireturn, 1) := by decide +kernel
theorem dL_law_302 : decode cL_law 302 = .ok (.aload_n 1, 1) := by decide +kernel
theorem dL_law_303 : decode cL_law 303 = .ok (.aload_n 0, 1) := by decide +kernel
theorem dL_law_304 : decode cL_law 304 = .ok (.iload_n 3, 1) := by decide +kernel
theorem dL_law_305 : decode cL_law 305 = .ok (.iconst 1, 1) := by decide +kernel
theorem dL_law_306 : decode cL_law 306 = .ok (.iadd, 1) := by decide +kernel
theorem dL_law_307 : decode cL_law 307 = .ok (.iaload, 1) := by decide +kernel
theorem dL_law_308 : decode cL_law 308 = .ok (.invokevirtual 40, 3) := by decide +kernel
theorem dL_law_311 : decode cL_law 311 = .ok (.aload_n 2, 1) := by decide +kernel
theorem dL_law_312 : decode cL_law 312 = .ok (.aload_n 0, 1) := by decide +kernel
theorem dL_law_313 : decode cL_law 313 = .ok (.iload_n 3, 1) := by decide +kernel
theorem dL_law_314 : decode cL_law 314 = .ok (.iconst 1, 1) := by decide +kernel
theorem dL_law_315 : decode cL_law 315 = .ok (.iadd, 1) := by decide +kernel
theorem dL_law_316 : decode cL_law 316 = .ok (.iaload, 1) := by decide +kernel
theorem dL_law_317 : decode cL_law 317 = .ok (.invokevirtual 44, 3) := by decide +kernel
theorem dL_law_320 : decode cL_law 320 = .ok (.lcmp, 1) := by decide +kernel
theorem dL_law_321 : decode cL_law 321 = .ok (.ifCond .eq 422, 3) := by decide +kernel
theorem dL_law_324 : decode cL_law 324 = .ok (.iconst 0, 1) := by decide +kernel
theorem dL_law_325 : decode cL_law 325 = .ok (.ireturn, 1) := by decide +kernel
theorem dL_law_326 : decode cL_law 326 = .ok (.aload_n 1, 1) := by decide +kernel
theorem dL_law_327 : decode cL_law 327 = .ok (.aload_n 0, 1) := by decide +kernel
theorem dL_law_328 : decode cL_law 328 = .ok (.iload_n 3, 1) := by decide +kernel
theorem dL_law_329 : decode cL_law 329 = .ok (.iconst 1, 1) := by decide +kernel
theorem dL_law_330 : decode cL_law 330 = .ok (.iadd, 1) := by decide +kernel
theorem dL_law_331 : decode cL_law 331 = .ok (.iaload, 1) := by decide +kernel
theorem dL_law_332 : decode cL_law 332 = .ok (.aload_n 0, 1) := by decide +kernel
theorem dL_law_333 : decode cL_law 333 = .ok (.iload_n 3, 1) := by decide +kernel
theorem dL_law_334 : decode cL_law 334 = .ok (.iconst 2, 1) := by decide +kernel
theorem dL_law_335 : decode cL_law 335 = .ok (.iadd, 1) := by decide +kernel
theorem dL_law_336 : decode cL_law 336 = .ok (.iaload, 1) := by decide +kernel
theorem dL_law_337 : decode cL_law 337 = .ok (.invokevirtual 45, 3) := by decide +kernel
theorem dL_law_340 : decode cL_law 340 = .ok (.aload_n 2, 1) := by decide +kernel
theorem dL_law_341 : decode cL_law 341 = .ok (.aload_n 0, 1) := by decide +kernel
theorem dL_law_342 : decode cL_law 342 = .ok (.iload_n 3, 1) := by decide +kernel
theorem dL_law_343 : decode cL_law 343 = .ok (.iconst 1, 1) := by decide +kernel
theorem dL_law_344 : decode cL_law 344 = .ok (.iadd, 1) := by decide +kernel
theorem dL_law_345 : decode cL_law 345 = .ok (.iaload, 1) := by decide +kernel
theorem dL_law_346 : decode cL_law 346 = .ok (.aload_n 0, 1) := by decide +kernel
theorem dL_law_347 : decode cL_law 347 = .ok (.iload_n 3, 1) := by decide +kernel
theorem dL_law_348 : decode cL_law 348 = .ok (.iconst 2, 1) := by decide +kernel
theorem dL_law_349 : decode cL_law 349 = .ok (.iadd, 1) := by decide +kernel
theorem dL_law_350 : decode cL_law 350 = .ok (.iaload, 1) := by decide +kernel
theorem dL_law_351 : decode cL_law 351 = .ok (.invokevirtual 49, 3) := by decide +kernel
theorem dL_law_354 : decode cL_law 354 = .ok (.if_icmp .eq 389, 3) := by decide +kernel
theorem dL_law_357 : decode cL_law 357 = .ok (.iconst 0, 1) := by decide +kernel
theorem dL_law_358 : decode cL_law 358 = .ok (.ireturn, 1) := by decide +kernel
theorem dL_law_359 : decode cL_law 359 = .ok (.aload_n 1, 1) := by decide +kernel
theorem dL_law_360 : decode cL_law 360 = .ok (.aload_n 0, 1) := by decide +kernel
theorem dL_law_361 : decode cL_law 361 = .ok (.iload_n 3, 1) := by decide +kernel
theorem dL_law_362 : decode cL_law 362 = .ok (.iconst 1, 1) := by decide +kernel
theorem dL_law_363 : decode cL_law 363 = .ok (.iadd, 1) := by decide +kernel
theorem dL_law_364 : decode cL_law 364 = .ok (.iaload, 1) := by decide +kernel
theorem dL_law_365 : decode cL_law 365 = .ok (.aload_n 0, 1) := by decide +kernel
theorem dL_law_366 : decode cL_law 366 = .ok (.iload_n 3, 1) := by decide +kernel
theorem dL_law_367 : decode cL_law 367 = .ok (.iconst 2, 1) := by decide +kernel
theorem dL_law_368 : decode cL_law 368 = .ok (.iadd, 1) := by decide +kernel
theorem dL_law_369 : decode cL_law 369 = .ok (.iaload, 1) := by decide +kernel
theorem dL_law_370 : decode cL_law 370 = .ok (.invokevirtual 50, 3) := by decide +kernel
theorem dL_law_373 : decode cL_law 373 = .ok (.aload_n 2, 1) := by decide +kernel
theorem dL_law_374 : decode cL_law 374 = .ok (.aload_n 0, 1) := by decide +kernel
theorem dL_law_375 : decode cL_law 375 = .ok (.iload_n 3, 1) := by decide +kernel
theorem dL_law_376 : decode cL_law 376 = .ok (.iconst 1, 1) := by decide +kernel
theorem dL_law_377 : decode cL_law 377 = .ok (.iadd, 1) := by decide +kernel
theorem dL_law_378 : decode cL_law 378 = .ok (.iaload, 1) := by decide +kernel
theorem dL_law_379 : decode cL_law 379 = .ok (.aload_n 0, 1) := by decide +kernel
theorem dL_law_380 : decode cL_law 380 = .ok (.iload_n 3, 1) := by decide +kernel
theorem dL_law_381 : decode cL_law 381 = .ok (.iconst 2, 1) := by decide +kernel
theorem dL_law_382 : decode cL_law 382 = .ok (.iadd, 1) := by decide +kernel
theorem dL_law_383 : decode cL_law 383 = .ok (.iaload, 1) := by decide +kernel
theorem dL_law_384 : decode cL_law 384 = .ok (.invokevirtual 53, 3) := by decide +kernel
theorem dL_law_387 : decode cL_law 387 = .ok (.if_icmp .eq 356, 3) := by decide +kernel
theorem dL_law_390 : decode cL_law 390 = .ok (.iconst 0, 1) := by decide +kernel
theorem dL_law_391 : decode cL_law 391 = .ok (.ireturn, 1) := by decide +kernel
theorem dL_law_392 : decode cL_law 392 = .ok (.aload_n 1, 1) := by decide +kernel
theorem dL_law_393 : decode cL_law 393 = .ok (.aload_n 0, 1) := by decide +kernel
theorem dL_law_394 : decode cL_law 394 = .ok (.iload_n 3, 1) := by decide +kernel
theorem dL_law_395 : decode cL_law 395 = .ok (.iconst 1, 1) := by decide +kernel
theorem dL_law_396 : decode cL_law 396 = .ok (.iadd, 1) := by decide +kernel
theorem dL_law_397 : decode cL_law 397 = .ok (.iaload, 1) := by decide +kernel
theorem dL_law_398 : decode cL_law 398 = .ok (.aload_n 0, 1) := by decide +kernel
theorem dL_law_399 : decode cL_law 399 = .ok (.iload_n 3, 1) := by decide +kernel
theorem dL_law_400 : decode cL_law 400 = .ok (.iconst 2, 1) := by decide +kernel
theorem dL_law_401 : decode cL_law 401 = .ok (.iadd, 1) := by decide +kernel
theorem dL_law_402 : decode cL_law 402 = .ok (.iaload, 1) := by decide +kernel
theorem dL_law_403 : decode cL_law 403 = .ok (.invokevirtual 54, 3) := by decide +kernel
theorem dL_law_406 : decode cL_law 406 = .ok (.aload_n 2, 1) := by decide +kernel
theorem dL_law_407 : decode cL_law 407 = .ok (.aload_n 0, 1) := by decide +kernel
theorem dL_law_408 : decode cL_law 408 = .ok (.iload_n 3, 1) := by decide +kernel
theorem dL_law_409 : decode cL_law 409 = .ok (.iconst 1, 1) := by decide +kernel
theorem dL_law_410 : decode cL_law 410 = .ok (.iadd, 1) := by decide +kernel
theorem dL_law_411 : decode cL_law 411 = .ok (.iaload, 1) := by decide +kernel
theorem dL_law_412 : decode cL_law 412 = .ok (.aload_n 0, 1) := by decide +kernel
theorem dL_law_413 : decode cL_law 413 = .ok (.iload_n 3, 1) := by decide +kernel
theorem dL_law_414 : decode cL_law 414 = .ok (.iconst 2, 1) := by decide +kernel
theorem dL_law_415 : decode cL_law 415 = .ok (.iadd, 1) := by decide +kernel
theorem dL_law_416 : decode cL_law 416 = .ok (.iaload, 1) := by decide +kernel
theorem dL_law_417 : decode cL_law 417 = .ok (.invokevirtual 57, 3) := by decide +kernel
theorem dL_law_420 : decode cL_law 420 = .ok (.if_icmp .eq 323, 3) := by decide +kernel
theorem dL_law_423 : decode cL_law 423 = .ok (.iconst 0, 1) := by decide +kernel
theorem dL_law_424 : decode cL_law 424 = .ok (.ireturn, 1) := by decide +kernel
theorem dL_law_425 : decode cL_law 425 = .ok (.aload_n 1, 1) := by decide +kernel
theorem dL_law_426 : decode cL_law 426 = .ok (.aload_n 0, 1) := by decide +kernel
theorem dL_law_427 : decode cL_law 427 = .ok (.iload_n 3, 1) := by decide +kernel
theorem dL_law_428 : decode cL_law 428 = .ok (.iconst 1, 1) := by decide +kernel
theorem dL_law_429 : decode cL_law 429 = .ok (.iadd, 1) := by decide +kernel
theorem dL_law_430 : decode cL_law 430 = .ok (.iaload, 1) := by decide +kernel
theorem dL_law_431 : decode cL_law 431 = .ok (.invokevirtual 58, 3) := by decide +kernel
theorem dL_law_434 : decode cL_law 434 = .ok (.aload_n 2, 1) := by decide +kernel
theorem dL_law_435 : decode cL_law 435 = .ok (.aload_n 0, 1) := by decide +kernel
theorem dL_law_436 : decode cL_law 436 = .ok (.iload_n 3, 1) := by decide +kernel
theorem dL_law_437 : decode cL_law 437 = .ok (.iconst 1, 1) := by decide +kernel
theorem dL_law_438 : decode cL_law 438 = .ok (.iadd, 1) := by decide +kernel
theorem dL_law_439 : decode cL_law 439 = .ok (.iaload, 1) := by decide +kernel
theorem dL_law_440 : decode cL_law 440 = .ok (.invokevirtual 61, 3) := by decide +kernel
theorem dL_law_443 : decode cL_law 443 = .ok (.lcmp, 1) := by decide +kernel
theorem dL_law_444 : decode cL_law 444 = .ok (.ifCond .eq 299, 3) := by decide +kernel
theorem dL_law_447 : decode cL_law 447 = .ok (.iconst 0, 1) := by decide +kernel
theorem dL_law_448 : decode cL_law 448 = .ok (.ireturn, 1) := by decide +kernel
theorem dL_law_449 : decode cL_law 449 = .ok (.aload_n 1, 1) := by decide +kernel
theorem dL_law_450 : decode cL_law 450 = .ok (.aload_n 0, 1) := by decide +kernel
theorem dL_law_451 : decode cL_law 451 = .ok (.iload_n 3, 1) := by decide +kernel
theorem dL_law_452 : decode cL_law 452 = .ok (.iconst 1, 1) := by decide +kernel
theorem dL_law_453 : decode cL_law 453 = .ok (.iadd, 1) := by decide +kernel
theorem dL_law_454 : decode cL_law 454 = .ok (.iaload, 1) := by decide +kernel
theorem dL_law_455 : decode cL_law 455 = .ok (.aload_n 0, 1) := by decide +kernel
theorem dL_law_456 : decode cL_law 456 = .ok (.iload_n 3, 1) := by decide +kernel
theorem dL_law_457 : decode cL_law 457 = .ok (.iconst 2, 1) := by decide +kernel
theorem dL_law_458 : decode cL_law 458 = .ok (.iadd, 1) := by decide +kernel
theorem dL_law_459 : decode cL_law 459 = .ok (.iaload, 1) := by decide +kernel
theorem dL_law_460 : decode cL_law 460 = .ok (.invokevirtual 62, 3) := by decide +kernel
theorem dL_law_463 : decode cL_law 463 = .ok (.aload_n 2, 1) := by decide +kernel
theorem dL_law_464 : decode cL_law 464 = .ok (.aload_n 0, 1) := by decide +kernel
theorem dL_law_465 : decode cL_law 465 = .ok (.iload_n 3, 1) := by decide +kernel
theorem dL_law_466 : decode cL_law 466 = .ok (.iconst 1, 1) := by decide +kernel
theorem dL_law_467 : decode cL_law 467 = .ok (.iadd, 1) := by decide +kernel
theorem dL_law_468 : decode cL_law 468 = .ok (.iaload, 1) := by decide +kernel
theorem dL_law_469 : decode cL_law 469 = .ok (.aload_n 0, 1) := by decide +kernel
theorem dL_law_470 : decode cL_law 470 = .ok (.iload_n 3, 1) := by decide +kernel
theorem dL_law_471 : decode cL_law 471 = .ok (.iconst 2, 1) := by decide +kernel
theorem dL_law_472 : decode cL_law 472 = .ok (.iadd, 1) := by decide +kernel
theorem dL_law_473 : decode cL_law 473 = .ok (.iaload, 1) := by decide +kernel
theorem dL_law_474 : decode cL_law 474 = .ok (.invokevirtual 66, 3) := by decide +kernel
theorem dL_law_477 : decode cL_law 477 = .ok (.lcmp, 1) := by decide +kernel
theorem dL_law_478 : decode cL_law 478 = .ok (.ifCond .eq 265, 3) := by decide +kernel
theorem dL_law_481 : decode cL_law 481 = .ok (.iconst 0, 1) := by decide +kernel
theorem dL_law_482 : decode cL_law 482 = .ok (.ireturn, 1) := by decide +kernel
theorem dL_law_483 : decode cL_law 483 = .ok (.aload_n 1, 1) := by decide +kernel
theorem dL_law_484 : decode cL_law 484 = .ok (.aload_n 0, 1) := by decide +kernel
theorem dL_law_485 : decode cL_law 485 = .ok (.iload_n 3, 1) := by decide +kernel
theorem dL_law_486 : decode cL_law 486 = .ok (.iconst 1, 1) := by decide +kernel
theorem dL_law_487 : decode cL_law 487 = .ok (.iadd, 1) := by decide +kernel
theorem dL_law_488 : decode cL_law 488 = .ok (.iaload, 1) := by decide +kernel
theorem dL_law_489 : decode cL_law 489 = .ok (.aload_n 0, 1) := by decide +kernel
theorem dL_law_490 : decode cL_law 490 = .ok (.iload_n 3, 1) := by decide +kernel
theorem dL_law_491 : decode cL_law 491 = .ok (.iconst 2, 1) := by decide +kernel
theorem dL_law_492 : decode cL_law 492 = .ok (.iadd, 1) := by decide +kernel
theorem dL_law_493 : decode cL_law 493 = .ok (.iaload, 1) := by decide +kernel
theorem dL_law_494 : decode cL_law 494 = .ok (.invokevirtual 67, 3) := by decide +kernel
theorem dL_law_497 : decode cL_law 497 = .ok (.aload_n 2, 1) := by decide +kernel
theorem dL_law_498 : decode cL_law 498 = .ok (.aload_n 0, 1) := by decide +kernel
theorem dL_law_499 : decode cL_law 499 = .ok (.iload_n 3, 1) := by decide +kernel
theorem dL_law_500 : decode cL_law 500 = .ok (.iconst 1, 1) := by decide +kernel
theorem dL_law_501 : decode cL_law 501 = .ok (.iadd, 1) := by decide +kernel
theorem dL_law_502 : decode cL_law 502 = .ok (.iaload, 1) := by decide +kernel
theorem dL_law_503 : decode cL_law 503 = .ok (.aload_n 0, 1) := by decide +kernel
theorem dL_law_504 : decode cL_law 504 = .ok (.iload_n 3, 1) := by decide +kernel
theorem dL_law_505 : decode cL_law 505 = .ok (.iconst 2, 1) := by decide +kernel
theorem dL_law_506 : decode cL_law 506 = .ok (.iadd, 1) := by decide +kernel
theorem dL_law_507 : decode cL_law 507 = .ok (.iaload, 1) := by decide +kernel
theorem dL_law_508 : decode cL_law 508 = .ok (.invokevirtual 70, 3) := by decide +kernel
theorem dL_law_511 : decode cL_law 511 = .ok (.lcmp, 1) := by decide +kernel
theorem dL_law_512 : decode cL_law 512 = .ok (.ifCond .eq 231, 3) := by decide +kernel
theorem dL_law_515 : decode cL_law 515 = .ok (.iconst 0, 1) := by decide +kernel
theorem dL_law_516 : decode cL_law 516 = .ok (.ireturn, 1) := by decide +kernel
theorem dL_law_517 : decode cL_law 517 = .ok (.aload_n 1, 1) := by decide +kernel
theorem dL_law_518 : decode cL_law 518 = .ok (.aload_n 0, 1) := by decide +kernel
theorem dL_law_519 : decode cL_law 519 = .ok (.iload_n 3, 1) := by decide +kernel
theorem dL_law_520 : decode cL_law 520 = .ok (.iconst 1, 1) := by decide +kernel
theorem dL_law_521 : decode cL_law 521 = .ok (.iadd, 1) := by decide +kernel
theorem dL_law_522 : decode cL_law 522 = .ok (.iaload, 1) := by decide +kernel
theorem dL_law_523 : decode cL_law 523 = .ok (.invokevirtual 71, 3) := by decide +kernel
theorem dL_law_526 : decode cL_law 526 = .ok (.aload_n 2, 1) := by decide +kernel
theorem dL_law_527 : decode cL_law 527 = .ok (.aload_n 0, 1) := by decide +kernel
theorem dL_law_528 : decode cL_law 528 = .ok (.iload_n 3, 1) := by decide +kernel
theorem dL_law_529 : decode cL_law 529 = .ok (.iconst 1, 1) := by decide +kernel
theorem dL_law_530 : decode cL_law 530 = .ok (.iadd, 1) := by decide +kernel
theorem dL_law_531 : decode cL_law 531 = .ok (.iaload, 1) := by decide +kernel
theorem dL_law_532 : decode cL_law 532 = .ok (.invokevirtual 74, 3) := by decide +kernel
theorem dL_law_535 : decode cL_law 535 = .ok (.if_icmp .eq 208, 3) := by decide +kernel
theorem dL_law_538 : decode cL_law 538 = .ok (.iconst 0, 1) := by decide +kernel
theorem dL_law_539 : decode cL_law 539 = .ok (.ireturn, 1) := by decide +kernel
theorem dL_law_540 : decode cL_law 540 = .ok (.aload_n 1, 1) := by decide +kernel
theorem dL_law_541 : decode cL_law 541 = .ok (.invokevirtual 75, 3) := by decide +kernel
theorem dL_law_544 : decode cL_law 544 = .ok (.aload_n 2, 1) := by decide +kernel
theorem dL_law_545 : decode cL_law 545 = .ok (.invokevirtual 79, 3) := by decide +kernel
theorem dL_law_548 : decode cL_law 548 = .ok (.if_icmp .eq 195, 3) := by decide +kernel
theorem dL_law_551 : decode cL_law 551 = .ok (.iconst 0, 1) := by decide +kernel
theorem dL_law_552 : decode cL_law 552 = .ok (.ireturn, 1) := by decide +kernel
theorem dL_law_553 : decode cL_law 553 = .ok (.aload_n 1, 1) := by decide +kernel
theorem dL_law_554 : decode cL_law 554 = .ok (.aload_n 0, 1) := by decide +kernel
theorem dL_law_555 : decode cL_law 555 = .ok (.iload_n 3, 1) := by decide +kernel
theorem dL_law_556 : decode cL_law 556 = .ok (.iconst 1, 1) := by decide +kernel
theorem dL_law_557 : decode cL_law 557 = .ok (.iadd, 1) := by decide +kernel
theorem dL_law_558 : decode cL_law 558 = .ok (.iaload, 1) := by decide +kernel
theorem dL_law_559 : decode cL_law 559 = .ok (.invokevirtual 80, 3) := by decide +kernel
theorem dL_law_562 : decode cL_law 562 = .ok (.aload_n 2, 1) := by decide +kernel
theorem dL_law_563 : decode cL_law 563 = .ok (.aload_n 0, 1) := by decide +kernel
theorem dL_law_564 : decode cL_law 564 = .ok (.iload_n 3, 1) := by decide +kernel
theorem dL_law_565 : decode cL_law 565 = .ok (.iconst 1, 1) := by decide +kernel
theorem dL_law_566 : decode cL_law 566 = .ok (.iadd, 1) := by decide +kernel
theorem dL_law_567 : decode cL_law 567 = .ok (.iaload, 1) := by decide +kernel
theorem dL_law_568 : decode cL_law 568 = .ok (.invokevirtual 83, 3) := by decide +kernel
theorem dL_law_571 : decode cL_law 571 = .ok (.if_icmp .eq 172, 3) := by decide +kernel
theorem dL_law_574 : decode cL_law 574 = .ok (.iconst 0, 1) := by decide +kernel
theorem dL_law_575 : decode cL_law 575 = .ok (.ireturn, 1) := by decide +kernel
theorem dL_law_576 : decode cL_law 576 = .ok (.aload_n 1, 1) := by decide +kernel
theorem dL_law_577 : decode cL_law 577 = .ok (.aload_n 0, 1) := by decide +kernel
theorem dL_law_578 : decode cL_law 578 = .ok (.iload_n 3, 1) := by decide +kernel
theorem dL_law_579 : decode cL_law 579 = .ok (.iconst 1, 1) := by decide +kernel
theorem dL_law_580 : decode cL_law 580 = .ok (.iadd, 1) := by decide +kernel
theorem dL_law_581 : decode cL_law 581 = .ok (.iaload, 1) := by decide +kernel
theorem dL_law_582 : decode cL_law 582 = .ok (.aload_n 0, 1) := by decide +kernel
theorem dL_law_583 : decode cL_law 583 = .ok (.iload_n 3, 1) := by decide +kernel
theorem dL_law_584 : decode cL_law 584 = .ok (.iconst 2, 1) := by decide +kernel
theorem dL_law_585 : decode cL_law 585 = .ok (.iadd, 1) := by decide +kernel
theorem dL_law_586 : decode cL_law 586 = .ok (.iaload, 1) := by decide +kernel
theorem dL_law_587 : decode cL_law 587 = .ok (.invokevirtual 84, 3) := by decide +kernel
theorem dL_law_590 : decode cL_law 590 = .ok (.aload_n 2, 1) := by decide +kernel
theorem dL_law_591 : decode cL_law 591 = .ok (.aload_n 0, 1) := by decide +kernel
theorem dL_law_592 : decode cL_law 592 = .ok (.iload_n 3, 1) := by decide +kernel
theorem dL_law_593 : decode cL_law 593 = .ok (.iconst 1, 1) := by decide +kernel
theorem dL_law_594 : decode cL_law 594 = .ok (.iadd, 1) := by decide +kernel
theorem dL_law_595 : decode cL_law 595 = .ok (.iaload, 1) := by decide +kernel
theorem dL_law_596 : decode cL_law 596 = .ok (.aload_n 0, 1) := by decide +kernel
theorem dL_law_597 : decode cL_law 597 = .ok (.iload_n 3, 1) := by decide +kernel
theorem dL_law_598 : decode cL_law 598 = .ok (.iconst 2, 1) := by decide +kernel
theorem dL_law_599 : decode cL_law 599 = .ok (.iadd, 1) := by decide +kernel
theorem dL_law_600 : decode cL_law 600 = .ok (.iaload, 1) := by decide +kernel
theorem dL_law_601 : decode cL_law 601 = .ok (.invokevirtual 87, 3) := by decide +kernel
theorem dL_law_604 : decode cL_law 604 = .ok (.if_icmp .eq 139, 3) := by decide +kernel
theorem dL_law_607 : decode cL_law 607 = .ok (.iconst 0, 1) := by decide +kernel
theorem dL_law_608 : decode cL_law 608 = .ok (.ireturn, 1) := by decide +kernel
theorem dL_law_609 : decode cL_law 609 = .ok (.aload_n 1, 1) := by decide +kernel
theorem dL_law_610 : decode cL_law 610 = .ok (.invokevirtual 88, 3) := by decide +kernel
theorem dL_law_613 : decode cL_law 613 = .ok (.aload_n 2, 1) := by decide +kernel
theorem dL_law_614 : decode cL_law 614 = .ok (.invokevirtual 91, 3) := by decide +kernel
theorem dL_law_617 : decode cL_law 617 = .ok (.if_icmp .eq 126, 3) := by decide +kernel
theorem dL_law_620 : decode cL_law 620 = .ok (.iconst 0, 1) := by decide +kernel
theorem dL_law_621 : decode cL_law 621 = .ok (.ireturn, 1) := by decide +kernel
theorem dL_law_622 : decode cL_law 622 = .ok (.aload_n 1, 1) := by decide +kernel
theorem dL_law_623 : decode cL_law 623 = .ok (.invokevirtual 92, 3) := by decide +kernel
theorem dL_law_626 : decode cL_law 626 = .ok (.aload_n 2, 1) := by decide +kernel
theorem dL_law_627 : decode cL_law 627 = .ok (.invokevirtual 95, 3) := by decide +kernel
theorem dL_law_630 : decode cL_law 630 = .ok (.if_icmp .eq 113, 3) := by decide +kernel
theorem dL_law_633 : decode cL_law 633 = .ok (.iconst 0, 1) := by decide +kernel
theorem dL_law_634 : decode cL_law 634 = .ok (.ireturn, 1) := by decide +kernel
theorem dL_law_635 : decode cL_law 635 = .ok (.aload_n 1, 1) := by decide +kernel
theorem dL_law_636 : decode cL_law 636 = .ok (.aload_n 0, 1) := by decide +kernel
theorem dL_law_637 : decode cL_law 637 = .ok (.iload_n 3, 1) := by decide +kernel
theorem dL_law_638 : decode cL_law 638 = .ok (.iconst 1, 1) := by decide +kernel
theorem dL_law_639 : decode cL_law 639 = .ok (.iadd, 1) := by decide +kernel
theorem dL_law_640 : decode cL_law 640 = .ok (.iaload, 1) := by decide +kernel
theorem dL_law_641 : decode cL_law 641 = .ok (.ifCond .eq 7, 3) := by decide +kernel
theorem dL_law_644 : decode cL_law 644 = .ok (.iconst 1, 1) := by decide +kernel
theorem dL_law_645 : decode cL_law 645 = .ok (.goto 4, 3) := by decide +kernel
theorem dL_law_648 : decode cL_law 648 = .ok (.iconst 0, 1) := by decide +kernel
theorem dL_law_649 : decode cL_law 649 = .ok (.invokevirtual 96, 3) := by decide +kernel
theorem dL_law_652 : decode cL_law 652 = .ok (.aload_n 2, 1) := by decide +kernel
theorem dL_law_653 : decode cL_law 653 = .ok (.aload_n 0, 1) := by decide +kernel
theorem dL_law_654 : decode cL_law 654 = .ok (.iload_n 3, 1) := by decide +kernel
theorem dL_law_655 : decode cL_law 655 = .ok (.iconst 1, 1) := by decide +kernel
theorem dL_law_656 : decode cL_law 656 = .ok (.iadd, 1) := by decide +kernel
theorem dL_law_657 : decode cL_law 657 = .ok (.iaload, 1) := by decide +kernel
theorem dL_law_658 : decode cL_law 658 = .ok (.ifCond .eq 7, 3) := by decide +kernel
theorem dL_law_661 : decode cL_law 661 = .ok (.iconst 1, 1) := by decide +kernel
theorem dL_law_662 : decode cL_law 662 = .ok (.goto 4, 3) := by decide +kernel
theorem dL_law_665 : decode cL_law 665 = .ok (.iconst 0, 1) := by decide +kernel
theorem dL_law_666 : decode cL_law 666 = .ok (.invokevirtual 100, 3) := by decide +kernel
theorem dL_law_669 : decode cL_law 669 = .ok (.if_icmp .eq 74, 3) := by decide +kernel
theorem dL_law_672 : decode cL_law 672 = .ok (.iconst 0, 1) := by decide +kernel
theorem dL_law_673 : decode cL_law 673 = .ok (.ireturn, 1) := by decide +kernel
theorem dL_law_674 : decode cL_law 674 = .ok (.aload_n 1, 1) := by decide +kernel
theorem dL_law_675 : decode cL_law 675 = .ok (.aload_n 0, 1) := by decide +kernel
theorem dL_law_676 : decode cL_law 676 = .ok (.iload_n 3, 1) := by decide +kernel
theorem dL_law_677 : decode cL_law 677 = .ok (.iconst 1, 1) := by decide +kernel
theorem dL_law_678 : decode cL_law 678 = .ok (.iadd, 1) := by decide +kernel
theorem dL_law_679 : decode cL_law 679 = .ok (.iaload, 1) := by decide +kernel
theorem dL_law_680 : decode cL_law 680 = .ok (.invokevirtual 101, 3) := by decide +kernel
theorem dL_law_683 : decode cL_law 683 = .ok (.aload_n 2, 1) := by decide +kernel
theorem dL_law_684 : decode cL_law 684 = .ok (.aload_n 0, 1) := by decide +kernel
theorem dL_law_685 : decode cL_law 685 = .ok (.iload_n 3, 1) := by decide +kernel
theorem dL_law_686 : decode cL_law 686 = .ok (.iconst 1, 1) := by decide +kernel
theorem dL_law_687 : decode cL_law 687 = .ok (.iadd, 1) := by decide +kernel
theorem dL_law_688 : decode cL_law 688 = .ok (.iaload, 1) := by decide +kernel
theorem dL_law_689 : decode cL_law 689 = .ok (.invokevirtual 104, 3) := by decide +kernel
theorem dL_law_692 : decode cL_law 692 = .ok (.if_icmp .eq 51, 3) := by decide +kernel
theorem dL_law_695 : decode cL_law 695 = .ok (.iconst 0, 1) := by decide +kernel
theorem dL_law_696 : decode cL_law 696 = .ok (.ireturn, 1) := by decide +kernel
theorem dL_law_697 : decode cL_law 697 = .ok (.aload_n 1, 1) := by decide +kernel
theorem dL_law_698 : decode cL_law 698 = .ok (.aload_n 0, 1) := by decide +kernel
theorem dL_law_699 : decode cL_law 699 = .ok (.iload_n 3, 1) := by decide +kernel
theorem dL_law_700 : decode cL_law 700 = .ok (.iconst 1, 1) := by decide +kernel
theorem dL_law_701 : decode cL_law 701 = .ok (.iadd, 1) := by decide +kernel
theorem dL_law_702 : decode cL_law 702 = .ok (.iaload, 1) := by decide +kernel
theorem dL_law_703 : decode cL_law 703 = .ok (.aload_n 0, 1) := by decide +kernel
theorem dL_law_704 : decode cL_law 704 = .ok (.iload_n 3, 1) := by decide +kernel
theorem dL_law_705 : decode cL_law 705 = .ok (.iconst 2, 1) := by decide +kernel
theorem dL_law_706 : decode cL_law 706 = .ok (.iadd, 1) := by decide +kernel
theorem dL_law_707 : decode cL_law 707 = .ok (.iaload, 1) := by decide +kernel
theorem dL_law_708 : decode cL_law 708 = .ok (.invokevirtual 105, 3) := by decide +kernel
theorem dL_law_711 : decode cL_law 711 = .ok (.aload_n 2, 1) := by decide +kernel
theorem dL_law_712 : decode cL_law 712 = .ok (.aload_n 0, 1) := by decide +kernel
theorem dL_law_713 : decode cL_law 713 = .ok (.iload_n 3, 1) := by decide +kernel
theorem dL_law_714 : decode cL_law 714 = .ok (.iconst 1, 1) := by decide +kernel
theorem dL_law_715 : decode cL_law 715 = .ok (.iadd, 1) := by decide +kernel
theorem dL_law_716 : decode cL_law 716 = .ok (.iaload, 1) := by decide +kernel
theorem dL_law_717 : decode cL_law 717 = .ok (.aload_n 0, 1) := by decide +kernel
theorem dL_law_718 : decode cL_law 718 = .ok (.iload_n 3, 1) := by decide +kernel
theorem dL_law_719 : decode cL_law 719 = .ok (.iconst 2, 1) := by decide +kernel
theorem dL_law_720 : decode cL_law 720 = .ok (.iadd, 1) := by decide +kernel
theorem dL_law_721 : decode cL_law 721 = .ok (.iaload, 1) := by decide +kernel
theorem dL_law_722 : decode cL_law 722 = .ok (.invokevirtual 108, 3) := by decide +kernel
theorem dL_law_725 : decode cL_law 725 = .ok (.if_icmp .eq 18, 3) := by decide +kernel
theorem dL_law_728 : decode cL_law 728 = .ok (.iconst 0, 1) := by decide +kernel
theorem dL_law_729 : decode cL_law 729 = .ok (.ireturn, 1) := by decide +kernel
theorem dL_law_730 : decode cL_law 730 = .ok (.aload_n 1, 1) := by decide +kernel
theorem dL_law_731 : decode cL_law 731 = .ok (.invokevirtual 109, 3) := by decide +kernel
theorem dL_law_734 : decode cL_law 734 = .ok (.aload_n 2, 1) := by decide +kernel
theorem dL_law_735 : decode cL_law 735 = .ok (.invokevirtual 112, 3) := by decide +kernel
theorem dL_law_738 : decode cL_law 738 = .ok (.if_icmp .eq 5, 3) := by decide +kernel
theorem dL_law_741 : decode cL_law 741 = .ok (.iconst 0, 1) := by decide +kernel
theorem dL_law_742 : decode cL_law 742 = .ok (.ireturn, 1) := by decide +kernel
theorem dL_law_743 : decode cL_law 743 = .ok (.iinc 3 5, 3) := by decide +kernel
theorem dL_law_746 : decode cL_law 746 = .ok (.goto (-718), 3) := by decide +kernel
theorem dL_law_749 : decode cL_law 749 = .ok (.iconst 1, 1) := by decide +kernel
theorem dL_law_750 : decode cL_law 750 = .ok (.ireturn, 1) := by decide +kernel
end
section
/-! OUR OWN RULES: contracts over one list of words (the whole tables), a row a call -/
def kG : List Cond := lw_tbl.filter goodWord
theorem k_mem {i : Nat} {w : Cond} (h : lw_tbl[i]? = some w) (g : goodWord w = true) : w ∈ kG := List.mem_filter.mpr ⟨List.mem_of_getElem? h, g⟩
theorem k_lw : ∀ w ∈ kG, w ∈ lw_tbl := fun _ h => (List.mem_filter.mp h).1
abbrev kT (y : MethodName) (cc : ByteArray) (n : Nat) (ret : Option FieldType) : List Cond := Cond.code y cc n ret :: kG
theorem k_good {Ts : List Cond} (hT : ∀ w ∈ kG, w ∈ Ts) {y : MethodName} {cc : ByteArray} {n : Nat} {ret : Option FieldType} (hc : Cond.code y cc n ret ∈ kG) : GoodIn Ts (kT y cc n ret) := fun w hw => by
  have h1 : w ∈ kG := (List.mem_cons.mp hw).elim (fun e => e ▸ hc) id
  exact ⟨hT w h1, good_of_word (List.mem_filter.mp h1).2⟩
theorem k_in {c : Cond} : ∀ w ∈ kG, w ∈ c :: kG := fun _ h => List.mem_cons_of_mem _ h
theorem k_self : ∀ w ∈ kG, w ∈ kG := fun _ h => h
/-- the words of a call of an object's method, of a static one -/
abbrev kwV (own : String) (index : Nat) (C : String) (y : MethodName) (bytes : ByteArray) (maxL : Nat) (ret : Option FieldType) (n : Nat) : Prop :=
  Cond.methodLink own index y ∈ kG ∧ Cond.instanceMethod y ∈ kG ∧ Cond.selects C y y ∈ kG ∧ Cond.initialized y.cls ∈ kG ∧ Cond.code y bytes maxL ret ∈ kG ∧
  (y.cls ≠ "java/lang/invoke/MethodHandle" ∧ y.cls ≠ "java/lang/invoke/VarHandle" ∧ (parseMethodDescriptor y.desc).map (fun d => d.parameters.length) = some n)
abbrev kwS (own : String) (index : Nat) (y : MethodName) (bytes : ByteArray) (maxL : Nat) (ret : Option FieldType) (n : Nat) : Prop :=
  Cond.methodLink own index y ∈ kG ∧ Cond.static y ∈ kG ∧ Cond.initialized y.cls ∈ kG ∧ Cond.code y bytes maxL ret ∈ kG ∧
  (y.cls ≠ "java/lang/invoke/MethodHandle" ∧ y.cls ≠ "java/lang/invoke/VarHandle" ∧ (parseMethodDescriptor y.desc).map (fun d => d.parameters.length) = some n)
/-- a start: the cells are there; with nothing else said, or apart, for one that writes -/
abbrev kB (D : va_G) (ws : va_W) (tys : List (ClassId × FieldType)) : State → Prop := fun U => va_P D vwCl ws U.heap ∧ va_K D vwCl tys U
abbrev kPre (D : va_G) (w0 : va_W) (tys : List (ClassId × FieldType)) (sz : Nat) : State → Prop := fun U => U.heap.size = sz ∧ va_P D vwCl w0 U.heap ∧ va_K D vwCl tys U ∧ va_D (fun _ => True) w0
abbrev kPost (D : va_G) (A : Nat → Prop) (w1 : va_W) (tys : List (ClassId × FieldType)) : Unit → State → Prop := fun _ t => va_P D vwCl w1 t.heap ∧ va_K D vwCl tys t ∧ va_D A w1
/-- contracts: reads (int, long), writes (int, long, nothing) -/
abbrev kRi (l : Launch) (y : MethodName) (cc : ByteArray) (n : Nat) (ret : Option FieldType) (rm : Room) (av : List Value) (B : State → Prop) (v : Int32) : Prop := Met l y (kT y cc n ret) rm (va_Pc av B) (vp_Si (fun r => r = v)) 0 0 (fun _ => False)
abbrev kRl (l : Launch) (y : MethodName) (cc : ByteArray) (n : Nat) (ret : Option FieldType) (rm : Room) (av : List Value) (B : State → Prop) (v : Int64) : Prop := Met l y (kT y cc n ret) rm (va_Pc av B) (vp_Sl (fun r => r = v)) 0 0 (fun _ => False)
abbrev kWi (l : Launch) (y : MethodName) (cc : ByteArray) (n : Nat) (ret : Option FieldType) (rm : Room) (D : va_G) (tys : List (ClassId × FieldType)) (av : List Value) (w0 : va_W) (v : Int32) (w1 : va_W) : Prop := ∀ sz : Nat, Met l y (kT y cc n ret) rm (va_Pc av (kPre D w0 tys sz)) (va_Qi (fun r (_ : Unit) => r = v) (kPost D (va_A w0 sz) w1 tys) (va_A w0 sz)) 0 0 (va_A w0 sz)
abbrev kWl (l : Launch) (y : MethodName) (cc : ByteArray) (n : Nat) (ret : Option FieldType) (rm : Room) (D : va_G) (tys : List (ClassId × FieldType)) (av : List Value) (w0 : va_W) (v : Int64) (w1 : va_W) : Prop := ∀ sz : Nat, Met l y (kT y cc n ret) rm (va_Pc av (kPre D w0 tys sz)) (va_Ql (fun r (_ : Unit) => r = v) (kPost D (va_A w0 sz) w1 tys) (va_A w0 sz)) 0 0 (va_A w0 sz)
abbrev kWv (l : Launch) (y : MethodName) (cc : ByteArray) (n : Nat) (ret : Option FieldType) (rm : Room) (D : va_G) (tys : List (ClassId × FieldType)) (av : List Value) (w0 : va_W) (w1 : va_W) : Prop := ∀ sz : Nat, Met l y (kT y cc n ret) rm (va_Pc av (kPre D w0 tys sz)) (va_Qv (fun (_ : Unit) => True) (kPost D (va_A w0 sz) w1 tys) (va_A w0 sz)) 0 0 (va_A w0 sz)
theorem k_inr {x N : Int32} {n : Nat} (hN : N.toInt = n) (h0 : ¬ x < 0) (h1 : ¬ N ≤ x) : vp_in x n := by
  rw [vp_in_iff]
  rw [Int32.lt_iff_toInt_lt, Int32.toInt_zero] at h0
  rw [Int32.le_iff_toInt_le, hN] at h1
  omega
section KX
variable {p : Program} {l : Launch} {e : Env} {R : Room} {s : State} {m : MethodId} {args : Array Value} {below : List Frame} {meth : Method} {c : Code} {H : Heap} {locs : List Loc} {cells slots : Nat} {Q : State → Prop}
variable {cc bytes : ByteArray} {nL index n maxL pc ci q0 b : Nat} {Ts : List Cond} {own : String} {y : MethodName} {ret : Option FieldType} {rm : Room} {As rest st0 fs : List Value} {ls : Array Slot} {D : va_G} {ws : va_W} {tys : List (ClassId × FieldType)} {q : vw_C}
theorem k_blind (D : va_G) (ws : va_W) (tys : List (ClassId × FieldType)) (av : List Value) : FrameBlind (va_Pc av (kB D ws tys)) := fun a U g mk h => ⟨h.1, h.2.1, va_K.moved (u := U) (U := U.calling g mk a) (Vm.Alike.refl U.vm) h.2.2⟩
theorem k_blindW (D : va_G) (ws : va_W) (tys : List (ClassId × FieldType)) (sz : Nat) (av : List Value) : FrameBlind (va_Pc av (kPre D ws tys sz)) := fun a U g mk h => ⟨h.1, h.2.1, h.2.2.1, va_K.moved (u := U) (U := U.calling g mk a) (Vm.Alike.refl U.vm) h.2.2.2.1, h.2.2.2.2⟩
theorem k_cw (S : CallFix p m c cc nL s args Ts own) (hT : ∀ w ∈ kG, w ∈ Ts) (w : kwV own index q.1 y bytes maxL ret n) (hrc : rm.cells = 0) (hrs : rm.slots = 0) (hR : rm.frames + 1 ≤ R.frames ∧ 8 + (maxL + 11) + rm.locals ≤ R.locals) : CallW R s args own q.1 index y bytes maxL ret (kT y bytes maxL ret) rm 0 0 n := by
  obtain ⟨w1, w2, w3, w4, w5, w6⟩ := w
  have ht := S.2.2.2.2
  exact ⟨callB_of n ht (k_good hT w5) rfl hrc hrs (ht _ (hT _ w4)) (ht _ (hT _ w1)) w6 hR, ht _ (hT _ w2), ht _ (hT _ w3)⟩
theorem k_cs (S : CallFix p m c cc nL s args Ts own) (hT : ∀ w ∈ kG, w ∈ Ts) (w : kwS own index y bytes maxL ret n) (hrc : rm.cells = 0) (hrs : rm.slots = 0) (hR : rm.frames + 1 ≤ R.frames ∧ 8 + (maxL + 11) + rm.locals ≤ R.locals) : CallB R s args own index y bytes maxL ret (kT y bytes maxL ret) rm 0 0 n ∧ (Cond.static y).before args s = true := by
  obtain ⟨w1, w2, w4, w5, w6⟩ := w
  have ht := S.2.2.2.2
  exact ⟨callB_of n ht (k_good hT w5) rfl hrc hrs (ht _ (hT _ w4)) (ht _ (hT _ w1)) w6 hR, ht _ (hT _ w2)⟩
/-- a call of a reading method -/
theorem k_rdVi {v : Int32} (S : CallFix p m c cc nL s args Ts own) (hT : ∀ w ∈ kG, w ∈ Ts) (hM : kRi l y bytes maxL ret rm (.ref b :: As) (kB D ws tys) v) (w : kwV own index q.1 y bytes maxL ret n) (hP : va_P D vwCl ws H) (hK : va_K D vwCl tys s) (hc : vwCl[ci]? = some q) (he : ws[q0]? = some (b, .inr (ci, fs)))
    (hrc : rm.cells = 0) (hrs : rm.slots = 0) (hR : rm.frames + 1 ≤ R.frames ∧ 8 + (maxL + 11) + rm.locals ≤ R.locals) (hn : As.length = n) (hsz : ls.size = nL) (hst : st0 = As.reverse ++ .ref b :: rest) (hW : (rest.map fun v => v.category).sum ≤ 8) (hdg : decode cc pc = .ok (.invokevirtual index, 3)) (hf : cells ≤ R.cells ∧ slots ≤ R.slots)
    (kk : W p l e R s m args below meth c H locs cells slots Q (F0 m (pc + 3) ls (.int v :: rest))) : W p l e R s m args below meth c H locs cells slots Q (F0 m pc ls st0) := by
  refine vp_callSi (W.runV (g := F0 m pc ls st0) S hM (k_cw (q := q) S hT w hrc hrs hR) ⟨k_blind D ws tys _, va_recv hK hP hc he, fun U hU hw => ⟨rfl, by rw [hU]; exact hP, va_K.moved hw.alike hK⟩⟩ rfl hn hsz hst (by show 2 * 0 + _ ≤ 8; omega) hdg hf) (fun r hr => ?_)
  rw [hr]
  exact kk
theorem k_rdVl {v : Int64} (S : CallFix p m c cc nL s args Ts own) (hT : ∀ w ∈ kG, w ∈ Ts) (hM : kRl l y bytes maxL ret rm (.ref b :: As) (kB D ws tys) v) (w : kwV own index q.1 y bytes maxL ret n) (hP : va_P D vwCl ws H) (hK : va_K D vwCl tys s) (hc : vwCl[ci]? = some q) (he : ws[q0]? = some (b, .inr (ci, fs)))
    (hrc : rm.cells = 0) (hrs : rm.slots = 0) (hR : rm.frames + 1 ≤ R.frames ∧ 8 + (maxL + 11) + rm.locals ≤ R.locals) (hn : As.length = n) (hsz : ls.size = nL) (hst : st0 = As.reverse ++ .ref b :: rest) (hW : (rest.map fun v => v.category).sum ≤ 8) (hdg : decode cc pc = .ok (.invokevirtual index, 3)) (hf : cells ≤ R.cells ∧ slots ≤ R.slots)
    (kk : W p l e R s m args below meth c H locs cells slots Q (F0 m (pc + 3) ls (.long v :: rest))) : W p l e R s m args below meth c H locs cells slots Q (F0 m pc ls st0) := by
  refine vp_callSl (W.runV (g := F0 m pc ls st0) S hM (k_cw (q := q) S hT w hrc hrs hR) ⟨k_blind D ws tys _, va_recv hK hP hc he, fun U hU hw => ⟨rfl, by rw [hU]; exact hP, va_K.moved hw.alike hK⟩⟩ rfl hn hsz hst (by show 2 * 0 + _ ≤ 8; omega) hdg hf) (fun r hr => ?_)
  rw [hr]
  exact kk
/-- a call of a static method that reads nothing -/
theorem k_rdSi {v : Int32} (S : CallFix p m c cc nL s args Ts own) (hT : ∀ w ∈ kG, w ∈ Ts) (hM : kRi l y bytes maxL ret rm As (fun _ => True) v) (w : kwS own index y bytes maxL ret n)
    (hrc : rm.cells = 0) (hrs : rm.slots = 0) (hR : rm.frames + 1 ≤ R.frames ∧ 8 + (maxL + 11) + rm.locals ≤ R.locals) (hn : As.length = n) (hsz : ls.size = nL) (hst : st0 = As.reverse ++ rest) (hW : (rest.map fun v => v.category).sum ≤ 8) (hdg : decode cc pc = .ok (.invokestatic index, 3)) (hf : cells ≤ R.cells ∧ slots ≤ R.slots)
    (kk : W p l e R s m args below meth c H locs cells slots Q (F0 m (pc + 3) ls (.int v :: rest))) : W p l e R s m args below meth c H locs cells slots Q (F0 m pc ls st0) := by
  refine vp_callSi (W.runS (g := F0 m pc ls st0) S hM (k_cs S hT w hrc hrs hR) ⟨fun a U g mk h => ⟨h.1, trivial⟩, fun U hU hw => ⟨rfl, trivial⟩⟩ rfl hn hsz hst (by show 2 * 0 + _ ≤ 8; omega) hdg hf) (fun r hr => ?_)
  rw [hr]
  exact kk
/-- a call of a writing method: its cells are taken out of the caller's, and come back changed -/
theorem k_wrVi {v : Int32} {A : Nat → Prop} {H0 : Heap} {w0 w1 wr ws' : va_W} (S : CallFix p m c cc nL s args Ts own) (hT : ∀ w ∈ kG, w ∈ Ts) (hM : kWi l y bytes maxL ret rm D tys (.ref b :: As) w0 v w1) (w : kwV own index q.1 y bytes maxL ret n) (hP : va_P D vwCl ws H) (hD : va_D A ws) (hS : va_S A H0 H locs) (hA : ∀ q, H0.size ≤ q → A q) (hK : va_K D vwCl tys s) (hc : vwCl[ci]? = some q) (he : w0[q0]? = some (b, .inr (ci, fs)))
    (isC isR is1 : List Nat) (hC : isC.map (fun i => ws[i]?) = w0.map some) (hCn : va_nd isC = true) (hRr : isR.map (fun i => ws[i]?) = wr.map some) (hRn : va_nd isR = true) (hdis : ∀ i ∈ isR, i ∉ isC) (hN : is1.map (fun i => (wr ++ w1)[i]?) = ws'.map some) (hNn : va_nd is1 = true)
    (hrc : rm.cells = 0) (hrs : rm.slots = 0) (hR : rm.frames + 1 ≤ R.frames ∧ 8 + (maxL + 11) + rm.locals ≤ R.locals) (hn : As.length = n) (hsz : ls.size = nL) (hst : st0 = As.reverse ++ .ref b :: rest) (hW : (rest.map fun v => v.category).sum ≤ 8) (hdg : decode cc pc = .ok (.invokevirtual index, 3)) (hf : cells ≤ R.cells ∧ slots ≤ R.slots)
    (kk : ∀ (H1 : Heap) (locs1 : List Loc), va_P D vwCl ws' H1 → va_D A ws' → va_S A H0 H1 locs1 → W p l e R s m args below meth c H1 locs1 cells slots Q (F0 m (pc + 3) ls (.int v :: rest))) : W p l e R s m args below meth c H locs cells slots Q (F0 m pc ls st0) := by
  have hDc := hD.sub isC hCn hC
  have hPc : va_P D vwCl w0 H := fun k x hk => by
    obtain ⟨i, -, hi⟩ := va_in_of isC hC hk
    exact hP i x hi
  have hFc := va_free hD hS hA isC hC
  refine va_calli (va_runV (g := F0 m pc ls st0) S (hM H.size) (k_cw (q := q) S hT w hrc hrs hR) ⟨k_blindW D w0 tys _ _, va_recv hK hPc hc he, fun U hU hw => ⟨rfl, by rw [hU], by rw [hU]; exact hPc, va_K.moved hw.alike hK, hDc.weaken (fun _ _ _ _ => trivial)⟩⟩ rfl hn hsz hst (by show 2 * 0 + _ ≤ 8; omega) hdg hf) hS (fun q _ h => hFc q h) hFc (fun r u t H1 locs1 ht hvm hw hB hz1 hk1 hS1 => ?_)
  obtain ⟨hP1, hK1, hD1⟩ := hB
  rw [ht] at hP1
  obtain ⟨hP2, hD2⟩ := va_join hP hD isC isR hC hRr hRn hdis hk1 hFc hP1 hD1
  rw [hw]
  exact kk H1 locs1 (fun k x hk => by obtain ⟨i, -, hi⟩ := va_in_of is1 hN hk; exact hP2 i x hi) (hD2.sub is1 hNn hN) hS1
theorem k_wrVl {v : Int64} {A : Nat → Prop} {H0 : Heap} {w0 w1 wr ws' : va_W} (S : CallFix p m c cc nL s args Ts own) (hT : ∀ w ∈ kG, w ∈ Ts) (hM : kWl l y bytes maxL ret rm D tys (.ref b :: As) w0 v w1) (w : kwV own index q.1 y bytes maxL ret n) (hP : va_P D vwCl ws H) (hD : va_D A ws) (hS : va_S A H0 H locs) (hA : ∀ q, H0.size ≤ q → A q) (hK : va_K D vwCl tys s) (hc : vwCl[ci]? = some q) (he : w0[q0]? = some (b, .inr (ci, fs)))
    (isC isR is1 : List Nat) (hC : isC.map (fun i => ws[i]?) = w0.map some) (hCn : va_nd isC = true) (hRr : isR.map (fun i => ws[i]?) = wr.map some) (hRn : va_nd isR = true) (hdis : ∀ i ∈ isR, i ∉ isC) (hN : is1.map (fun i => (wr ++ w1)[i]?) = ws'.map some) (hNn : va_nd is1 = true)
    (hrc : rm.cells = 0) (hrs : rm.slots = 0) (hR : rm.frames + 1 ≤ R.frames ∧ 8 + (maxL + 11) + rm.locals ≤ R.locals) (hn : As.length = n) (hsz : ls.size = nL) (hst : st0 = As.reverse ++ .ref b :: rest) (hW : (rest.map fun v => v.category).sum ≤ 8) (hdg : decode cc pc = .ok (.invokevirtual index, 3)) (hf : cells ≤ R.cells ∧ slots ≤ R.slots)
    (kk : ∀ (H1 : Heap) (locs1 : List Loc), va_P D vwCl ws' H1 → va_D A ws' → va_S A H0 H1 locs1 → W p l e R s m args below meth c H1 locs1 cells slots Q (F0 m (pc + 3) ls (.long v :: rest))) : W p l e R s m args below meth c H locs cells slots Q (F0 m pc ls st0) := by
  have hDc := hD.sub isC hCn hC
  have hPc : va_P D vwCl w0 H := fun k x hk => by
    obtain ⟨i, -, hi⟩ := va_in_of isC hC hk
    exact hP i x hi
  have hFc := va_free hD hS hA isC hC
  refine va_calll (va_runV (g := F0 m pc ls st0) S (hM H.size) (k_cw (q := q) S hT w hrc hrs hR) ⟨k_blindW D w0 tys _ _, va_recv hK hPc hc he, fun U hU hw => ⟨rfl, by rw [hU], by rw [hU]; exact hPc, va_K.moved hw.alike hK, hDc.weaken (fun _ _ _ _ => trivial)⟩⟩ rfl hn hsz hst (by show 2 * 0 + _ ≤ 8; omega) hdg hf) hS (fun q _ h => hFc q h) hFc (fun r u t H1 locs1 ht hvm hw hB hz1 hk1 hS1 => ?_)
  obtain ⟨hP1, hK1, hD1⟩ := hB
  rw [ht] at hP1
  obtain ⟨hP2, hD2⟩ := va_join hP hD isC isR hC hRr hRn hdis hk1 hFc hP1 hD1
  rw [hw]
  exact kk H1 locs1 (fun k x hk => by obtain ⟨i, -, hi⟩ := va_in_of is1 hN hk; exact hP2 i x hi) (hD2.sub is1 hNn hN) hS1
theorem k_wrVv {A : Nat → Prop} {H0 : Heap} {w0 w1 wr ws' : va_W} (S : CallFix p m c cc nL s args Ts own) (hT : ∀ w ∈ kG, w ∈ Ts) (hM : kWv l y bytes maxL ret rm D tys (.ref b :: As) w0 w1) (w : kwV own index q.1 y bytes maxL ret n) (hP : va_P D vwCl ws H) (hD : va_D A ws) (hS : va_S A H0 H locs) (hA : ∀ q, H0.size ≤ q → A q) (hK : va_K D vwCl tys s) (hc : vwCl[ci]? = some q) (he : w0[q0]? = some (b, .inr (ci, fs)))
    (isC isR is1 : List Nat) (hC : isC.map (fun i => ws[i]?) = w0.map some) (hCn : va_nd isC = true) (hRr : isR.map (fun i => ws[i]?) = wr.map some) (hRn : va_nd isR = true) (hdis : ∀ i ∈ isR, i ∉ isC) (hN : is1.map (fun i => (wr ++ w1)[i]?) = ws'.map some) (hNn : va_nd is1 = true)
    (hrc : rm.cells = 0) (hrs : rm.slots = 0) (hR : rm.frames + 1 ≤ R.frames ∧ 8 + (maxL + 11) + rm.locals ≤ R.locals) (hn : As.length = n) (hsz : ls.size = nL) (hst : st0 = As.reverse ++ .ref b :: rest) (hW : (rest.map fun v => v.category).sum ≤ 8) (hdg : decode cc pc = .ok (.invokevirtual index, 3)) (hf : cells ≤ R.cells ∧ slots ≤ R.slots)
    (kk : ∀ (H1 : Heap) (locs1 : List Loc), va_P D vwCl ws' H1 → va_D A ws' → va_S A H0 H1 locs1 → W p l e R s m args below meth c H1 locs1 cells slots Q (F0 m (pc + 3) ls rest)) : W p l e R s m args below meth c H locs cells slots Q (F0 m pc ls st0) := by
  have hDc := hD.sub isC hCn hC
  have hPc : va_P D vwCl w0 H := fun k x hk => by
    obtain ⟨i, -, hi⟩ := va_in_of isC hC hk
    exact hP i x hi
  have hFc := va_free hD hS hA isC hC
  refine va_callv (va_runV (g := F0 m pc ls st0) S (hM H.size) (k_cw (q := q) S hT w hrc hrs hR) ⟨k_blindW D w0 tys _ _, va_recv hK hPc hc he, fun U hU hw => ⟨rfl, by rw [hU], by rw [hU]; exact hPc, va_K.moved hw.alike hK, hDc.weaken (fun _ _ _ _ => trivial)⟩⟩ rfl hn hsz hst (by show 2 * 0 + _ ≤ 8; omega) hdg hf) hS (fun q _ h => hFc q h) hFc (fun u t H1 locs1 ht hvm hw hB hz1 hk1 hS1 => ?_)
  obtain ⟨hP1, hK1, hD1⟩ := hB
  rw [ht] at hP1
  obtain ⟨hP2, hD2⟩ := va_join hP hD isC isR hC hRr hRn hdis hk1 hFc hP1 hD1
  exact kk H1 locs1 (fun k x hk => by obtain ⟨i, -, hi⟩ := va_in_of is1 hN hk; exact hP2 i x hi) (hD2.sub is1 hNn hN) hS1
end KX
end
section
/-! words of the tables, one by one; worlds -/
theorem kw_0 : Cond.selects RX1 yX1_startSector yX1_startSector ∈ kG := k_mem (i := 0) (by decide +kernel) (by decide +kernel)
theorem kw_1 : Cond.selects RX2 yX2_spendOne yX2_spendOne ∈ kG := k_mem (i := 1) (by decide +kernel) (by decide +kernel)
theorem kw_2 : Cond.selects RX1 yX1_writeBooks yX1_writeBooks ∈ kG := k_mem (i := 2) (by decide +kernel) (by decide +kernel)
theorem kw_3 : Cond.selects RX1 yX1_hasRoom yX1_hasRoom ∈ kG := k_mem (i := 3) (by decide +kernel) (by decide +kernel)
theorem kw_4 : Cond.selects RX0 yX0_addPiece yX0_addPiece ∈ kG := k_mem (i := 4) (by decide +kernel) (by decide +kernel)
theorem kw_5 : Cond.selects RX0 yX0_addToSum yX0_addToSum ∈ kG := k_mem (i := 5) (by decide +kernel) (by decide +kernel)
theorem kw_6 : Cond.selects RX0 yX0_addOne yX0_addOne ∈ kG := k_mem (i := 6) (by decide +kernel) (by decide +kernel)
theorem kw_7 : Cond.selects RX0 yX0_addToDay yX0_addToDay ∈ kG := k_mem (i := 7) (by decide +kernel) (by decide +kernel)
theorem kw_8 : Cond.selects RX0 yX0_settleFor yX0_settleFor ∈ kG := k_mem (i := 8) (by decide +kernel) (by decide +kernel)
theorem kw_9 : Cond.selects RX4 yX4_mayFrank yX4_mayFrank ∈ kG := k_mem (i := 9) (by decide +kernel) (by decide +kernel)
theorem kw_10 : Cond.selects RX4 yX4_isLocked yX4_isLocked ∈ kG := k_mem (i := 10) (by decide +kernel) (by decide +kernel)
theorem kw_11 : Cond.selects RX4 yX4_isUncertain yX4_isUncertain ∈ kG := k_mem (i := 11) (by decide +kernel) (by decide +kernel)
theorem kw_12 : Cond.selects RX1 yX1_newestSector yX1_newestSector ∈ kG := k_mem (i := 12) (by decide +kernel) (by decide +kernel)
theorem kw_13 : Cond.selects RX1 yX1_isMarked yX1_isMarked ∈ kG := k_mem (i := 13) (by decide +kernel) (by decide +kernel)
theorem kw_14 : Cond.selects RX1 yX1_isNewer yX1_isNewer ∈ kG := k_mem (i := 14) (by decide +kernel) (by decide +kernel)
theorem kw_15 : Cond.selects RX1 yX1_isNextRecord yX1_isNextRecord ∈ kG := k_mem (i := 15) (by decide +kernel) (by decide +kernel)
theorem kw_16 : Cond.selects RX5 yX5_begin yX5_begin ∈ kG := k_mem (i := 16) (by decide +kernel) (by decide +kernel)
theorem kw_17 : Cond.selects RX5 yX5_erase yX5_erase ∈ kG := k_mem (i := 17) (by decide +kernel) (by decide +kernel)
theorem kw_18 : Cond.selects RX5 yX5_isDone yX5_isDone ∈ kG := k_mem (i := 18) (by decide +kernel) (by decide +kernel)
theorem kw_19 : Cond.selects RX5 yX5_write yX5_write ∈ kG := k_mem (i := 19) (by decide +kernel) (by decide +kernel)
theorem kw_20 : Cond.selects RX5 yX5_put yX5_put ∈ kG := k_mem (i := 20) (by decide +kernel) (by decide +kernel)
theorem kw_21 : Cond.selects RX5 yX5_isFree yX5_isFree ∈ kG := k_mem (i := 21) (by decide +kernel) (by decide +kernel)
theorem kw_22 : Cond.selects RX5 yX5_act yX5_act ∈ kG := k_mem (i := 22) (by decide +kernel) (by decide +kernel)
theorem kw_23 : Cond.selects RX5 yX5_piece yX5_piece ∈ kG := k_mem (i := 23) (by decide +kernel) (by decide +kernel)
theorem kw_24 : Cond.selects RX5 yX5_more yX5_more ∈ kG := k_mem (i := 24) (by decide +kernel) (by decide +kernel)
theorem kw_25 : Cond.selects RX5 yX5_sum yX5_sum ∈ kG := k_mem (i := 25) (by decide +kernel) (by decide +kernel)
theorem kw_26 : Cond.selects RX5 yX5_code yX5_code ∈ kG := k_mem (i := 26) (by decide +kernel) (by decide +kernel)
theorem kw_27 : Cond.selects RX5 yX5_markOf yX5_markOf ∈ kG := k_mem (i := 27) (by decide +kernel) (by decide +kernel)
theorem kw_28 : Cond.initialized RL ∈ kG := k_mem (i := 28) (by decide +kernel) (by decide +kernel)
theorem kw_29 : Cond.initialized RX4 ∈ kG := k_mem (i := 29) (by decide +kernel) (by decide +kernel)
theorem kw_30 : Cond.initialized RJ9 ∈ kG := k_mem (i := 30) (by decide +kernel) (by decide +kernel)
theorem kw_31 : Cond.initialized RX3 ∈ kG := k_mem (i := 31) (by decide +kernel) (by decide +kernel)
theorem kw_32 : Cond.initialized RX2 ∈ kG := k_mem (i := 32) (by decide +kernel) (by decide +kernel)
theorem kw_33 : Cond.initialized RJ7 ∈ kG := k_mem (i := 33) (by decide +kernel) (by decide +kernel)
theorem kw_34 : Cond.initialized RX0 ∈ kG := k_mem (i := 34) (by decide +kernel) (by decide +kernel)
theorem kw_35 : Cond.initialized RX1 ∈ kG := k_mem (i := 35) (by decide +kernel) (by decide +kernel)
theorem kw_36 : Cond.initialized RX5 ∈ kG := k_mem (i := 36) (by decide +kernel) (by decide +kernel)
theorem kw_37 : Cond.classLink RL 7 RX4 ∈ kG := k_mem (i := 37) (by decide +kernel) (by decide +kernel)
theorem kw_38 : Cond.instantiable RX4 7 ∈ kG := k_mem (i := 38) (by decide +kernel) (by decide +kernel)
theorem kw_39 : Cond.methodLink RL 15 yX4_init ∈ kG := k_mem (i := 39) (by decide +kernel) (by decide +kernel)
theorem kw_40 : Cond.instanceMethod yX4_init ∈ kG := k_mem (i := 40) (by decide +kernel) (by decide +kernel)
theorem kw_41 : Cond.code yX4_init cX4_init 2 none ∈ kG := k_mem (i := 41) (by decide +kernel) (by decide +kernel)
theorem kw_42 : Cond.methodLink RX4 1 objectInit ∈ kG := k_mem (i := 42) (by decide +kernel) (by decide +kernel)
theorem kw_43 : Cond.instanceMethod objectInit ∈ kG := k_mem (i := 43) (by decide +kernel) (by decide +kernel)
theorem kw_45 : Cond.constant RX4 9 (9999999) ∈ kG := k_mem (i := 45) (by decide +kernel) (by decide +kernel)
theorem kw_46 : Cond.methodLink RX4 10 yJ9_min_7cf53 ∈ kG := k_mem (i := 46) (by decide +kernel) (by decide +kernel)
theorem kw_47 : Cond.static yJ9_min_7cf53 ∈ kG := k_mem (i := 47) (by decide +kernel) (by decide +kernel)
theorem kw_48 : Cond.code yJ9_min_7cf53 cJ9_min_7cf53 2 (some .int) ∈ kG := k_mem (i := 48) (by decide +kernel) (by decide +kernel)
theorem kw_49 : Cond.methodLink RX4 16 yJ9_max_7cf53 ∈ kG := k_mem (i := 49) (by decide +kernel) (by decide +kernel)
theorem kw_50 : Cond.static yJ9_max_7cf53 ∈ kG := k_mem (i := 50) (by decide +kernel) (by decide +kernel)
theorem kw_51 : Cond.code yJ9_max_7cf53 cJ9_max_7cf53 2 (some .int) ∈ kG := k_mem (i := 51) (by decide +kernel) (by decide +kernel)
theorem kw_52 : Cond.classLink RX4 23 RX3 ∈ kG := k_mem (i := 52) (by decide +kernel) (by decide +kernel)
theorem kw_53 : Cond.instantiable RX3 2 ∈ kG := k_mem (i := 53) (by decide +kernel) (by decide +kernel)
theorem kw_55 : Cond.instanceMethod yX3_init ∈ kG := k_mem (i := 55) (by decide +kernel) (by decide +kernel)
theorem kw_56 : Cond.code yX3_init cX3_init 1 none ∈ kG := k_mem (i := 56) (by decide +kernel) (by decide +kernel)
theorem kw_57 : Cond.methodLink RX3 1 objectInit ∈ kG := k_mem (i := 57) (by decide +kernel) (by decide +kernel)
theorem kw_58 : Cond.fieldLink RX3 9 "FrankDesk$Rates" "drafts" "[I" ∈ kG := k_mem (i := 58) (by decide +kernel) (by decide +kernel)
theorem kw_59 : Cond.fieldLink RX3 13 "FrankDesk$Rates" "table" "[I" ∈ kG := k_mem (i := 59) (by decide +kernel) (by decide +kernel)
theorem kw_65 : Cond.arrayClass .int ∈ kG := k_mem (i := 65) (by decide +kernel) (by decide +kernel)
theorem kw_66 : Cond.classLink RX4 30 RX2 ∈ kG := k_mem (i := 66) (by decide +kernel) (by decide +kernel)
theorem kw_67 : Cond.instantiable RX2 7 ∈ kG := k_mem (i := 67) (by decide +kernel) (by decide +kernel)
theorem kw_68 : Cond.methodLink RX4 32 yX2_init ∈ kG := k_mem (i := 68) (by decide +kernel) (by decide +kernel)
theorem kw_69 : Cond.instanceMethod yX2_init ∈ kG := k_mem (i := 69) (by decide +kernel) (by decide +kernel)
theorem kw_70 : Cond.code yX2_init cX2_init 1 none ∈ kG := k_mem (i := 70) (by decide +kernel) (by decide +kernel)
theorem kw_71 : Cond.methodLink RX2 1 objectInit ∈ kG := k_mem (i := 71) (by decide +kernel) (by decide +kernel)
theorem kw_72 : Cond.methodLink RX2 20 yJ7_fill_53178 ∈ kG := k_mem (i := 72) (by decide +kernel) (by decide +kernel)
theorem kw_73 : Cond.static yJ7_fill_53178 ∈ kG := k_mem (i := 73) (by decide +kernel) (by decide +kernel)
theorem kw_74 : Cond.code yJ7_fill_53178 cJ7_fill_53178 4 none ∈ kG := k_mem (i := 74) (by decide +kernel) (by decide +kernel)
theorem kw_75 : Cond.fieldLink RX2 9 "FrankDesk$Memory" "words" "[I" ∈ kG := k_mem (i := 75) (by decide +kernel) (by decide +kernel)
theorem kw_76 : Cond.fieldLink RX2 13 "FrankDesk$Memory" "erases" "[I" ∈ kG := k_mem (i := 76) (by decide +kernel) (by decide +kernel)
theorem kw_77 : Cond.fieldLink RX2 16 "FrankDesk$Memory" "power" "Z" ∈ kG := k_mem (i := 77) (by decide +kernel) (by decide +kernel)
theorem kw_78 : Cond.fieldLink RX2 55 "FrankDesk$Memory" "cutExpected" "Z" ∈ kG := k_mem (i := 78) (by decide +kernel) (by decide +kernel)
theorem kw_79 : Cond.fieldLink RX2 58 "FrankDesk$Memory" "left" "I" ∈ kG := k_mem (i := 79) (by decide +kernel) (by decide +kernel)
theorem kw_80 : Cond.fieldLink RX2 34 "FrankDesk$Memory" "mask" "I" ∈ kG := k_mem (i := 80) (by decide +kernel) (by decide +kernel)
theorem kw_81 : Cond.fieldLink RX2 61 "FrankDesk$Memory" "cuts" "I" ∈ kG := k_mem (i := 81) (by decide +kernel) (by decide +kernel)
theorem kw_97 : Cond.classLink RX4 37 RX0 ∈ kG := k_mem (i := 97) (by decide +kernel) (by decide +kernel)
theorem kw_98 : Cond.instantiable RX0 1 ∈ kG := k_mem (i := 98) (by decide +kernel) (by decide +kernel)
theorem kw_99 : Cond.methodLink RX4 39 yX0_init ∈ kG := k_mem (i := 99) (by decide +kernel) (by decide +kernel)
theorem kw_100 : Cond.instanceMethod yX0_init ∈ kG := k_mem (i := 100) (by decide +kernel) (by decide +kernel)
theorem kw_101 : Cond.code yX0_init cX0_init 2 none ∈ kG := k_mem (i := 101) (by decide +kernel) (by decide +kernel)
theorem kw_102 : Cond.methodLink RX0 3 objectInit ∈ kG := k_mem (i := 102) (by decide +kernel) (by decide +kernel)
theorem kw_103 : Cond.methodLink RX0 13 yX0_put ∈ kG := k_mem (i := 103) (by decide +kernel) (by decide +kernel)
theorem kw_104 : Cond.instanceMethod yX0_put ∈ kG := k_mem (i := 104) (by decide +kernel) (by decide +kernel)
theorem kw_105 : Cond.selects RX0 yX0_put yX0_put ∈ kG := k_mem (i := 105) (by decide +kernel) (by decide +kernel)
theorem kw_106 : Cond.code yX0_put cX0_put 3 none ∈ kG := k_mem (i := 106) (by decide +kernel) (by decide +kernel)
theorem kw_107 : Cond.fieldLink RX0 9 "FrankDesk$Books" "words" "[I" ∈ kG := k_mem (i := 107) (by decide +kernel) (by decide +kernel)
theorem kw_111 : Cond.classLink RX4 44 RX1 ∈ kG := k_mem (i := 111) (by decide +kernel) (by decide +kernel)
theorem kw_112 : Cond.instantiable RX1 5 ∈ kG := k_mem (i := 112) (by decide +kernel) (by decide +kernel)
theorem kw_113 : Cond.methodLink RX4 46 yX1_init ∈ kG := k_mem (i := 113) (by decide +kernel) (by decide +kernel)
theorem kw_114 : Cond.instanceMethod yX1_init ∈ kG := k_mem (i := 114) (by decide +kernel) (by decide +kernel)
theorem kw_115 : Cond.code yX1_init cX1_init 3 none ∈ kG := k_mem (i := 115) (by decide +kernel) (by decide +kernel)
theorem kw_116 : Cond.methodLink RX1 7 objectInit ∈ kG := k_mem (i := 116) (by decide +kernel) (by decide +kernel)
theorem kw_117 : Cond.methodLink RX1 21 yX1_startSector ∈ kG := k_mem (i := 117) (by decide +kernel) (by decide +kernel)
theorem kw_119 : Cond.instanceMethod yX1_startSector ∈ kG := k_mem (i := 119) (by decide +kernel) (by decide +kernel)
theorem kw_120 : Cond.code yX1_startSector cX1_startSector 4 (some .boolean) ∈ kG := k_mem (i := 120) (by decide +kernel) (by decide +kernel)
theorem kw_121 : Cond.methodLink RX1 76 yX2_eraseSector ∈ kG := k_mem (i := 121) (by decide +kernel) (by decide +kernel)
theorem kw_122 : Cond.instanceMethod yX2_eraseSector ∈ kG := k_mem (i := 122) (by decide +kernel) (by decide +kernel)
theorem kw_123 : Cond.selects RX2 yX2_eraseSector yX2_eraseSector ∈ kG := k_mem (i := 123) (by decide +kernel) (by decide +kernel)
theorem kw_124 : Cond.code yX2_eraseSector cX2_eraseSector 5 (some .boolean) ∈ kG := k_mem (i := 124) (by decide +kernel) (by decide +kernel)
theorem kw_125 : Cond.methodLink RX2 26 yX2_holds ∈ kG := k_mem (i := 125) (by decide +kernel) (by decide +kernel)
theorem kw_126 : Cond.instanceMethod yX2_holds ∈ kG := k_mem (i := 126) (by decide +kernel) (by decide +kernel)
theorem kw_127 : Cond.selects RX2 yX2_holds yX2_holds ∈ kG := k_mem (i := 127) (by decide +kernel) (by decide +kernel)
theorem kw_128 : Cond.code yX2_holds cX2_holds 3 (some .boolean) ∈ kG := k_mem (i := 128) (by decide +kernel) (by decide +kernel)
theorem kw_129 : Cond.methodLink RX2 30 yX2_spendOne ∈ kG := k_mem (i := 129) (by decide +kernel) (by decide +kernel)
theorem kw_131 : Cond.instanceMethod yX2_spendOne ∈ kG := k_mem (i := 131) (by decide +kernel) (by decide +kernel)
theorem kw_132 : Cond.code yX2_spendOne cX2_spendOne 1 (some .boolean) ∈ kG := k_mem (i := 132) (by decide +kernel) (by decide +kernel)
theorem kw_133 : Cond.methodLink RX1 49 yX2_write ∈ kG := k_mem (i := 133) (by decide +kernel) (by decide +kernel)
theorem kw_134 : Cond.instanceMethod yX2_write ∈ kG := k_mem (i := 134) (by decide +kernel) (by decide +kernel)
theorem kw_135 : Cond.selects RX2 yX2_write yX2_write ∈ kG := k_mem (i := 135) (by decide +kernel) (by decide +kernel)
theorem kw_136 : Cond.code yX2_write cX2_write 4 (some .boolean) ∈ kG := k_mem (i := 136) (by decide +kernel) (by decide +kernel)
theorem kw_137 : Cond.methodLink RX1 79 yX1_writeBooks ∈ kG := k_mem (i := 137) (by decide +kernel) (by decide +kernel)
theorem kw_139 : Cond.instanceMethod yX1_writeBooks ∈ kG := k_mem (i := 139) (by decide +kernel) (by decide +kernel)
theorem kw_140 : Cond.code yX1_writeBooks cX1_writeBooks 3 (some .boolean) ∈ kG := k_mem (i := 140) (by decide +kernel) (by decide +kernel)
theorem kw_141 : Cond.methodLink RX1 82 yX0_at ∈ kG := k_mem (i := 141) (by decide +kernel) (by decide +kernel)
theorem kw_142 : Cond.instanceMethod yX0_at ∈ kG := k_mem (i := 142) (by decide +kernel) (by decide +kernel)
theorem kw_143 : Cond.selects RX0 yX0_at yX0_at ∈ kG := k_mem (i := 143) (by decide +kernel) (by decide +kernel)
theorem kw_144 : Cond.code yX0_at cX0_at 2 (some .int) ∈ kG := k_mem (i := 144) (by decide +kernel) (by decide +kernel)
theorem kw_145 : Cond.methodLink RX1 53 yX2_markOf ∈ kG := k_mem (i := 145) (by decide +kernel) (by decide +kernel)
theorem kw_146 : Cond.instanceMethod yX2_markOf ∈ kG := k_mem (i := 146) (by decide +kernel) (by decide +kernel)
theorem kw_147 : Cond.selects RX2 yX2_markOf yX2_markOf ∈ kG := k_mem (i := 147) (by decide +kernel) (by decide +kernel)
theorem kw_148 : Cond.code yX2_markOf cX2_markOf 6 (some .int) ∈ kG := k_mem (i := 148) (by decide +kernel) (by decide +kernel)
theorem kw_149 : Cond.methodLink RX2 38 yX2_read ∈ kG := k_mem (i := 149) (by decide +kernel) (by decide +kernel)
theorem kw_150 : Cond.instanceMethod yX2_read ∈ kG := k_mem (i := 150) (by decide +kernel) (by decide +kernel)
theorem kw_151 : Cond.selects RX2 yX2_read yX2_read ∈ kG := k_mem (i := 151) (by decide +kernel) (by decide +kernel)
theorem kw_152 : Cond.code yX2_read cX2_read 3 (some .int) ∈ kG := k_mem (i := 152) (by decide +kernel) (by decide +kernel)
theorem kw_153 : Cond.constant RX2 42 (1515870810) ∈ kG := k_mem (i := 153) (by decide +kernel) (by decide +kernel)
theorem kw_154 : Cond.fieldLink RX1 13 "FrankDesk$Journal" "memory" "LFrankDesk$Memory;" ∈ kG := k_mem (i := 154) (by decide +kernel) (by decide +kernel)
theorem kw_155 : Cond.fieldLink RX1 17 "FrankDesk$Journal" "books" "LFrankDesk$Books;" ∈ kG := k_mem (i := 155) (by decide +kernel) (by decide +kernel)
theorem kw_156 : Cond.fieldLink RX1 33 "FrankDesk$Journal" "sector" "I" ∈ kG := k_mem (i := 156) (by decide +kernel) (by decide +kernel)
theorem kw_157 : Cond.fieldLink RX1 42 "FrankDesk$Journal" "records" "I" ∈ kG := k_mem (i := 157) (by decide +kernel) (by decide +kernel)
theorem kw_158 : Cond.fieldLink RX1 25 "FrankDesk$Journal" "last" "I" ∈ kG := k_mem (i := 158) (by decide +kernel) (by decide +kernel)
theorem kw_170 : Cond.fieldLink RX4 19 "FrankDesk" "machine" "I" ∈ kG := k_mem (i := 170) (by decide +kernel) (by decide +kernel)
theorem kw_171 : Cond.fieldLink RX4 26 "FrankDesk" "rates" "LFrankDesk$Rates;" ∈ kG := k_mem (i := 171) (by decide +kernel) (by decide +kernel)
theorem kw_172 : Cond.fieldLink RX4 33 "FrankDesk" "memory" "LFrankDesk$Memory;" ∈ kG := k_mem (i := 172) (by decide +kernel) (by decide +kernel)
theorem kw_173 : Cond.fieldLink RX4 40 "FrankDesk" "books" "LFrankDesk$Books;" ∈ kG := k_mem (i := 173) (by decide +kernel) (by decide +kernel)
theorem kw_174 : Cond.fieldLink RX4 49 "FrankDesk" "journal" "LFrankDesk$Journal;" ∈ kG := k_mem (i := 174) (by decide +kernel) (by decide +kernel)
theorem kw_175 : Cond.fieldLink RX4 80 "FrankDesk" "piecesOut" "J" ∈ kG := k_mem (i := 175) (by decide +kernel) (by decide +kernel)
theorem kw_176 : Cond.fieldLink RX4 84 "FrankDesk" "centsOut" "J" ∈ kG := k_mem (i := 176) (by decide +kernel) (by decide +kernel)
theorem kw_192 : Cond.methodLink RL 21 yX4_rate ∈ kG := k_mem (i := 192) (by decide +kernel) (by decide +kernel)
theorem kw_193 : Cond.instanceMethod yX4_rate ∈ kG := k_mem (i := 193) (by decide +kernel) (by decide +kernel)
theorem kw_194 : Cond.selects RX4 yX4_rate yX4_rate ∈ kG := k_mem (i := 194) (by decide +kernel) (by decide +kernel)
theorem kw_195 : Cond.code yX4_rate cX4_rate 5 (some .int) ∈ kG := k_mem (i := 195) (by decide +kernel) (by decide +kernel)
theorem kw_196 : Cond.constant RX4 53 (999999999) ∈ kG := k_mem (i := 196) (by decide +kernel) (by decide +kernel)
theorem kw_197 : Cond.methodLink RX4 54 yX3_draft ∈ kG := k_mem (i := 197) (by decide +kernel) (by decide +kernel)
theorem kw_198 : Cond.instanceMethod yX3_draft ∈ kG := k_mem (i := 198) (by decide +kernel) (by decide +kernel)
theorem kw_199 : Cond.selects RX3 yX3_draft yX3_draft ∈ kG := k_mem (i := 199) (by decide +kernel) (by decide +kernel)
theorem kw_200 : Cond.code yX3_draft cX3_draft 6 (some .boolean) ∈ kG := k_mem (i := 200) (by decide +kernel) (by decide +kernel)
theorem kw_201 : Cond.methodLink RX3 16 yX3_placeOf ∈ kG := k_mem (i := 201) (by decide +kernel) (by decide +kernel)
theorem kw_202 : Cond.static yX3_placeOf ∈ kG := k_mem (i := 202) (by decide +kernel) (by decide +kernel)
theorem kw_203 : Cond.code yX3_placeOf cX3_placeOf 4 (some .int) ∈ kG := k_mem (i := 203) (by decide +kernel) (by decide +kernel)
theorem kw_204 : Cond.methodLink RL 26 yX4_loadTable ∈ kG := k_mem (i := 204) (by decide +kernel) (by decide +kernel)
theorem kw_205 : Cond.instanceMethod yX4_loadTable ∈ kG := k_mem (i := 205) (by decide +kernel) (by decide +kernel)
theorem kw_206 : Cond.selects RX4 yX4_loadTable yX4_loadTable ∈ kG := k_mem (i := 206) (by decide +kernel) (by decide +kernel)
theorem kw_207 : Cond.code yX4_loadTable cX4_loadTable 3 (some .int) ∈ kG := k_mem (i := 207) (by decide +kernel) (by decide +kernel)
theorem kw_208 : Cond.methodLink RX4 58 yX2_hasPower ∈ kG := k_mem (i := 208) (by decide +kernel) (by decide +kernel)
theorem kw_209 : Cond.instanceMethod yX2_hasPower ∈ kG := k_mem (i := 209) (by decide +kernel) (by decide +kernel)
theorem kw_210 : Cond.selects RX2 yX2_hasPower yX2_hasPower ∈ kG := k_mem (i := 210) (by decide +kernel) (by decide +kernel)
theorem kw_211 : Cond.code yX2_hasPower cX2_hasPower 1 (some .boolean) ∈ kG := k_mem (i := 211) (by decide +kernel) (by decide +kernel)
theorem kw_212 : Cond.methodLink RX4 62 yX0_at ∈ kG := k_mem (i := 212) (by decide +kernel) (by decide +kernel)
theorem kw_213 : Cond.methodLink RX4 66 yX1_append ∈ kG := k_mem (i := 213) (by decide +kernel) (by decide +kernel)
theorem kw_214 : Cond.instanceMethod yX1_append ∈ kG := k_mem (i := 214) (by decide +kernel) (by decide +kernel)
theorem kw_215 : Cond.selects RX1 yX1_append yX1_append ∈ kG := k_mem (i := 215) (by decide +kernel) (by decide +kernel)
theorem kw_216 : Cond.code yX1_append cX1_append 6 (some .int) ∈ kG := k_mem (i := 216) (by decide +kernel) (by decide +kernel)
theorem kw_217 : Cond.methodLink RX1 29 yX1_hasRoom ∈ kG := k_mem (i := 217) (by decide +kernel) (by decide +kernel)
theorem kw_219 : Cond.instanceMethod yX1_hasRoom ∈ kG := k_mem (i := 219) (by decide +kernel) (by decide +kernel)
theorem kw_220 : Cond.code yX1_hasRoom cX1_hasRoom 1 (some .boolean) ∈ kG := k_mem (i := 220) (by decide +kernel) (by decide +kernel)
theorem kw_221 : Cond.methodLink RX1 45 yX1_recordAt ∈ kG := k_mem (i := 221) (by decide +kernel) (by decide +kernel)
theorem kw_222 : Cond.static yX1_recordAt ∈ kG := k_mem (i := 222) (by decide +kernel) (by decide +kernel)
theorem kw_223 : Cond.code yX1_recordAt cX1_recordAt 1 (some .int) ∈ kG := k_mem (i := 223) (by decide +kernel) (by decide +kernel)
theorem kw_224 : Cond.methodLink RX1 73 yX2_areBlank ∈ kG := k_mem (i := 224) (by decide +kernel) (by decide +kernel)
theorem kw_225 : Cond.instanceMethod yX2_areBlank ∈ kG := k_mem (i := 225) (by decide +kernel) (by decide +kernel)
theorem kw_226 : Cond.selects RX2 yX2_areBlank yX2_areBlank ∈ kG := k_mem (i := 226) (by decide +kernel) (by decide +kernel)
theorem kw_227 : Cond.code yX2_areBlank cX2_areBlank 5 (some .boolean) ∈ kG := k_mem (i := 227) (by decide +kernel) (by decide +kernel)
theorem kw_228 : Cond.methodLink RX1 38 yX2_read ∈ kG := k_mem (i := 228) (by decide +kernel) (by decide +kernel)
theorem kw_229 : Cond.methodLink RX1 57 yX0_apply ∈ kG := k_mem (i := 229) (by decide +kernel) (by decide +kernel)
theorem kw_230 : Cond.instanceMethod yX0_apply ∈ kG := k_mem (i := 230) (by decide +kernel) (by decide +kernel)
theorem kw_231 : Cond.selects RX0 yX0_apply yX0_apply ∈ kG := k_mem (i := 231) (by decide +kernel) (by decide +kernel)
theorem kw_232 : Cond.code yX0_apply cX0_apply 4 none ∈ kG := k_mem (i := 232) (by decide +kernel) (by decide +kernel)
theorem kw_233 : Cond.methodLink RX0 39 yX0_addPiece ∈ kG := k_mem (i := 233) (by decide +kernel) (by decide +kernel)
theorem kw_235 : Cond.instanceMethod yX0_addPiece ∈ kG := k_mem (i := 235) (by decide +kernel) (by decide +kernel)
theorem kw_236 : Cond.code yX0_addPiece cX0_addPiece 3 none ∈ kG := k_mem (i := 236) (by decide +kernel) (by decide +kernel)
theorem kw_237 : Cond.methodLink RX0 49 yX0_addToSum ∈ kG := k_mem (i := 237) (by decide +kernel) (by decide +kernel)
theorem kw_239 : Cond.instanceMethod yX0_addToSum ∈ kG := k_mem (i := 239) (by decide +kernel) (by decide +kernel)
theorem kw_240 : Cond.code yX0_addToSum cX0_addToSum 5 none ∈ kG := k_mem (i := 240) (by decide +kernel) (by decide +kernel)
theorem kw_241 : Cond.methodLink RX0 26 yX0_sumAt ∈ kG := k_mem (i := 241) (by decide +kernel) (by decide +kernel)
theorem kw_242 : Cond.instanceMethod yX0_sumAt ∈ kG := k_mem (i := 242) (by decide +kernel) (by decide +kernel)
theorem kw_243 : Cond.selects RX0 yX0_sumAt yX0_sumAt ∈ kG := k_mem (i := 243) (by decide +kernel) (by decide +kernel)
theorem kw_244 : Cond.code yX0_sumAt cX0_sumAt 2 (some .long) ∈ kG := k_mem (i := 244) (by decide +kernel) (by decide +kernel)
theorem kw_245 : Cond.methodLink RX0 17 yX0_at ∈ kG := k_mem (i := 245) (by decide +kernel) (by decide +kernel)
theorem kw_246 : Cond.constantLong RX0 21 (4294967295) ∈ kG := k_mem (i := 246) (by decide +kernel) (by decide +kernel)
theorem kw_247 : Cond.methodLink RX0 52 yX0_addOne ∈ kG := k_mem (i := 247) (by decide +kernel) (by decide +kernel)
theorem kw_249 : Cond.instanceMethod yX0_addOne ∈ kG := k_mem (i := 249) (by decide +kernel) (by decide +kernel)
theorem kw_250 : Cond.code yX0_addOne cX0_addOne 2 none ∈ kG := k_mem (i := 250) (by decide +kernel) (by decide +kernel)
theorem kw_251 : Cond.methodLink RX0 23 yX0_departmentAt ∈ kG := k_mem (i := 251) (by decide +kernel) (by decide +kernel)
theorem kw_252 : Cond.static yX0_departmentAt ∈ kG := k_mem (i := 252) (by decide +kernel) (by decide +kernel)
theorem kw_253 : Cond.code yX0_departmentAt cX0_departmentAt 1 (some .int) ∈ kG := k_mem (i := 253) (by decide +kernel) (by decide +kernel)
theorem kw_254 : Cond.methodLink RX0 42 yX0_addToDay ∈ kG := k_mem (i := 254) (by decide +kernel) (by decide +kernel)
theorem kw_256 : Cond.instanceMethod yX0_addToDay ∈ kG := k_mem (i := 256) (by decide +kernel) (by decide +kernel)
theorem kw_257 : Cond.code yX0_addToDay cX0_addToDay 4 none ∈ kG := k_mem (i := 257) (by decide +kernel) (by decide +kernel)
theorem kw_258 : Cond.methodLink RX0 30 yX0_placeOfDay ∈ kG := k_mem (i := 258) (by decide +kernel) (by decide +kernel)
theorem kw_259 : Cond.static yX0_placeOfDay ∈ kG := k_mem (i := 259) (by decide +kernel) (by decide +kernel)
theorem kw_260 : Cond.code yX0_placeOfDay cX0_placeOfDay 1 (some .int) ∈ kG := k_mem (i := 260) (by decide +kernel) (by decide +kernel)
theorem kw_261 : Cond.methodLink RX0 45 yX0_settleFor ∈ kG := k_mem (i := 261) (by decide +kernel) (by decide +kernel)
theorem kw_263 : Cond.instanceMethod yX0_settleFor ∈ kG := k_mem (i := 263) (by decide +kernel) (by decide +kernel)
theorem kw_264 : Cond.code yX0_settleFor cX0_settleFor 2 none ∈ kG := k_mem (i := 264) (by decide +kernel) (by decide +kernel)
theorem kw_265 : Cond.methodLink RX4 70 yX3_useDrafts ∈ kG := k_mem (i := 265) (by decide +kernel) (by decide +kernel)
theorem kw_266 : Cond.instanceMethod yX3_useDrafts ∈ kG := k_mem (i := 266) (by decide +kernel) (by decide +kernel)
theorem kw_267 : Cond.selects RX3 yX3_useDrafts yX3_useDrafts ∈ kG := k_mem (i := 267) (by decide +kernel) (by decide +kernel)
theorem kw_268 : Cond.code yX3_useDrafts cX3_useDrafts 2 none ∈ kG := k_mem (i := 268) (by decide +kernel) (by decide +kernel)
theorem kw_269 : Cond.methodLink RL 31 yX4_weigh ∈ kG := k_mem (i := 269) (by decide +kernel) (by decide +kernel)
theorem kw_270 : Cond.instanceMethod yX4_weigh ∈ kG := k_mem (i := 270) (by decide +kernel) (by decide +kernel)
theorem kw_271 : Cond.selects RX4 yX4_weigh yX4_weigh ∈ kG := k_mem (i := 271) (by decide +kernel) (by decide +kernel)
theorem kw_272 : Cond.code yX4_weigh cX4_weigh 5 (some .int) ∈ kG := k_mem (i := 272) (by decide +kernel) (by decide +kernel)
theorem kw_273 : Cond.methodLink RX4 73 yX3_priceOf ∈ kG := k_mem (i := 273) (by decide +kernel) (by decide +kernel)
theorem kw_274 : Cond.instanceMethod yX3_priceOf ∈ kG := k_mem (i := 274) (by decide +kernel) (by decide +kernel)
theorem kw_275 : Cond.selects RX3 yX3_priceOf yX3_priceOf ∈ kG := k_mem (i := 275) (by decide +kernel) (by decide +kernel)
theorem kw_276 : Cond.code yX3_priceOf cX3_priceOf 5 (some .int) ∈ kG := k_mem (i := 276) (by decide +kernel) (by decide +kernel)
theorem kw_277 : Cond.methodLink RL 36 yX4_frank ∈ kG := k_mem (i := 277) (by decide +kernel) (by decide +kernel)
theorem kw_278 : Cond.instanceMethod yX4_frank ∈ kG := k_mem (i := 278) (by decide +kernel) (by decide +kernel)
theorem kw_279 : Cond.selects RX4 yX4_frank yX4_frank ∈ kG := k_mem (i := 279) (by decide +kernel) (by decide +kernel)
theorem kw_280 : Cond.code yX4_frank cX4_frank 4 (some .int) ∈ kG := k_mem (i := 280) (by decide +kernel) (by decide +kernel)
theorem kw_281 : Cond.methodLink RX4 76 yX4_mayFrank ∈ kG := k_mem (i := 281) (by decide +kernel) (by decide +kernel)
theorem kw_283 : Cond.instanceMethod yX4_mayFrank ∈ kG := k_mem (i := 283) (by decide +kernel) (by decide +kernel)
theorem kw_284 : Cond.code yX4_mayFrank cX4_mayFrank 4 (some .boolean) ∈ kG := k_mem (i := 284) (by decide +kernel) (by decide +kernel)
theorem kw_285 : Cond.methodLink RX4 115 yX4_isDepartment ∈ kG := k_mem (i := 285) (by decide +kernel) (by decide +kernel)
theorem kw_286 : Cond.static yX4_isDepartment ∈ kG := k_mem (i := 286) (by decide +kernel) (by decide +kernel)
theorem kw_287 : Cond.code yX4_isDepartment cX4_isDepartment 1 (some .boolean) ∈ kG := k_mem (i := 287) (by decide +kernel) (by decide +kernel)
theorem kw_288 : Cond.methodLink RX4 110 yX4_isDay ∈ kG := k_mem (i := 288) (by decide +kernel) (by decide +kernel)
theorem kw_289 : Cond.static yX4_isDay ∈ kG := k_mem (i := 289) (by decide +kernel) (by decide +kernel)
theorem kw_290 : Cond.code yX4_isDay cX4_isDay 1 (some .boolean) ∈ kG := k_mem (i := 290) (by decide +kernel) (by decide +kernel)
theorem kw_291 : Cond.constant RX4 136 (100000) ∈ kG := k_mem (i := 291) (by decide +kernel) (by decide +kernel)
theorem kw_292 : Cond.methodLink RX4 89 yX4_areCents ∈ kG := k_mem (i := 292) (by decide +kernel) (by decide +kernel)
theorem kw_293 : Cond.static yX4_areCents ∈ kG := k_mem (i := 293) (by decide +kernel) (by decide +kernel)
theorem kw_294 : Cond.code yX4_areCents cX4_areCents 1 (some .boolean) ∈ kG := k_mem (i := 294) (by decide +kernel) (by decide +kernel)
theorem kw_295 : Cond.methodLink RX4 96 yX0_sumAt ∈ kG := k_mem (i := 295) (by decide +kernel) (by decide +kernel)
theorem kw_296 : Cond.methodLink RX4 133 yX4_isLocked ∈ kG := k_mem (i := 296) (by decide +kernel) (by decide +kernel)
theorem kw_298 : Cond.instanceMethod yX4_isLocked ∈ kG := k_mem (i := 298) (by decide +kernel) (by decide +kernel)
theorem kw_299 : Cond.code yX4_isLocked cX4_isLocked 1 (some .boolean) ∈ kG := k_mem (i := 299) (by decide +kernel) (by decide +kernel)
theorem kw_300 : Cond.methodLink RX4 151 yX4_isUncertain ∈ kG := k_mem (i := 300) (by decide +kernel) (by decide +kernel)
theorem kw_302 : Cond.instanceMethod yX4_isUncertain ∈ kG := k_mem (i := 302) (by decide +kernel) (by decide +kernel)
theorem kw_303 : Cond.code yX4_isUncertain cX4_isUncertain 1 (some .boolean) ∈ kG := k_mem (i := 303) (by decide +kernel) (by decide +kernel)
theorem kw_304 : Cond.methodLink RL 40 yX4_printed ∈ kG := k_mem (i := 304) (by decide +kernel) (by decide +kernel)
theorem kw_305 : Cond.instanceMethod yX4_printed ∈ kG := k_mem (i := 305) (by decide +kernel) (by decide +kernel)
theorem kw_306 : Cond.selects RX4 yX4_printed yX4_printed ∈ kG := k_mem (i := 306) (by decide +kernel) (by decide +kernel)
theorem kw_307 : Cond.code yX4_printed cX4_printed 2 (some .long) ∈ kG := k_mem (i := 307) (by decide +kernel) (by decide +kernel)
theorem kw_308 : Cond.constantLong RX4 87 (-1) ∈ kG := k_mem (i := 308) (by decide +kernel) (by decide +kernel)
theorem kw_309 : Cond.methodLink RL 45 yX4_refill ∈ kG := k_mem (i := 309) (by decide +kernel) (by decide +kernel)
theorem kw_310 : Cond.instanceMethod yX4_refill ∈ kG := k_mem (i := 310) (by decide +kernel) (by decide +kernel)
theorem kw_311 : Cond.selects RX4 yX4_refill yX4_refill ∈ kG := k_mem (i := 311) (by decide +kernel) (by decide +kernel)
theorem kw_312 : Cond.code yX4_refill cX4_refill 3 (some .int) ∈ kG := k_mem (i := 312) (by decide +kernel) (by decide +kernel)
theorem kw_313 : Cond.methodLink RX4 93 yX4_codeFor ∈ kG := k_mem (i := 313) (by decide +kernel) (by decide +kernel)
theorem kw_314 : Cond.instanceMethod yX4_codeFor ∈ kG := k_mem (i := 314) (by decide +kernel) (by decide +kernel)
theorem kw_315 : Cond.selects RX4 yX4_codeFor yX4_codeFor ∈ kG := k_mem (i := 315) (by decide +kernel) (by decide +kernel)
theorem kw_316 : Cond.code yX4_codeFor cX4_codeFor 5 (some .int) ∈ kG := k_mem (i := 316) (by decide +kernel) (by decide +kernel)
theorem kw_317 : Cond.constantLong RX4 102 (1009) ∈ kG := k_mem (i := 317) (by decide +kernel) (by decide +kernel)
theorem kw_318 : Cond.constantLong RX4 104 (1000003) ∈ kG := k_mem (i := 318) (by decide +kernel) (by decide +kernel)
theorem kw_319 : Cond.constantLong RX4 106 (7919) ∈ kG := k_mem (i := 319) (by decide +kernel) (by decide +kernel)
theorem kw_320 : Cond.constantLong RX4 108 (1000000) ∈ kG := k_mem (i := 320) (by decide +kernel) (by decide +kernel)
theorem kw_321 : Cond.constantLong RX4 100 (1099511627776) ∈ kG := k_mem (i := 321) (by decide +kernel) (by decide +kernel)
theorem kw_322 : Cond.methodLink RL 50 yX4_codeFor ∈ kG := k_mem (i := 322) (by decide +kernel) (by decide +kernel)
theorem kw_323 : Cond.methodLink RL 54 yX4_claimBack ∈ kG := k_mem (i := 323) (by decide +kernel) (by decide +kernel)
theorem kw_324 : Cond.instanceMethod yX4_claimBack ∈ kG := k_mem (i := 324) (by decide +kernel) (by decide +kernel)
theorem kw_325 : Cond.selects RX4 yX4_claimBack yX4_claimBack ∈ kG := k_mem (i := 325) (by decide +kernel) (by decide +kernel)
theorem kw_326 : Cond.code yX4_claimBack cX4_claimBack 3 (some .int) ∈ kG := k_mem (i := 326) (by decide +kernel) (by decide +kernel)
theorem kw_327 : Cond.methodLink RL 58 yX4_book ∈ kG := k_mem (i := 327) (by decide +kernel) (by decide +kernel)
theorem kw_328 : Cond.instanceMethod yX4_book ∈ kG := k_mem (i := 328) (by decide +kernel) (by decide +kernel)
theorem kw_329 : Cond.selects RX4 yX4_book yX4_book ∈ kG := k_mem (i := 329) (by decide +kernel) (by decide +kernel)
theorem kw_330 : Cond.code yX4_book cX4_book 2 (some .long) ∈ kG := k_mem (i := 330) (by decide +kernel) (by decide +kernel)
theorem kw_331 : Cond.constantLong RX4 113 (-7) ∈ kG := k_mem (i := 331) (by decide +kernel) (by decide +kernel)
theorem kw_332 : Cond.methodLink RL 62 yX4_counter ∈ kG := k_mem (i := 332) (by decide +kernel) (by decide +kernel)
theorem kw_333 : Cond.instanceMethod yX4_counter ∈ kG := k_mem (i := 333) (by decide +kernel) (by decide +kernel)
theorem kw_334 : Cond.selects RX4 yX4_counter yX4_counter ∈ kG := k_mem (i := 334) (by decide +kernel) (by decide +kernel)
theorem kw_335 : Cond.code yX4_counter cX4_counter 3 (some .long) ∈ kG := k_mem (i := 335) (by decide +kernel) (by decide +kernel)
theorem kw_336 : Cond.methodLink RX4 118 yX4_isPiecesOrCents ∈ kG := k_mem (i := 336) (by decide +kernel) (by decide +kernel)
theorem kw_337 : Cond.static yX4_isPiecesOrCents ∈ kG := k_mem (i := 337) (by decide +kernel) (by decide +kernel)
theorem kw_338 : Cond.code yX4_isPiecesOrCents cX4_isPiecesOrCents 1 (some .boolean) ∈ kG := k_mem (i := 338) (by decide +kernel) (by decide +kernel)
theorem kw_339 : Cond.methodLink RX4 121 yX0_piecesOf ∈ kG := k_mem (i := 339) (by decide +kernel) (by decide +kernel)
theorem kw_340 : Cond.instanceMethod yX0_piecesOf ∈ kG := k_mem (i := 340) (by decide +kernel) (by decide +kernel)
theorem kw_341 : Cond.selects RX0 yX0_piecesOf yX0_piecesOf ∈ kG := k_mem (i := 341) (by decide +kernel) (by decide +kernel)
theorem kw_342 : Cond.code yX0_piecesOf cX0_piecesOf 2 (some .int) ∈ kG := k_mem (i := 342) (by decide +kernel) (by decide +kernel)
theorem kw_343 : Cond.methodLink RX4 124 yX0_centsOf ∈ kG := k_mem (i := 343) (by decide +kernel) (by decide +kernel)
theorem kw_344 : Cond.instanceMethod yX0_centsOf ∈ kG := k_mem (i := 344) (by decide +kernel) (by decide +kernel)
theorem kw_345 : Cond.selects RX0 yX0_centsOf yX0_centsOf ∈ kG := k_mem (i := 345) (by decide +kernel) (by decide +kernel)
theorem kw_346 : Cond.code yX0_centsOf cX0_centsOf 2 (some .long) ∈ kG := k_mem (i := 346) (by decide +kernel) (by decide +kernel)
theorem kw_347 : Cond.methodLink RL 67 yX4_dayTotal ∈ kG := k_mem (i := 347) (by decide +kernel) (by decide +kernel)
theorem kw_348 : Cond.instanceMethod yX4_dayTotal ∈ kG := k_mem (i := 348) (by decide +kernel) (by decide +kernel)
theorem kw_349 : Cond.selects RX4 yX4_dayTotal yX4_dayTotal ∈ kG := k_mem (i := 349) (by decide +kernel) (by decide +kernel)
theorem kw_350 : Cond.code yX4_dayTotal cX4_dayTotal 3 (some .long) ∈ kG := k_mem (i := 350) (by decide +kernel) (by decide +kernel)
theorem kw_351 : Cond.methodLink RX4 127 yX0_piecesOn ∈ kG := k_mem (i := 351) (by decide +kernel) (by decide +kernel)
theorem kw_352 : Cond.instanceMethod yX0_piecesOn ∈ kG := k_mem (i := 352) (by decide +kernel) (by decide +kernel)
theorem kw_353 : Cond.selects RX0 yX0_piecesOn yX0_piecesOn ∈ kG := k_mem (i := 353) (by decide +kernel) (by decide +kernel)
theorem kw_354 : Cond.code yX0_piecesOn cX0_piecesOn 3 (some .int) ∈ kG := k_mem (i := 354) (by decide +kernel) (by decide +kernel)
theorem kw_355 : Cond.methodLink RX4 130 yX0_centsOn ∈ kG := k_mem (i := 355) (by decide +kernel) (by decide +kernel)
theorem kw_356 : Cond.instanceMethod yX0_centsOn ∈ kG := k_mem (i := 356) (by decide +kernel) (by decide +kernel)
theorem kw_357 : Cond.selects RX0 yX0_centsOn yX0_centsOn ∈ kG := k_mem (i := 357) (by decide +kernel) (by decide +kernel)
theorem kw_358 : Cond.code yX0_centsOn cX0_centsOn 3 (some .long) ∈ kG := k_mem (i := 358) (by decide +kernel) (by decide +kernel)
theorem kw_359 : Cond.methodLink RL 71 yX4_inspect ∈ kG := k_mem (i := 359) (by decide +kernel) (by decide +kernel)
theorem kw_360 : Cond.instanceMethod yX4_inspect ∈ kG := k_mem (i := 360) (by decide +kernel) (by decide +kernel)
theorem kw_361 : Cond.selects RX4 yX4_inspect yX4_inspect ∈ kG := k_mem (i := 361) (by decide +kernel) (by decide +kernel)
theorem kw_362 : Cond.code yX4_inspect cX4_inspect 2 (some .int) ∈ kG := k_mem (i := 362) (by decide +kernel) (by decide +kernel)
theorem kw_363 : Cond.methodLink RL 75 yX4_lock ∈ kG := k_mem (i := 363) (by decide +kernel) (by decide +kernel)
theorem kw_364 : Cond.instanceMethod yX4_lock ∈ kG := k_mem (i := 364) (by decide +kernel) (by decide +kernel)
theorem kw_365 : Cond.selects RX4 yX4_lock yX4_lock ∈ kG := k_mem (i := 365) (by decide +kernel) (by decide +kernel)
theorem kw_366 : Cond.code yX4_lock cX4_lock 1 (some .int) ∈ kG := k_mem (i := 366) (by decide +kernel) (by decide +kernel)
theorem kw_367 : Cond.methodLink RL 80 yX4_unlock ∈ kG := k_mem (i := 367) (by decide +kernel) (by decide +kernel)
theorem kw_368 : Cond.instanceMethod yX4_unlock ∈ kG := k_mem (i := 368) (by decide +kernel) (by decide +kernel)
theorem kw_369 : Cond.selects RX4 yX4_unlock yX4_unlock ∈ kG := k_mem (i := 369) (by decide +kernel) (by decide +kernel)
theorem kw_370 : Cond.code yX4_unlock cX4_unlock 2 (some .int) ∈ kG := k_mem (i := 370) (by decide +kernel) (by decide +kernel)
theorem kw_371 : Cond.methodLink RL 84 yX4_cut ∈ kG := k_mem (i := 371) (by decide +kernel) (by decide +kernel)
theorem kw_372 : Cond.instanceMethod yX4_cut ∈ kG := k_mem (i := 372) (by decide +kernel) (by decide +kernel)
theorem kw_373 : Cond.selects RX4 yX4_cut yX4_cut ∈ kG := k_mem (i := 373) (by decide +kernel) (by decide +kernel)
theorem kw_374 : Cond.code yX4_cut cX4_cut 3 (some .int) ∈ kG := k_mem (i := 374) (by decide +kernel) (by decide +kernel)
theorem kw_375 : Cond.methodLink RX4 137 yX2_expectCut ∈ kG := k_mem (i := 375) (by decide +kernel) (by decide +kernel)
theorem kw_376 : Cond.instanceMethod yX2_expectCut ∈ kG := k_mem (i := 376) (by decide +kernel) (by decide +kernel)
theorem kw_377 : Cond.selects RX2 yX2_expectCut yX2_expectCut ∈ kG := k_mem (i := 377) (by decide +kernel) (by decide +kernel)
theorem kw_378 : Cond.code yX2_expectCut cX2_expectCut 3 none ∈ kG := k_mem (i := 378) (by decide +kernel) (by decide +kernel)
theorem kw_379 : Cond.methodLink RL 88 yX4_mount ∈ kG := k_mem (i := 379) (by decide +kernel) (by decide +kernel)
theorem kw_380 : Cond.instanceMethod yX4_mount ∈ kG := k_mem (i := 380) (by decide +kernel) (by decide +kernel)
theorem kw_381 : Cond.selects RX4 yX4_mount yX4_mount ∈ kG := k_mem (i := 381) (by decide +kernel) (by decide +kernel)
theorem kw_382 : Cond.code yX4_mount cX4_mount 1 (some .int) ∈ kG := k_mem (i := 382) (by decide +kernel) (by decide +kernel)
theorem kw_383 : Cond.methodLink RX4 141 yX2_restorePower ∈ kG := k_mem (i := 383) (by decide +kernel) (by decide +kernel)
theorem kw_384 : Cond.instanceMethod yX2_restorePower ∈ kG := k_mem (i := 384) (by decide +kernel) (by decide +kernel)
theorem kw_385 : Cond.selects RX2 yX2_restorePower yX2_restorePower ∈ kG := k_mem (i := 385) (by decide +kernel) (by decide +kernel)
theorem kw_386 : Cond.code yX2_restorePower cX2_restorePower 1 none ∈ kG := k_mem (i := 386) (by decide +kernel) (by decide +kernel)
theorem kw_387 : Cond.methodLink RX4 144 yX1_reopen ∈ kG := k_mem (i := 387) (by decide +kernel) (by decide +kernel)
theorem kw_388 : Cond.instanceMethod yX1_reopen ∈ kG := k_mem (i := 388) (by decide +kernel) (by decide +kernel)
theorem kw_389 : Cond.selects RX1 yX1_reopen yX1_reopen ∈ kG := k_mem (i := 389) (by decide +kernel) (by decide +kernel)
theorem kw_390 : Cond.code yX1_reopen cX1_reopen 3 none ∈ kG := k_mem (i := 390) (by decide +kernel) (by decide +kernel)
theorem kw_391 : Cond.methodLink RX1 61 yX1_newestSector ∈ kG := k_mem (i := 391) (by decide +kernel) (by decide +kernel)
theorem kw_393 : Cond.instanceMethod yX1_newestSector ∈ kG := k_mem (i := 393) (by decide +kernel) (by decide +kernel)
theorem kw_394 : Cond.code yX1_newestSector cX1_newestSector 4 (some .int) ∈ kG := k_mem (i := 394) (by decide +kernel) (by decide +kernel)
theorem kw_395 : Cond.methodLink RX1 85 yX1_isMarked ∈ kG := k_mem (i := 395) (by decide +kernel) (by decide +kernel)
theorem kw_397 : Cond.instanceMethod yX1_isMarked ∈ kG := k_mem (i := 397) (by decide +kernel) (by decide +kernel)
theorem kw_398 : Cond.code yX1_isMarked cX1_isMarked 2 (some .boolean) ∈ kG := k_mem (i := 398) (by decide +kernel) (by decide +kernel)
theorem kw_399 : Cond.methodLink RX1 88 yX1_isNewer ∈ kG := k_mem (i := 399) (by decide +kernel) (by decide +kernel)
theorem kw_401 : Cond.instanceMethod yX1_isNewer ∈ kG := k_mem (i := 401) (by decide +kernel) (by decide +kernel)
theorem kw_402 : Cond.code yX1_isNewer cX1_isNewer 3 (some .boolean) ∈ kG := k_mem (i := 402) (by decide +kernel) (by decide +kernel)
theorem kw_403 : Cond.methodLink RX1 65 yX0_put ∈ kG := k_mem (i := 403) (by decide +kernel) (by decide +kernel)
theorem kw_404 : Cond.methodLink RX1 69 yX1_isNextRecord ∈ kG := k_mem (i := 404) (by decide +kernel) (by decide +kernel)
theorem kw_406 : Cond.instanceMethod yX1_isNextRecord ∈ kG := k_mem (i := 406) (by decide +kernel) (by decide +kernel)
theorem kw_407 : Cond.code yX1_isNextRecord cX1_isNextRecord 2 (some .boolean) ∈ kG := k_mem (i := 407) (by decide +kernel) (by decide +kernel)
theorem kw_408 : Cond.methodLink RX4 147 yX1_lastNumber ∈ kG := k_mem (i := 408) (by decide +kernel) (by decide +kernel)
theorem kw_409 : Cond.instanceMethod yX1_lastNumber ∈ kG := k_mem (i := 409) (by decide +kernel) (by decide +kernel)
theorem kw_410 : Cond.selects RX1 yX1_lastNumber yX1_lastNumber ∈ kG := k_mem (i := 410) (by decide +kernel) (by decide +kernel)
theorem kw_411 : Cond.code yX1_lastNumber cX1_lastNumber 1 (some .int) ∈ kG := k_mem (i := 411) (by decide +kernel) (by decide +kernel)
theorem kw_412 : Cond.methodLink RL 92 yX4_uncertain ∈ kG := k_mem (i := 412) (by decide +kernel) (by decide +kernel)
theorem kw_413 : Cond.instanceMethod yX4_uncertain ∈ kG := k_mem (i := 413) (by decide +kernel) (by decide +kernel)
theorem kw_414 : Cond.selects RX4 yX4_uncertain yX4_uncertain ∈ kG := k_mem (i := 414) (by decide +kernel) (by decide +kernel)
theorem kw_415 : Cond.code yX4_uncertain cX4_uncertain 1 (some .int) ∈ kG := k_mem (i := 415) (by decide +kernel) (by decide +kernel)
theorem kw_416 : Cond.methodLink RL 96 yX4_settle ∈ kG := k_mem (i := 416) (by decide +kernel) (by decide +kernel)
theorem kw_417 : Cond.instanceMethod yX4_settle ∈ kG := k_mem (i := 417) (by decide +kernel) (by decide +kernel)
theorem kw_418 : Cond.selects RX4 yX4_settle yX4_settle ∈ kG := k_mem (i := 418) (by decide +kernel) (by decide +kernel)
theorem kw_419 : Cond.code yX4_settle cX4_settle 2 (some .int) ∈ kG := k_mem (i := 419) (by decide +kernel) (by decide +kernel)
theorem kw_420 : Cond.methodLink RL 101 yX4_wear ∈ kG := k_mem (i := 420) (by decide +kernel) (by decide +kernel)
theorem kw_421 : Cond.instanceMethod yX4_wear ∈ kG := k_mem (i := 421) (by decide +kernel) (by decide +kernel)
theorem kw_422 : Cond.selects RX4 yX4_wear yX4_wear ∈ kG := k_mem (i := 422) (by decide +kernel) (by decide +kernel)
theorem kw_423 : Cond.code yX4_wear cX4_wear 2 (some .int) ∈ kG := k_mem (i := 423) (by decide +kernel) (by decide +kernel)
theorem kw_424 : Cond.methodLink RX4 154 yX2_holds ∈ kG := k_mem (i := 424) (by decide +kernel) (by decide +kernel)
theorem kw_425 : Cond.methodLink RX4 158 yX2_erasesOf ∈ kG := k_mem (i := 425) (by decide +kernel) (by decide +kernel)
theorem kw_426 : Cond.instanceMethod yX2_erasesOf ∈ kG := k_mem (i := 426) (by decide +kernel) (by decide +kernel)
theorem kw_427 : Cond.selects RX2 yX2_erasesOf yX2_erasesOf ∈ kG := k_mem (i := 427) (by decide +kernel) (by decide +kernel)
theorem kw_428 : Cond.code yX2_erasesOf cX2_erasesOf 2 (some .int) ∈ kG := k_mem (i := 428) (by decide +kernel) (by decide +kernel)
theorem kw_429 : Cond.methodLink RL 105 yX4_word ∈ kG := k_mem (i := 429) (by decide +kernel) (by decide +kernel)
theorem kw_430 : Cond.instanceMethod yX4_word ∈ kG := k_mem (i := 430) (by decide +kernel) (by decide +kernel)
theorem kw_431 : Cond.selects RX4 yX4_word yX4_word ∈ kG := k_mem (i := 431) (by decide +kernel) (by decide +kernel)
theorem kw_432 : Cond.code yX4_word cX4_word 3 (some .int) ∈ kG := k_mem (i := 432) (by decide +kernel) (by decide +kernel)
theorem kw_433 : Cond.methodLink RX4 161 yX2_read ∈ kG := k_mem (i := 433) (by decide +kernel) (by decide +kernel)
theorem kw_434 : Cond.methodLink RL 109 yX4_sound ∈ kG := k_mem (i := 434) (by decide +kernel) (by decide +kernel)
theorem kw_435 : Cond.instanceMethod yX4_sound ∈ kG := k_mem (i := 435) (by decide +kernel) (by decide +kernel)
theorem kw_436 : Cond.selects RX4 yX4_sound yX4_sound ∈ kG := k_mem (i := 436) (by decide +kernel) (by decide +kernel)
theorem kw_437 : Cond.code yX4_sound cX4_sound 2 (some .int) ∈ kG := k_mem (i := 437) (by decide +kernel) (by decide +kernel)
theorem kw_438 : Cond.methodLink RX4 164 yX0_registersAddUp ∈ kG := k_mem (i := 438) (by decide +kernel) (by decide +kernel)
theorem kw_439 : Cond.instanceMethod yX0_registersAddUp ∈ kG := k_mem (i := 439) (by decide +kernel) (by decide +kernel)
theorem kw_440 : Cond.selects RX0 yX0_registersAddUp yX0_registersAddUp ∈ kG := k_mem (i := 440) (by decide +kernel) (by decide +kernel)
theorem kw_441 : Cond.code yX0_registersAddUp cX0_registersAddUp 1 (some .boolean) ∈ kG := k_mem (i := 441) (by decide +kernel) (by decide +kernel)
theorem kw_442 : Cond.methodLink RX4 167 yX0_departmentsAddUp ∈ kG := k_mem (i := 442) (by decide +kernel) (by decide +kernel)
theorem kw_443 : Cond.instanceMethod yX0_departmentsAddUp ∈ kG := k_mem (i := 443) (by decide +kernel) (by decide +kernel)
theorem kw_444 : Cond.selects RX0 yX0_departmentsAddUp yX0_departmentsAddUp ∈ kG := k_mem (i := 444) (by decide +kernel) (by decide +kernel)
theorem kw_445 : Cond.code yX0_departmentsAddUp cX0_departmentsAddUp 6 (some .boolean) ∈ kG := k_mem (i := 445) (by decide +kernel) (by decide +kernel)
theorem kw_446 : Cond.methodLink RX0 33 yX0_piecesOf ∈ kG := k_mem (i := 446) (by decide +kernel) (by decide +kernel)
theorem kw_447 : Cond.methodLink RX0 36 yX0_centsOf ∈ kG := k_mem (i := 447) (by decide +kernel) (by decide +kernel)
theorem kw_448 : Cond.methodLink RX4 170 yX2_wearSpread ∈ kG := k_mem (i := 448) (by decide +kernel) (by decide +kernel)
theorem kw_449 : Cond.instanceMethod yX2_wearSpread ∈ kG := k_mem (i := 449) (by decide +kernel) (by decide +kernel)
theorem kw_450 : Cond.selects RX2 yX2_wearSpread yX2_wearSpread ∈ kG := k_mem (i := 450) (by decide +kernel) (by decide +kernel)
theorem kw_451 : Cond.code yX2_wearSpread cX2_wearSpread 4 (some .int) ∈ kG := k_mem (i := 451) (by decide +kernel) (by decide +kernel)
theorem kw_452 : Cond.methodLink RX2 43 yX2_erasesOf ∈ kG := k_mem (i := 452) (by decide +kernel) (by decide +kernel)
theorem kw_453 : Cond.methodLink RX2 47 yJ9_min_7cf53 ∈ kG := k_mem (i := 453) (by decide +kernel) (by decide +kernel)
theorem kw_454 : Cond.methodLink RX2 52 yJ9_max_7cf53 ∈ kG := k_mem (i := 454) (by decide +kernel) (by decide +kernel)
theorem kw_455 : Cond.methodLink RX4 173 yX2_cutsSuffered ∈ kG := k_mem (i := 455) (by decide +kernel) (by decide +kernel)
theorem kw_456 : Cond.instanceMethod yX2_cutsSuffered ∈ kG := k_mem (i := 456) (by decide +kernel) (by decide +kernel)
theorem kw_457 : Cond.selects RX2 yX2_cutsSuffered yX2_cutsSuffered ∈ kG := k_mem (i := 457) (by decide +kernel) (by decide +kernel)
theorem kw_458 : Cond.code yX2_cutsSuffered cX2_cutsSuffered 1 (some .int) ∈ kG := k_mem (i := 458) (by decide +kernel) (by decide +kernel)
theorem kw_459 : Cond.methodLink RL 9 yL_cell ∈ kG := k_mem (i := 459) (by decide +kernel) (by decide +kernel)
theorem kw_460 : Cond.static yL_cell ∈ kG := k_mem (i := 460) (by decide +kernel) (by decide +kernel)
theorem kw_461 : Cond.code yL_cell cL_cell 2 (some .int) ∈ kG := k_mem (i := 461) (by decide +kernel) (by decide +kernel)
theorem kw_462 : Cond.classLink RL 18 RX5 ∈ kG := k_mem (i := 462) (by decide +kernel) (by decide +kernel)
theorem kw_463 : Cond.instantiable RX5 16 ∈ kG := k_mem (i := 463) (by decide +kernel) (by decide +kernel)
theorem kw_464 : Cond.methodLink RL 20 yX5_init ∈ kG := k_mem (i := 464) (by decide +kernel) (by decide +kernel)
theorem kw_465 : Cond.instanceMethod yX5_init ∈ kG := k_mem (i := 465) (by decide +kernel) (by decide +kernel)
theorem kw_466 : Cond.code yX5_init cX5_init 3 none ∈ kG := k_mem (i := 466) (by decide +kernel) (by decide +kernel)
theorem kw_467 : Cond.methodLink RX5 1 objectInit ∈ kG := k_mem (i := 467) (by decide +kernel) (by decide +kernel)
theorem kw_468 : Cond.constant RX5 36 (9999999) ∈ kG := k_mem (i := 468) (by decide +kernel) (by decide +kernel)
theorem kw_469 : Cond.methodLink RX5 43 yX5_begin ∈ kG := k_mem (i := 469) (by decide +kernel) (by decide +kernel)
theorem kw_471 : Cond.instanceMethod yX5_begin ∈ kG := k_mem (i := 471) (by decide +kernel) (by decide +kernel)
theorem kw_472 : Cond.code yX5_begin cX5_begin 4 none ∈ kG := k_mem (i := 472) (by decide +kernel) (by decide +kernel)
theorem kw_473 : Cond.methodLink RX5 68 yX5_erase ∈ kG := k_mem (i := 473) (by decide +kernel) (by decide +kernel)
theorem kw_475 : Cond.instanceMethod yX5_erase ∈ kG := k_mem (i := 475) (by decide +kernel) (by decide +kernel)
theorem kw_476 : Cond.code yX5_erase cX5_erase 5 none ∈ kG := k_mem (i := 476) (by decide +kernel) (by decide +kernel)
theorem kw_477 : Cond.methodLink RX5 56 yX5_isDone ∈ kG := k_mem (i := 477) (by decide +kernel) (by decide +kernel)
theorem kw_479 : Cond.instanceMethod yX5_isDone ∈ kG := k_mem (i := 479) (by decide +kernel) (by decide +kernel)
theorem kw_480 : Cond.code yX5_isDone cX5_isDone 1 (some .boolean) ∈ kG := k_mem (i := 480) (by decide +kernel) (by decide +kernel)
theorem kw_481 : Cond.methodLink RX5 77 yX5_write ∈ kG := k_mem (i := 481) (by decide +kernel) (by decide +kernel)
theorem kw_483 : Cond.instanceMethod yX5_write ∈ kG := k_mem (i := 483) (by decide +kernel) (by decide +kernel)
theorem kw_484 : Cond.code yX5_write cX5_write 3 none ∈ kG := k_mem (i := 484) (by decide +kernel) (by decide +kernel)
theorem kw_485 : Cond.methodLink RX5 64 yX5_marked ∈ kG := k_mem (i := 485) (by decide +kernel) (by decide +kernel)
theorem kw_486 : Cond.static yX5_marked ∈ kG := k_mem (i := 486) (by decide +kernel) (by decide +kernel)
theorem kw_487 : Cond.code yX5_marked cX5_marked 2 (some .int) ∈ kG := k_mem (i := 487) (by decide +kernel) (by decide +kernel)
theorem kw_488 : Cond.constant RX5 63 (1515870810) ∈ kG := k_mem (i := 488) (by decide +kernel) (by decide +kernel)
theorem kw_489 : Cond.fieldLink RX5 47 "FrankDeskModel" "thrown" "I" ∈ kG := k_mem (i := 489) (by decide +kernel) (by decide +kernel)
theorem kw_490 : Cond.fieldLink RX5 37 "FrankDeskModel" "machine" "I" ∈ kG := k_mem (i := 490) (by decide +kernel) (by decide +kernel)
theorem kw_491 : Cond.fieldLink RX5 7 "FrankDeskModel" "memory" "[I" ∈ kG := k_mem (i := 491) (by decide +kernel) (by decide +kernel)
theorem kw_492 : Cond.fieldLink RX5 13 "FrankDeskModel" "wear" "[I" ∈ kG := k_mem (i := 492) (by decide +kernel) (by decide +kernel)
theorem kw_493 : Cond.fieldLink RX5 16 "FrankDeskModel" "books" "[I" ∈ kG := k_mem (i := 493) (by decide +kernel) (by decide +kernel)
theorem kw_494 : Cond.fieldLink RX5 19 "FrankDeskModel" "record" "[I" ∈ kG := k_mem (i := 494) (by decide +kernel) (by decide +kernel)
theorem kw_495 : Cond.fieldLink RX5 22 "FrankDeskModel" "drafts" "[I" ∈ kG := k_mem (i := 495) (by decide +kernel) (by decide +kernel)
theorem kw_496 : Cond.fieldLink RX5 25 "FrankDeskModel" "table" "[I" ∈ kG := k_mem (i := 496) (by decide +kernel) (by decide +kernel)
theorem kw_497 : Cond.fieldLink RX5 28 "FrankDeskModel" "power" "Z" ∈ kG := k_mem (i := 497) (by decide +kernel) (by decide +kernel)
theorem kw_498 : Cond.fieldLink RX5 32 "FrankDeskModel" "left" "I" ∈ kG := k_mem (i := 498) (by decide +kernel) (by decide +kernel)
theorem kw_499 : Cond.fieldLink RX5 60 "FrankDeskModel" "mask" "I" ∈ kG := k_mem (i := 499) (by decide +kernel) (by decide +kernel)
theorem kw_500 : Cond.fieldLink RX5 40 "FrankDeskModel" "sector" "I" ∈ kG := k_mem (i := 500) (by decide +kernel) (by decide +kernel)
theorem kw_501 : Cond.fieldLink RX5 71 "FrankDeskModel" "records" "I" ∈ kG := k_mem (i := 501) (by decide +kernel) (by decide +kernel)
theorem kw_502 : Cond.fieldLink RX5 74 "FrankDeskModel" "number" "I" ∈ kG := k_mem (i := 502) (by decide +kernel) (by decide +kernel)
theorem kw_503 : Cond.fieldLink RX5 131 "FrankDeskModel" "printedPieces" "I" ∈ kG := k_mem (i := 503) (by decide +kernel) (by decide +kernel)
theorem kw_504 : Cond.fieldLink RX5 134 "FrankDeskModel" "printedCents" "J" ∈ kG := k_mem (i := 504) (by decide +kernel) (by decide +kernel)
theorem kw_538 : Cond.methodLink RL 25 yX5_rate ∈ kG := k_mem (i := 538) (by decide +kernel) (by decide +kernel)
theorem kw_539 : Cond.instanceMethod yX5_rate ∈ kG := k_mem (i := 539) (by decide +kernel) (by decide +kernel)
theorem kw_540 : Cond.selects RX5 yX5_rate yX5_rate ∈ kG := k_mem (i := 540) (by decide +kernel) (by decide +kernel)
theorem kw_541 : Cond.code yX5_rate cX5_rate 5 (some .int) ∈ kG := k_mem (i := 541) (by decide +kernel) (by decide +kernel)
theorem kw_542 : Cond.methodLink RX5 108 yX5_isRate ∈ kG := k_mem (i := 542) (by decide +kernel) (by decide +kernel)
theorem kw_543 : Cond.static yX5_isRate ∈ kG := k_mem (i := 543) (by decide +kernel) (by decide +kernel)
theorem kw_544 : Cond.code yX5_isRate cX5_isRate 3 (some .boolean) ∈ kG := k_mem (i := 544) (by decide +kernel) (by decide +kernel)
theorem kw_545 : Cond.constantLong RX5 102 (7) ∈ kG := k_mem (i := 545) (by decide +kernel) (by decide +kernel)
theorem kw_546 : Cond.methodLink RX5 52 yX5_in ∈ kG := k_mem (i := 546) (by decide +kernel) (by decide +kernel)
theorem kw_547 : Cond.static yX5_in ∈ kG := k_mem (i := 547) (by decide +kernel) (by decide +kernel)
theorem kw_548 : Cond.code yX5_in cX5_in 6 (some .boolean) ∈ kG := k_mem (i := 548) (by decide +kernel) (by decide +kernel)
theorem kw_549 : Cond.constantLong RX5 104 (9) ∈ kG := k_mem (i := 549) (by decide +kernel) (by decide +kernel)
theorem kw_550 : Cond.constantLong RX5 106 (3) ∈ kG := k_mem (i := 550) (by decide +kernel) (by decide +kernel)
theorem kw_551 : Cond.constantLong RX5 50 (999999999) ∈ kG := k_mem (i := 551) (by decide +kernel) (by decide +kernel)
theorem kw_552 : Cond.methodLink RX5 112 yX5_place ∈ kG := k_mem (i := 552) (by decide +kernel) (by decide +kernel)
theorem kw_553 : Cond.static yX5_place ∈ kG := k_mem (i := 553) (by decide +kernel) (by decide +kernel)
theorem kw_554 : Cond.code yX5_place cX5_place 3 (some .int) ∈ kG := k_mem (i := 554) (by decide +kernel) (by decide +kernel)
theorem kw_555 : Cond.methodLink RL 30 yX5_loadTable ∈ kG := k_mem (i := 555) (by decide +kernel) (by decide +kernel)
theorem kw_556 : Cond.instanceMethod yX5_loadTable ∈ kG := k_mem (i := 556) (by decide +kernel) (by decide +kernel)
theorem kw_557 : Cond.selects RX5 yX5_loadTable yX5_loadTable ∈ kG := k_mem (i := 557) (by decide +kernel) (by decide +kernel)
theorem kw_558 : Cond.code yX5_loadTable cX5_loadTable 3 (some .int) ∈ kG := k_mem (i := 558) (by decide +kernel) (by decide +kernel)
theorem kw_559 : Cond.methodLink RX5 116 yX5_put ∈ kG := k_mem (i := 559) (by decide +kernel) (by decide +kernel)
theorem kw_561 : Cond.instanceMethod yX5_put ∈ kG := k_mem (i := 561) (by decide +kernel) (by decide +kernel)
theorem kw_562 : Cond.code yX5_put cX5_put 7 (some .boolean) ∈ kG := k_mem (i := 562) (by decide +kernel) (by decide +kernel)
theorem kw_563 : Cond.methodLink RX5 81 yX5_isFree ∈ kG := k_mem (i := 563) (by decide +kernel) (by decide +kernel)
theorem kw_565 : Cond.instanceMethod yX5_isFree ∈ kG := k_mem (i := 565) (by decide +kernel) (by decide +kernel)
theorem kw_566 : Cond.code yX5_isFree cX5_isFree 4 (some .boolean) ∈ kG := k_mem (i := 566) (by decide +kernel) (by decide +kernel)
theorem kw_567 : Cond.methodLink RX5 85 yX5_act ∈ kG := k_mem (i := 567) (by decide +kernel) (by decide +kernel)
theorem kw_569 : Cond.instanceMethod yX5_act ∈ kG := k_mem (i := 569) (by decide +kernel) (by decide +kernel)
theorem kw_570 : Cond.code yX5_act cX5_act 4 none ∈ kG := k_mem (i := 570) (by decide +kernel) (by decide +kernel)
theorem kw_571 : Cond.methodLink RX5 95 yX5_piece ∈ kG := k_mem (i := 571) (by decide +kernel) (by decide +kernel)
theorem kw_573 : Cond.instanceMethod yX5_piece ∈ kG := k_mem (i := 573) (by decide +kernel) (by decide +kernel)
theorem kw_574 : Cond.code yX5_piece cX5_piece 6 none ∈ kG := k_mem (i := 574) (by decide +kernel) (by decide +kernel)
theorem kw_575 : Cond.methodLink RX5 98 yX5_more ∈ kG := k_mem (i := 575) (by decide +kernel) (by decide +kernel)
theorem kw_577 : Cond.instanceMethod yX5_more ∈ kG := k_mem (i := 577) (by decide +kernel) (by decide +kernel)
theorem kw_578 : Cond.code yX5_more cX5_more 6 none ∈ kG := k_mem (i := 578) (by decide +kernel) (by decide +kernel)
theorem kw_579 : Cond.methodLink RX5 91 yX5_sum ∈ kG := k_mem (i := 579) (by decide +kernel) (by decide +kernel)
theorem kw_581 : Cond.instanceMethod yX5_sum ∈ kG := k_mem (i := 581) (by decide +kernel) (by decide +kernel)
theorem kw_582 : Cond.code yX5_sum cX5_sum 2 (some .long) ∈ kG := k_mem (i := 582) (by decide +kernel) (by decide +kernel)
theorem kw_583 : Cond.constantLong RX5 89 (4294967295) ∈ kG := k_mem (i := 583) (by decide +kernel) (by decide +kernel)
theorem kw_584 : Cond.methodLink RL 35 yX5_weigh ∈ kG := k_mem (i := 584) (by decide +kernel) (by decide +kernel)
theorem kw_585 : Cond.instanceMethod yX5_weigh ∈ kG := k_mem (i := 585) (by decide +kernel) (by decide +kernel)
theorem kw_586 : Cond.selects RX5 yX5_weigh yX5_weigh ∈ kG := k_mem (i := 586) (by decide +kernel) (by decide +kernel)
theorem kw_587 : Cond.code yX5_weigh cX5_weigh 6 (some .int) ∈ kG := k_mem (i := 587) (by decide +kernel) (by decide +kernel)
theorem kw_588 : Cond.constantLong RX5 119 (500) ∈ kG := k_mem (i := 588) (by decide +kernel) (by decide +kernel)
theorem kw_589 : Cond.methodLink RL 39 yX5_frank ∈ kG := k_mem (i := 589) (by decide +kernel) (by decide +kernel)
theorem kw_590 : Cond.instanceMethod yX5_frank ∈ kG := k_mem (i := 590) (by decide +kernel) (by decide +kernel)
theorem kw_591 : Cond.selects RX5 yX5_frank yX5_frank ∈ kG := k_mem (i := 591) (by decide +kernel) (by decide +kernel)
theorem kw_592 : Cond.code yX5_frank cX5_frank 5 (some .int) ∈ kG := k_mem (i := 592) (by decide +kernel) (by decide +kernel)
theorem kw_593 : Cond.methodLink RX5 123 yX5_isDay ∈ kG := k_mem (i := 593) (by decide +kernel) (by decide +kernel)
theorem kw_594 : Cond.static yX5_isDay ∈ kG := k_mem (i := 594) (by decide +kernel) (by decide +kernel)
theorem kw_595 : Cond.code yX5_isDay cX5_isDay 1 (some .boolean) ∈ kG := k_mem (i := 595) (by decide +kernel) (by decide +kernel)
theorem kw_596 : Cond.constantLong RX5 121 (100000) ∈ kG := k_mem (i := 596) (by decide +kernel) (by decide +kernel)
theorem kw_597 : Cond.constantLong RX5 126 (15) ∈ kG := k_mem (i := 597) (by decide +kernel) (by decide +kernel)
theorem kw_598 : Cond.methodLink RX5 128 yX5_isMoney ∈ kG := k_mem (i := 598) (by decide +kernel) (by decide +kernel)
theorem kw_599 : Cond.static yX5_isMoney ∈ kG := k_mem (i := 599) (by decide +kernel) (by decide +kernel)
theorem kw_600 : Cond.code yX5_isMoney cX5_isMoney 1 (some .boolean) ∈ kG := k_mem (i := 600) (by decide +kernel) (by decide +kernel)
theorem kw_601 : Cond.methodLink RL 44 yX5_printed ∈ kG := k_mem (i := 601) (by decide +kernel) (by decide +kernel)
theorem kw_602 : Cond.instanceMethod yX5_printed ∈ kG := k_mem (i := 602) (by decide +kernel) (by decide +kernel)
theorem kw_603 : Cond.selects RX5 yX5_printed yX5_printed ∈ kG := k_mem (i := 603) (by decide +kernel) (by decide +kernel)
theorem kw_604 : Cond.code yX5_printed cX5_printed 2 (some .long) ∈ kG := k_mem (i := 604) (by decide +kernel) (by decide +kernel)
theorem kw_605 : Cond.constantLong RX5 138 (-1) ∈ kG := k_mem (i := 605) (by decide +kernel) (by decide +kernel)
theorem kw_606 : Cond.methodLink RL 49 yX5_refill ∈ kG := k_mem (i := 606) (by decide +kernel) (by decide +kernel)
theorem kw_607 : Cond.instanceMethod yX5_refill ∈ kG := k_mem (i := 607) (by decide +kernel) (by decide +kernel)
theorem kw_608 : Cond.selects RX5 yX5_refill yX5_refill ∈ kG := k_mem (i := 608) (by decide +kernel) (by decide +kernel)
theorem kw_609 : Cond.code yX5_refill cX5_refill 3 (some .int) ∈ kG := k_mem (i := 609) (by decide +kernel) (by decide +kernel)
theorem kw_610 : Cond.methodLink RX5 148 yX5_code ∈ kG := k_mem (i := 610) (by decide +kernel) (by decide +kernel)
theorem kw_612 : Cond.instanceMethod yX5_code ∈ kG := k_mem (i := 612) (by decide +kernel) (by decide +kernel)
theorem kw_613 : Cond.code yX5_code cX5_code 5 (some .int) ∈ kG := k_mem (i := 613) (by decide +kernel) (by decide +kernel)
theorem kw_614 : Cond.constantLong RX5 140 (1009) ∈ kG := k_mem (i := 614) (by decide +kernel) (by decide +kernel)
theorem kw_615 : Cond.constantLong RX5 142 (1000003) ∈ kG := k_mem (i := 615) (by decide +kernel) (by decide +kernel)
theorem kw_616 : Cond.constantLong RX5 144 (7919) ∈ kG := k_mem (i := 616) (by decide +kernel) (by decide +kernel)
theorem kw_617 : Cond.constantLong RX5 146 (1000000) ∈ kG := k_mem (i := 617) (by decide +kernel) (by decide +kernel)
theorem kw_618 : Cond.constantLong RX5 152 (1099511627776) ∈ kG := k_mem (i := 618) (by decide +kernel) (by decide +kernel)
theorem kw_619 : Cond.methodLink RL 53 yX5_codeFor ∈ kG := k_mem (i := 619) (by decide +kernel) (by decide +kernel)
theorem kw_620 : Cond.instanceMethod yX5_codeFor ∈ kG := k_mem (i := 620) (by decide +kernel) (by decide +kernel)
theorem kw_621 : Cond.selects RX5 yX5_codeFor yX5_codeFor ∈ kG := k_mem (i := 621) (by decide +kernel) (by decide +kernel)
theorem kw_622 : Cond.code yX5_codeFor cX5_codeFor 3 (some .int) ∈ kG := k_mem (i := 622) (by decide +kernel) (by decide +kernel)
theorem kw_623 : Cond.methodLink RL 57 yX5_claimBack ∈ kG := k_mem (i := 623) (by decide +kernel) (by decide +kernel)
theorem kw_624 : Cond.instanceMethod yX5_claimBack ∈ kG := k_mem (i := 624) (by decide +kernel) (by decide +kernel)
theorem kw_625 : Cond.selects RX5 yX5_claimBack yX5_claimBack ∈ kG := k_mem (i := 625) (by decide +kernel) (by decide +kernel)
theorem kw_626 : Cond.code yX5_claimBack cX5_claimBack 4 (some .int) ∈ kG := k_mem (i := 626) (by decide +kernel) (by decide +kernel)
theorem kw_627 : Cond.methodLink RL 61 yX5_book ∈ kG := k_mem (i := 627) (by decide +kernel) (by decide +kernel)
theorem kw_628 : Cond.instanceMethod yX5_book ∈ kG := k_mem (i := 628) (by decide +kernel) (by decide +kernel)
theorem kw_629 : Cond.selects RX5 yX5_book yX5_book ∈ kG := k_mem (i := 629) (by decide +kernel) (by decide +kernel)
theorem kw_630 : Cond.code yX5_book cX5_book 2 (some .long) ∈ kG := k_mem (i := 630) (by decide +kernel) (by decide +kernel)
theorem kw_631 : Cond.constantLong RX5 154 (-7) ∈ kG := k_mem (i := 631) (by decide +kernel) (by decide +kernel)
theorem kw_632 : Cond.methodLink RL 66 yX5_counter ∈ kG := k_mem (i := 632) (by decide +kernel) (by decide +kernel)
theorem kw_633 : Cond.instanceMethod yX5_counter ∈ kG := k_mem (i := 633) (by decide +kernel) (by decide +kernel)
theorem kw_634 : Cond.selects RX5 yX5_counter yX5_counter ∈ kG := k_mem (i := 634) (by decide +kernel) (by decide +kernel)
theorem kw_635 : Cond.code yX5_counter cX5_counter 4 (some .long) ∈ kG := k_mem (i := 635) (by decide +kernel) (by decide +kernel)
theorem kw_636 : Cond.methodLink RL 70 yX5_dayTotal ∈ kG := k_mem (i := 636) (by decide +kernel) (by decide +kernel)
theorem kw_637 : Cond.instanceMethod yX5_dayTotal ∈ kG := k_mem (i := 637) (by decide +kernel) (by decide +kernel)
theorem kw_638 : Cond.selects RX5 yX5_dayTotal yX5_dayTotal ∈ kG := k_mem (i := 638) (by decide +kernel) (by decide +kernel)
theorem kw_639 : Cond.code yX5_dayTotal cX5_dayTotal 4 (some .long) ∈ kG := k_mem (i := 639) (by decide +kernel) (by decide +kernel)
theorem kw_640 : Cond.methodLink RL 74 yX5_inspect ∈ kG := k_mem (i := 640) (by decide +kernel) (by decide +kernel)
theorem kw_641 : Cond.instanceMethod yX5_inspect ∈ kG := k_mem (i := 641) (by decide +kernel) (by decide +kernel)
theorem kw_642 : Cond.selects RX5 yX5_inspect yX5_inspect ∈ kG := k_mem (i := 642) (by decide +kernel) (by decide +kernel)
theorem kw_643 : Cond.code yX5_inspect cX5_inspect 2 (some .int) ∈ kG := k_mem (i := 643) (by decide +kernel) (by decide +kernel)
theorem kw_644 : Cond.methodLink RL 79 yX5_lock ∈ kG := k_mem (i := 644) (by decide +kernel) (by decide +kernel)
theorem kw_645 : Cond.instanceMethod yX5_lock ∈ kG := k_mem (i := 645) (by decide +kernel) (by decide +kernel)
theorem kw_646 : Cond.selects RX5 yX5_lock yX5_lock ∈ kG := k_mem (i := 646) (by decide +kernel) (by decide +kernel)
theorem kw_647 : Cond.code yX5_lock cX5_lock 1 (some .int) ∈ kG := k_mem (i := 647) (by decide +kernel) (by decide +kernel)
theorem kw_648 : Cond.methodLink RL 83 yX5_unlock ∈ kG := k_mem (i := 648) (by decide +kernel) (by decide +kernel)
theorem kw_649 : Cond.instanceMethod yX5_unlock ∈ kG := k_mem (i := 649) (by decide +kernel) (by decide +kernel)
theorem kw_650 : Cond.selects RX5 yX5_unlock yX5_unlock ∈ kG := k_mem (i := 650) (by decide +kernel) (by decide +kernel)
theorem kw_651 : Cond.code yX5_unlock cX5_unlock 2 (some .int) ∈ kG := k_mem (i := 651) (by decide +kernel) (by decide +kernel)
theorem kw_652 : Cond.methodLink RL 87 yX5_cut ∈ kG := k_mem (i := 652) (by decide +kernel) (by decide +kernel)
theorem kw_653 : Cond.instanceMethod yX5_cut ∈ kG := k_mem (i := 653) (by decide +kernel) (by decide +kernel)
theorem kw_654 : Cond.selects RX5 yX5_cut yX5_cut ∈ kG := k_mem (i := 654) (by decide +kernel) (by decide +kernel)
theorem kw_655 : Cond.code yX5_cut cX5_cut 3 (some .int) ∈ kG := k_mem (i := 655) (by decide +kernel) (by decide +kernel)
theorem kw_656 : Cond.methodLink RL 91 yX5_mount ∈ kG := k_mem (i := 656) (by decide +kernel) (by decide +kernel)
theorem kw_657 : Cond.instanceMethod yX5_mount ∈ kG := k_mem (i := 657) (by decide +kernel) (by decide +kernel)
theorem kw_658 : Cond.selects RX5 yX5_mount yX5_mount ∈ kG := k_mem (i := 658) (by decide +kernel) (by decide +kernel)
theorem kw_659 : Cond.code yX5_mount cX5_mount 4 (some .int) ∈ kG := k_mem (i := 659) (by decide +kernel) (by decide +kernel)
theorem kw_660 : Cond.methodLink RX5 156 yX5_markOf ∈ kG := k_mem (i := 660) (by decide +kernel) (by decide +kernel)
theorem kw_662 : Cond.instanceMethod yX5_markOf ∈ kG := k_mem (i := 662) (by decide +kernel) (by decide +kernel)
theorem kw_663 : Cond.code yX5_markOf cX5_markOf 5 (some .int) ∈ kG := k_mem (i := 663) (by decide +kernel) (by decide +kernel)
theorem kw_664 : Cond.methodLink RL 95 yX5_uncertain ∈ kG := k_mem (i := 664) (by decide +kernel) (by decide +kernel)
theorem kw_665 : Cond.instanceMethod yX5_uncertain ∈ kG := k_mem (i := 665) (by decide +kernel) (by decide +kernel)
theorem kw_666 : Cond.selects RX5 yX5_uncertain yX5_uncertain ∈ kG := k_mem (i := 666) (by decide +kernel) (by decide +kernel)
theorem kw_667 : Cond.code yX5_uncertain cX5_uncertain 1 (some .int) ∈ kG := k_mem (i := 667) (by decide +kernel) (by decide +kernel)
theorem kw_668 : Cond.methodLink RL 100 yX5_settle ∈ kG := k_mem (i := 668) (by decide +kernel) (by decide +kernel)
theorem kw_669 : Cond.instanceMethod yX5_settle ∈ kG := k_mem (i := 669) (by decide +kernel) (by decide +kernel)
theorem kw_670 : Cond.selects RX5 yX5_settle yX5_settle ∈ kG := k_mem (i := 670) (by decide +kernel) (by decide +kernel)
theorem kw_671 : Cond.code yX5_settle cX5_settle 2 (some .int) ∈ kG := k_mem (i := 671) (by decide +kernel) (by decide +kernel)
theorem kw_672 : Cond.methodLink RL 104 yX5_wear ∈ kG := k_mem (i := 672) (by decide +kernel) (by decide +kernel)
theorem kw_673 : Cond.instanceMethod yX5_wear ∈ kG := k_mem (i := 673) (by decide +kernel) (by decide +kernel)
theorem kw_674 : Cond.selects RX5 yX5_wear yX5_wear ∈ kG := k_mem (i := 674) (by decide +kernel) (by decide +kernel)
theorem kw_675 : Cond.code yX5_wear cX5_wear 2 (some .int) ∈ kG := k_mem (i := 675) (by decide +kernel) (by decide +kernel)
theorem kw_676 : Cond.methodLink RL 108 yX5_word ∈ kG := k_mem (i := 676) (by decide +kernel) (by decide +kernel)
theorem kw_677 : Cond.instanceMethod yX5_word ∈ kG := k_mem (i := 677) (by decide +kernel) (by decide +kernel)
theorem kw_678 : Cond.selects RX5 yX5_word yX5_word ∈ kG := k_mem (i := 678) (by decide +kernel) (by decide +kernel)
theorem kw_679 : Cond.code yX5_word cX5_word 3 (some .int) ∈ kG := k_mem (i := 679) (by decide +kernel) (by decide +kernel)
theorem kw_680 : Cond.constantLong RX5 159 (255) ∈ kG := k_mem (i := 680) (by decide +kernel) (by decide +kernel)
theorem kw_681 : Cond.methodLink RL 112 yX5_sound ∈ kG := k_mem (i := 681) (by decide +kernel) (by decide +kernel)
theorem kw_682 : Cond.instanceMethod yX5_sound ∈ kG := k_mem (i := 682) (by decide +kernel) (by decide +kernel)
theorem kw_683 : Cond.selects RX5 yX5_sound yX5_sound ∈ kG := k_mem (i := 683) (by decide +kernel) (by decide +kernel)
theorem kw_684 : Cond.code yX5_sound cX5_sound 1 (some .int) ∈ kG := k_mem (i := 684) (by decide +kernel) (by decide +kernel)
theorem kv_L_100 : kwV RL 100 RX5 yX5_settle cX5_settle 2 (some .int) 1 := ⟨kw_668, kw_669, kw_670, kw_36, kw_671, by decide +kernel⟩
theorem kv_L_101 : kwV RL 101 RX4 yX4_wear cX4_wear 2 (some .int) 1 := ⟨kw_420, kw_421, kw_422, kw_29, kw_423, by decide +kernel⟩
theorem kv_L_104 : kwV RL 104 RX5 yX5_wear cX5_wear 2 (some .int) 1 := ⟨kw_672, kw_673, kw_674, kw_36, kw_675, by decide +kernel⟩
theorem kv_L_105 : kwV RL 105 RX4 yX4_word cX4_word 3 (some .int) 2 := ⟨kw_429, kw_430, kw_431, kw_29, kw_432, by decide +kernel⟩
theorem kv_L_108 : kwV RL 108 RX5 yX5_word cX5_word 3 (some .int) 2 := ⟨kw_676, kw_677, kw_678, kw_36, kw_679, by decide +kernel⟩
theorem kv_L_109 : kwV RL 109 RX4 yX4_sound cX4_sound 2 (some .int) 0 := ⟨kw_434, kw_435, kw_436, kw_29, kw_437, by decide +kernel⟩
theorem kv_L_112 : kwV RL 112 RX5 yX5_sound cX5_sound 1 (some .int) 0 := ⟨kw_681, kw_682, kw_683, kw_36, kw_684, by decide +kernel⟩
theorem kv_L_21 : kwV RL 21 RX4 yX4_rate cX4_rate 5 (some .int) 4 := ⟨kw_192, kw_193, kw_194, kw_29, kw_195, by decide +kernel⟩
theorem kv_L_25 : kwV RL 25 RX5 yX5_rate cX5_rate 5 (some .int) 4 := ⟨kw_538, kw_539, kw_540, kw_36, kw_541, by decide +kernel⟩
theorem kv_L_26 : kwV RL 26 RX4 yX4_loadTable cX4_loadTable 3 (some .int) 1 := ⟨kw_204, kw_205, kw_206, kw_29, kw_207, by decide +kernel⟩
theorem kv_L_30 : kwV RL 30 RX5 yX5_loadTable cX5_loadTable 3 (some .int) 1 := ⟨kw_555, kw_556, kw_557, kw_36, kw_558, by decide +kernel⟩
theorem kv_L_31 : kwV RL 31 RX4 yX4_weigh cX4_weigh 5 (some .int) 3 := ⟨kw_269, kw_270, kw_271, kw_29, kw_272, by decide +kernel⟩
theorem kv_L_35 : kwV RL 35 RX5 yX5_weigh cX5_weigh 6 (some .int) 3 := ⟨kw_584, kw_585, kw_586, kw_36, kw_587, by decide +kernel⟩
theorem kv_L_36 : kwV RL 36 RX4 yX4_frank cX4_frank 4 (some .int) 3 := ⟨kw_277, kw_278, kw_279, kw_29, kw_280, by decide +kernel⟩
theorem kv_L_39 : kwV RL 39 RX5 yX5_frank cX5_frank 5 (some .int) 3 := ⟨kw_589, kw_590, kw_591, kw_36, kw_592, by decide +kernel⟩
theorem kv_L_40 : kwV RL 40 RX4 yX4_printed cX4_printed 2 (some .long) 1 := ⟨kw_304, kw_305, kw_306, kw_29, kw_307, by decide +kernel⟩
theorem kv_L_44 : kwV RL 44 RX5 yX5_printed cX5_printed 2 (some .long) 1 := ⟨kw_601, kw_602, kw_603, kw_36, kw_604, by decide +kernel⟩
theorem kv_L_45 : kwV RL 45 RX4 yX4_refill cX4_refill 3 (some .int) 2 := ⟨kw_309, kw_310, kw_311, kw_29, kw_312, by decide +kernel⟩
theorem kv_L_49 : kwV RL 49 RX5 yX5_refill cX5_refill 3 (some .int) 2 := ⟨kw_606, kw_607, kw_608, kw_36, kw_609, by decide +kernel⟩
theorem kv_L_50 : kwV RL 50 RX4 yX4_codeFor cX4_codeFor 5 (some .int) 2 := ⟨kw_322, kw_314, kw_315, kw_29, kw_316, by decide +kernel⟩
theorem kv_L_53 : kwV RL 53 RX5 yX5_codeFor cX5_codeFor 3 (some .int) 2 := ⟨kw_619, kw_620, kw_621, kw_36, kw_622, by decide +kernel⟩
theorem kv_L_54 : kwV RL 54 RX4 yX4_claimBack cX4_claimBack 3 (some .int) 2 := ⟨kw_323, kw_324, kw_325, kw_29, kw_326, by decide +kernel⟩
theorem kv_L_57 : kwV RL 57 RX5 yX5_claimBack cX5_claimBack 4 (some .int) 2 := ⟨kw_623, kw_624, kw_625, kw_36, kw_626, by decide +kernel⟩
theorem kv_L_58 : kwV RL 58 RX4 yX4_book cX4_book 2 (some .long) 1 := ⟨kw_327, kw_328, kw_329, kw_29, kw_330, by decide +kernel⟩
theorem kv_L_61 : kwV RL 61 RX5 yX5_book cX5_book 2 (some .long) 1 := ⟨kw_627, kw_628, kw_629, kw_36, kw_630, by decide +kernel⟩
theorem kv_L_62 : kwV RL 62 RX4 yX4_counter cX4_counter 3 (some .long) 2 := ⟨kw_332, kw_333, kw_334, kw_29, kw_335, by decide +kernel⟩
theorem kv_L_66 : kwV RL 66 RX5 yX5_counter cX5_counter 4 (some .long) 2 := ⟨kw_632, kw_633, kw_634, kw_36, kw_635, by decide +kernel⟩
theorem kv_L_67 : kwV RL 67 RX4 yX4_dayTotal cX4_dayTotal 3 (some .long) 2 := ⟨kw_347, kw_348, kw_349, kw_29, kw_350, by decide +kernel⟩
theorem kv_L_70 : kwV RL 70 RX5 yX5_dayTotal cX5_dayTotal 4 (some .long) 2 := ⟨kw_636, kw_637, kw_638, kw_36, kw_639, by decide +kernel⟩
theorem kv_L_71 : kwV RL 71 RX4 yX4_inspect cX4_inspect 2 (some .int) 1 := ⟨kw_359, kw_360, kw_361, kw_29, kw_362, by decide +kernel⟩
theorem kv_L_74 : kwV RL 74 RX5 yX5_inspect cX5_inspect 2 (some .int) 1 := ⟨kw_640, kw_641, kw_642, kw_36, kw_643, by decide +kernel⟩
theorem kv_L_75 : kwV RL 75 RX4 yX4_lock cX4_lock 1 (some .int) 0 := ⟨kw_363, kw_364, kw_365, kw_29, kw_366, by decide +kernel⟩
theorem kv_L_79 : kwV RL 79 RX5 yX5_lock cX5_lock 1 (some .int) 0 := ⟨kw_644, kw_645, kw_646, kw_36, kw_647, by decide +kernel⟩
theorem kv_L_80 : kwV RL 80 RX4 yX4_unlock cX4_unlock 2 (some .int) 1 := ⟨kw_367, kw_368, kw_369, kw_29, kw_370, by decide +kernel⟩
theorem kv_L_83 : kwV RL 83 RX5 yX5_unlock cX5_unlock 2 (some .int) 1 := ⟨kw_648, kw_649, kw_650, kw_36, kw_651, by decide +kernel⟩
theorem kv_L_84 : kwV RL 84 RX4 yX4_cut cX4_cut 3 (some .int) 2 := ⟨kw_371, kw_372, kw_373, kw_29, kw_374, by decide +kernel⟩
theorem kv_L_87 : kwV RL 87 RX5 yX5_cut cX5_cut 3 (some .int) 2 := ⟨kw_652, kw_653, kw_654, kw_36, kw_655, by decide +kernel⟩
theorem kv_L_88 : kwV RL 88 RX4 yX4_mount cX4_mount 1 (some .int) 0 := ⟨kw_379, kw_380, kw_381, kw_29, kw_382, by decide +kernel⟩
theorem kv_L_9 : kwS RL 9 yL_cell cL_cell 2 (some .int) 2 := ⟨kw_459, kw_460, kw_28, kw_461, by decide +kernel⟩
theorem kv_L_91 : kwV RL 91 RX5 yX5_mount cX5_mount 4 (some .int) 0 := ⟨kw_656, kw_657, kw_658, kw_36, kw_659, by decide +kernel⟩
theorem kv_L_92 : kwV RL 92 RX4 yX4_uncertain cX4_uncertain 1 (some .int) 0 := ⟨kw_412, kw_413, kw_414, kw_29, kw_415, by decide +kernel⟩
theorem kv_L_95 : kwV RL 95 RX5 yX5_uncertain cX5_uncertain 1 (some .int) 0 := ⟨kw_664, kw_665, kw_666, kw_36, kw_667, by decide +kernel⟩
theorem kv_L_96 : kwV RL 96 RX4 yX4_settle cX4_settle 2 (some .int) 1 := ⟨kw_416, kw_417, kw_418, kw_29, kw_419, by decide +kernel⟩
theorem kv_X0_13 : kwV RX0 13 RX0 yX0_put cX0_put 3 none 2 := ⟨kw_103, kw_104, kw_105, kw_34, kw_106, by decide +kernel⟩
theorem kv_X0_17 : kwV RX0 17 RX0 yX0_at cX0_at 2 (some .int) 1 := ⟨kw_245, kw_142, kw_143, kw_34, kw_144, by decide +kernel⟩
theorem kv_X0_23 : kwS RX0 23 yX0_departmentAt cX0_departmentAt 1 (some .int) 1 := ⟨kw_251, kw_252, kw_34, kw_253, by decide +kernel⟩
theorem kv_X0_26 : kwV RX0 26 RX0 yX0_sumAt cX0_sumAt 2 (some .long) 1 := ⟨kw_241, kw_242, kw_243, kw_34, kw_244, by decide +kernel⟩
theorem kv_X0_30 : kwS RX0 30 yX0_placeOfDay cX0_placeOfDay 1 (some .int) 1 := ⟨kw_258, kw_259, kw_34, kw_260, by decide +kernel⟩
theorem kv_X0_33 : kwV RX0 33 RX0 yX0_piecesOf cX0_piecesOf 2 (some .int) 1 := ⟨kw_446, kw_340, kw_341, kw_34, kw_342, by decide +kernel⟩
theorem kv_X0_36 : kwV RX0 36 RX0 yX0_centsOf cX0_centsOf 2 (some .long) 1 := ⟨kw_447, kw_344, kw_345, kw_34, kw_346, by decide +kernel⟩
theorem kv_X0_39 : kwV RX0 39 RX0 yX0_addPiece cX0_addPiece 3 none 2 := ⟨kw_233, kw_235, kw_4, kw_34, kw_236, by decide +kernel⟩
theorem kv_X0_42 : kwV RX0 42 RX0 yX0_addToDay cX0_addToDay 4 none 2 := ⟨kw_254, kw_256, kw_7, kw_34, kw_257, by decide +kernel⟩
theorem kv_X0_45 : kwV RX0 45 RX0 yX0_settleFor cX0_settleFor 2 none 1 := ⟨kw_261, kw_263, kw_8, kw_34, kw_264, by decide +kernel⟩
theorem kv_X0_49 : kwV RX0 49 RX0 yX0_addToSum cX0_addToSum 5 none 2 := ⟨kw_237, kw_239, kw_5, kw_34, kw_240, by decide +kernel⟩
theorem kv_X0_52 : kwV RX0 52 RX0 yX0_addOne cX0_addOne 2 none 1 := ⟨kw_247, kw_249, kw_6, kw_34, kw_250, by decide +kernel⟩
theorem kv_X1_21 : kwV RX1 21 RX1 yX1_startSector cX1_startSector 4 (some .boolean) 2 := ⟨kw_117, kw_119, kw_0, kw_35, kw_120, by decide +kernel⟩
theorem kv_X1_29 : kwV RX1 29 RX1 yX1_hasRoom cX1_hasRoom 1 (some .boolean) 0 := ⟨kw_217, kw_219, kw_3, kw_35, kw_220, by decide +kernel⟩
theorem kv_X1_38 : kwV RX1 38 RX2 yX2_read cX2_read 3 (some .int) 2 := ⟨kw_228, kw_150, kw_151, kw_32, kw_152, by decide +kernel⟩
theorem kv_X1_45 : kwS RX1 45 yX1_recordAt cX1_recordAt 1 (some .int) 1 := ⟨kw_221, kw_222, kw_35, kw_223, by decide +kernel⟩
theorem kv_X1_49 : kwV RX1 49 RX2 yX2_write cX2_write 4 (some .boolean) 3 := ⟨kw_133, kw_134, kw_135, kw_32, kw_136, by decide +kernel⟩
theorem kv_X1_53 : kwV RX1 53 RX2 yX2_markOf cX2_markOf 6 (some .int) 3 := ⟨kw_145, kw_146, kw_147, kw_32, kw_148, by decide +kernel⟩
theorem kv_X1_57 : kwV RX1 57 RX0 yX0_apply cX0_apply 4 none 3 := ⟨kw_229, kw_230, kw_231, kw_34, kw_232, by decide +kernel⟩
theorem kv_X1_61 : kwV RX1 61 RX1 yX1_newestSector cX1_newestSector 4 (some .int) 0 := ⟨kw_391, kw_393, kw_12, kw_35, kw_394, by decide +kernel⟩
theorem kv_X1_65 : kwV RX1 65 RX0 yX0_put cX0_put 3 none 2 := ⟨kw_403, kw_104, kw_105, kw_34, kw_106, by decide +kernel⟩
theorem kv_X1_69 : kwV RX1 69 RX1 yX1_isNextRecord cX1_isNextRecord 2 (some .boolean) 1 := ⟨kw_404, kw_406, kw_15, kw_35, kw_407, by decide +kernel⟩
theorem kv_X1_73 : kwV RX1 73 RX2 yX2_areBlank cX2_areBlank 5 (some .boolean) 3 := ⟨kw_224, kw_225, kw_226, kw_32, kw_227, by decide +kernel⟩
theorem kv_X1_76 : kwV RX1 76 RX2 yX2_eraseSector cX2_eraseSector 5 (some .boolean) 1 := ⟨kw_121, kw_122, kw_123, kw_32, kw_124, by decide +kernel⟩
theorem kv_X1_79 : kwV RX1 79 RX1 yX1_writeBooks cX1_writeBooks 3 (some .boolean) 1 := ⟨kw_137, kw_139, kw_2, kw_35, kw_140, by decide +kernel⟩
theorem kv_X1_82 : kwV RX1 82 RX0 yX0_at cX0_at 2 (some .int) 1 := ⟨kw_141, kw_142, kw_143, kw_34, kw_144, by decide +kernel⟩
theorem kv_X1_85 : kwV RX1 85 RX1 yX1_isMarked cX1_isMarked 2 (some .boolean) 1 := ⟨kw_395, kw_397, kw_13, kw_35, kw_398, by decide +kernel⟩
theorem kv_X1_88 : kwV RX1 88 RX1 yX1_isNewer cX1_isNewer 3 (some .boolean) 2 := ⟨kw_399, kw_401, kw_14, kw_35, kw_402, by decide +kernel⟩
theorem kv_X2_20 : kwS RX2 20 yJ7_fill_53178 cJ7_fill_53178 4 none 2 := ⟨kw_72, kw_73, kw_33, kw_74, by decide +kernel⟩
theorem kv_X2_26 : kwV RX2 26 RX2 yX2_holds cX2_holds 3 (some .boolean) 2 := ⟨kw_125, kw_126, kw_127, kw_32, kw_128, by decide +kernel⟩
theorem kv_X2_30 : kwV RX2 30 RX2 yX2_spendOne cX2_spendOne 1 (some .boolean) 0 := ⟨kw_129, kw_131, kw_1, kw_32, kw_132, by decide +kernel⟩
theorem kv_X2_38 : kwV RX2 38 RX2 yX2_read cX2_read 3 (some .int) 2 := ⟨kw_149, kw_150, kw_151, kw_32, kw_152, by decide +kernel⟩
theorem kv_X2_43 : kwV RX2 43 RX2 yX2_erasesOf cX2_erasesOf 2 (some .int) 1 := ⟨kw_452, kw_426, kw_427, kw_32, kw_428, by decide +kernel⟩
theorem kv_X2_47 : kwS RX2 47 yJ9_min_7cf53 cJ9_min_7cf53 2 (some .int) 2 := ⟨kw_453, kw_47, kw_30, kw_48, by decide +kernel⟩
theorem kv_X2_52 : kwS RX2 52 yJ9_max_7cf53 cJ9_max_7cf53 2 (some .int) 2 := ⟨kw_454, kw_50, kw_30, kw_51, by decide +kernel⟩
theorem kv_X3_16 : kwS RX3 16 yX3_placeOf cX3_placeOf 4 (some .int) 3 := ⟨kw_201, kw_202, kw_31, kw_203, by decide +kernel⟩
theorem kv_X4_10 : kwS RX4 10 yJ9_min_7cf53 cJ9_min_7cf53 2 (some .int) 2 := ⟨kw_46, kw_47, kw_30, kw_48, by decide +kernel⟩
theorem kv_X4_110 : kwS RX4 110 yX4_isDay cX4_isDay 1 (some .boolean) 1 := ⟨kw_288, kw_289, kw_29, kw_290, by decide +kernel⟩
theorem kv_X4_115 : kwS RX4 115 yX4_isDepartment cX4_isDepartment 1 (some .boolean) 1 := ⟨kw_285, kw_286, kw_29, kw_287, by decide +kernel⟩
theorem kv_X4_118 : kwS RX4 118 yX4_isPiecesOrCents cX4_isPiecesOrCents 1 (some .boolean) 1 := ⟨kw_336, kw_337, kw_29, kw_338, by decide +kernel⟩
theorem kv_X4_121 : kwV RX4 121 RX0 yX0_piecesOf cX0_piecesOf 2 (some .int) 1 := ⟨kw_339, kw_340, kw_341, kw_34, kw_342, by decide +kernel⟩
theorem kv_X4_124 : kwV RX4 124 RX0 yX0_centsOf cX0_centsOf 2 (some .long) 1 := ⟨kw_343, kw_344, kw_345, kw_34, kw_346, by decide +kernel⟩
theorem kv_X4_127 : kwV RX4 127 RX0 yX0_piecesOn cX0_piecesOn 3 (some .int) 1 := ⟨kw_351, kw_352, kw_353, kw_34, kw_354, by decide +kernel⟩
theorem kv_X4_130 : kwV RX4 130 RX0 yX0_centsOn cX0_centsOn 3 (some .long) 1 := ⟨kw_355, kw_356, kw_357, kw_34, kw_358, by decide +kernel⟩
theorem kv_X4_133 : kwV RX4 133 RX4 yX4_isLocked cX4_isLocked 1 (some .boolean) 0 := ⟨kw_296, kw_298, kw_10, kw_29, kw_299, by decide +kernel⟩
theorem kv_X4_137 : kwV RX4 137 RX2 yX2_expectCut cX2_expectCut 3 none 2 := ⟨kw_375, kw_376, kw_377, kw_32, kw_378, by decide +kernel⟩
theorem kv_X4_141 : kwV RX4 141 RX2 yX2_restorePower cX2_restorePower 1 none 0 := ⟨kw_383, kw_384, kw_385, kw_32, kw_386, by decide +kernel⟩
theorem kv_X4_144 : kwV RX4 144 RX1 yX1_reopen cX1_reopen 3 none 0 := ⟨kw_387, kw_388, kw_389, kw_35, kw_390, by decide +kernel⟩
theorem kv_X4_147 : kwV RX4 147 RX1 yX1_lastNumber cX1_lastNumber 1 (some .int) 0 := ⟨kw_408, kw_409, kw_410, kw_35, kw_411, by decide +kernel⟩
theorem kv_X4_151 : kwV RX4 151 RX4 yX4_isUncertain cX4_isUncertain 1 (some .boolean) 0 := ⟨kw_300, kw_302, kw_11, kw_29, kw_303, by decide +kernel⟩
theorem kv_X4_154 : kwV RX4 154 RX2 yX2_holds cX2_holds 3 (some .boolean) 2 := ⟨kw_424, kw_126, kw_127, kw_32, kw_128, by decide +kernel⟩
theorem kv_X4_158 : kwV RX4 158 RX2 yX2_erasesOf cX2_erasesOf 2 (some .int) 1 := ⟨kw_425, kw_426, kw_427, kw_32, kw_428, by decide +kernel⟩
theorem kv_X4_16 : kwS RX4 16 yJ9_max_7cf53 cJ9_max_7cf53 2 (some .int) 2 := ⟨kw_49, kw_50, kw_30, kw_51, by decide +kernel⟩
theorem kv_X4_161 : kwV RX4 161 RX2 yX2_read cX2_read 3 (some .int) 2 := ⟨kw_433, kw_150, kw_151, kw_32, kw_152, by decide +kernel⟩
theorem kv_X4_164 : kwV RX4 164 RX0 yX0_registersAddUp cX0_registersAddUp 1 (some .boolean) 0 := ⟨kw_438, kw_439, kw_440, kw_34, kw_441, by decide +kernel⟩
theorem kv_X4_167 : kwV RX4 167 RX0 yX0_departmentsAddUp cX0_departmentsAddUp 6 (some .boolean) 0 := ⟨kw_442, kw_443, kw_444, kw_34, kw_445, by decide +kernel⟩
theorem kv_X4_170 : kwV RX4 170 RX2 yX2_wearSpread cX2_wearSpread 4 (some .int) 0 := ⟨kw_448, kw_449, kw_450, kw_32, kw_451, by decide +kernel⟩
theorem kv_X4_173 : kwV RX4 173 RX2 yX2_cutsSuffered cX2_cutsSuffered 1 (some .int) 0 := ⟨kw_455, kw_456, kw_457, kw_32, kw_458, by decide +kernel⟩
theorem kv_X4_54 : kwV RX4 54 RX3 yX3_draft cX3_draft 6 (some .boolean) 4 := ⟨kw_197, kw_198, kw_199, kw_31, kw_200, by decide +kernel⟩
theorem kv_X4_58 : kwV RX4 58 RX2 yX2_hasPower cX2_hasPower 1 (some .boolean) 0 := ⟨kw_208, kw_209, kw_210, kw_32, kw_211, by decide +kernel⟩
theorem kv_X4_62 : kwV RX4 62 RX0 yX0_at cX0_at 2 (some .int) 1 := ⟨kw_212, kw_142, kw_143, kw_34, kw_144, by decide +kernel⟩
theorem kv_X4_66 : kwV RX4 66 RX1 yX1_append cX1_append 6 (some .int) 3 := ⟨kw_213, kw_214, kw_215, kw_35, kw_216, by decide +kernel⟩
theorem kv_X4_70 : kwV RX4 70 RX3 yX3_useDrafts cX3_useDrafts 2 none 0 := ⟨kw_265, kw_266, kw_267, kw_31, kw_268, by decide +kernel⟩
theorem kv_X4_73 : kwV RX4 73 RX3 yX3_priceOf cX3_priceOf 5 (some .int) 3 := ⟨kw_273, kw_274, kw_275, kw_31, kw_276, by decide +kernel⟩
theorem kv_X4_76 : kwV RX4 76 RX4 yX4_mayFrank cX4_mayFrank 4 (some .boolean) 3 := ⟨kw_281, kw_283, kw_9, kw_29, kw_284, by decide +kernel⟩
theorem kv_X4_89 : kwS RX4 89 yX4_areCents cX4_areCents 1 (some .boolean) 1 := ⟨kw_292, kw_293, kw_29, kw_294, by decide +kernel⟩
theorem kv_X4_93 : kwV RX4 93 RX4 yX4_codeFor cX4_codeFor 5 (some .int) 2 := ⟨kw_313, kw_314, kw_315, kw_29, kw_316, by decide +kernel⟩
theorem kv_X4_96 : kwV RX4 96 RX0 yX0_sumAt cX0_sumAt 2 (some .long) 1 := ⟨kw_295, kw_242, kw_243, kw_34, kw_244, by decide +kernel⟩
theorem kv_X5_108 : kwS RX5 108 yX5_isRate cX5_isRate 3 (some .boolean) 3 := ⟨kw_542, kw_543, kw_36, kw_544, by decide +kernel⟩
theorem kv_X5_112 : kwS RX5 112 yX5_place cX5_place 3 (some .int) 3 := ⟨kw_552, kw_553, kw_36, kw_554, by decide +kernel⟩
theorem kv_X5_116 : kwV RX5 116 RX5 yX5_put cX5_put 7 (some .boolean) 3 := ⟨kw_559, kw_561, kw_20, kw_36, kw_562, by decide +kernel⟩
theorem kv_X5_123 : kwS RX5 123 yX5_isDay cX5_isDay 1 (some .boolean) 1 := ⟨kw_593, kw_594, kw_36, kw_595, by decide +kernel⟩
theorem kv_X5_128 : kwS RX5 128 yX5_isMoney cX5_isMoney 1 (some .boolean) 1 := ⟨kw_598, kw_599, kw_36, kw_600, by decide +kernel⟩
theorem kv_X5_148 : kwV RX5 148 RX5 yX5_code cX5_code 5 (some .int) 2 := ⟨kw_610, kw_612, kw_26, kw_36, kw_613, by decide +kernel⟩
theorem kv_X5_156 : kwV RX5 156 RX5 yX5_markOf cX5_markOf 5 (some .int) 2 := ⟨kw_660, kw_662, kw_27, kw_36, kw_663, by decide +kernel⟩
theorem kv_X5_43 : kwV RX5 43 RX5 yX5_begin cX5_begin 4 none 1 := ⟨kw_469, kw_471, kw_16, kw_36, kw_472, by decide +kernel⟩
theorem kv_X5_52 : kwS RX5 52 yX5_in cX5_in 6 (some .boolean) 3 := ⟨kw_546, kw_547, kw_36, kw_548, by decide +kernel⟩
theorem kv_X5_56 : kwV RX5 56 RX5 yX5_isDone cX5_isDone 1 (some .boolean) 0 := ⟨kw_477, kw_479, kw_18, kw_36, kw_480, by decide +kernel⟩
theorem kv_X5_64 : kwS RX5 64 yX5_marked cX5_marked 2 (some .int) 1 := ⟨kw_485, kw_486, kw_36, kw_487, by decide +kernel⟩
theorem kv_X5_68 : kwV RX5 68 RX5 yX5_erase cX5_erase 5 none 1 := ⟨kw_473, kw_475, kw_17, kw_36, kw_476, by decide +kernel⟩
theorem kv_X5_77 : kwV RX5 77 RX5 yX5_write cX5_write 3 none 2 := ⟨kw_481, kw_483, kw_19, kw_36, kw_484, by decide +kernel⟩
theorem kv_X5_81 : kwV RX5 81 RX5 yX5_isFree cX5_isFree 4 (some .boolean) 1 := ⟨kw_563, kw_565, kw_21, kw_36, kw_566, by decide +kernel⟩
theorem kv_X5_85 : kwV RX5 85 RX5 yX5_act cX5_act 4 none 3 := ⟨kw_567, kw_569, kw_22, kw_36, kw_570, by decide +kernel⟩
theorem kv_X5_91 : kwV RX5 91 RX5 yX5_sum cX5_sum 2 (some .long) 1 := ⟨kw_579, kw_581, kw_25, kw_36, kw_582, by decide +kernel⟩
theorem kv_X5_95 : kwV RX5 95 RX5 yX5_piece cX5_piece 6 none 3 := ⟨kw_571, kw_573, kw_23, kw_36, kw_574, by decide +kernel⟩
theorem kv_X5_98 : kwV RX5 98 RX5 yX5_more cX5_more 6 none 2 := ⟨kw_575, kw_577, kw_24, kw_36, kw_578, by decide +kernel⟩
theorem k_inX0 : ∀ w ∈ u_ws RX0 TX0 1, w ∈ kG := by decide +kernel
theorem k_inX1 : ∀ w ∈ u_ws RX1 TX1 5, w ∈ kG := by decide +kernel
theorem k_inX2 : ∀ w ∈ u_ws RX2 TX2 7, w ∈ kG := by decide +kernel
theorem k_inX3 : ∀ w ∈ u_ws RX3 TX3 2, w ∈ kG := by decide +kernel
theorem k_inX4 : ∀ w ∈ u_ws RX4 TX4 7, w ∈ kG := by decide +kernel
theorem k_inX5 : ∀ w ∈ u_ws RX5 TX5 16, w ∈ kG := by decide +kernel
abbrev wB (aB ab : Nat) (cA : ClassId) (bw : Nat → Int32) : va_W := [(aB, .inr (0, [.ref ab])), (ab, .inl (cA, 191, .inl bw))]
abbrev wM (aM aw ae : Nat) (cA : ClassId) (pw : Int32) (ce : Int32) (lf : Int32) (mq : Int32) (ct : Int32) (wd : Nat → Int32) (er : Nat → Int32) : va_W := [(aM, .inr (2, [.ref aw, .ref ae, .int pw, .int ce, .int lf, .int mq, .int ct])), (aw, .inl (cA, 4096, .inl wd)), (ae, .inl (cA, 16, .inl er))]
abbrev wT (aT ad af : Nat) (cA : ClassId) (dr : Nat → Int32) (tb : Nat → Int32) : va_W := [(aT, .inr (3, [.ref ad, .ref af])), (ad, .inl (cA, 320, .inl dr)), (af, .inl (cA, 320, .inl tb))]
abbrev wJ (aJ aM aw ae aB ab : Nat) (cA : ClassId) (sc : Int32) (rc : Int32) (la : Int32) (pw : Int32) (ce : Int32) (lf : Int32) (mq : Int32) (ct : Int32) (wd : Nat → Int32) (er : Nat → Int32) (bw : Nat → Int32) : va_W := [(aJ, .inr (1, [.ref aM, .ref aB, .int sc, .int rc, .int la])), (aM, .inr (2, [.ref aw, .ref ae, .int pw, .int ce, .int lf, .int mq, .int ct])), (aw, .inl (cA, 4096, .inl wd)), (ae, .inl (cA, 16, .inl er)), (aB, .inr (0, [.ref ab])), (ab, .inl (cA, 191, .inl bw))]
abbrev wD (aD aT ad af aJ aM aw ae aB ab : Nat) (cA : ClassId) (mn : Int32) (po : Int64) (co : Int64) (dr : Nat → Int32) (tb : Nat → Int32) (sc : Int32) (rc : Int32) (la : Int32) (pw : Int32) (ce : Int32) (lf : Int32) (mq : Int32) (ct : Int32) (wd : Nat → Int32) (er : Nat → Int32) (bw : Nat → Int32) : va_W := [(aD, .inr (4, [.int mn, .ref aT, .ref aM, .ref aB, .ref aJ, .long po, .long co])), (aT, .inr (3, [.ref ad, .ref af])), (ad, .inl (cA, 320, .inl dr)), (af, .inl (cA, 320, .inl tb)), (aJ, .inr (1, [.ref aM, .ref aB, .int sc, .int rc, .int la])), (aM, .inr (2, [.ref aw, .ref ae, .int pw, .int ce, .int lf, .int mq, .int ct])), (aw, .inl (cA, 4096, .inl wd)), (ae, .inl (cA, 16, .inl er)), (aB, .inr (0, [.ref ab])), (ab, .inl (cA, 191, .inl bw))]
abbrev wK (kO km kw kb kr kd kt : Nat) (cA : ClassId) (kth : Int32) (kmn : Int32) (kpw : Int32) (klf : Int32) (kmk : Int32) (ksc : Int32) (krc : Int32) (kno : Int32) (kpp : Int32) (kpc : Int64) (kme : Nat → Int32) (kwe : Nat → Int32) (kbo : Nat → Int32) (kre : Nat → Int32) (kdr : Nat → Int32) (ktb : Nat → Int32) : va_W := [(kO, .inr (5, [.int kth, .int kmn, .ref km, .ref kw, .ref kb, .ref kr, .ref kd, .ref kt, .int kpw, .int klf, .int kmk, .int ksc, .int krc, .int kno, .int kpp, .long kpc])), (km, .inl (cA, 4096, .inl kme)), (kw, .inl (cA, 16, .inl kwe)), (kb, .inl (cA, 193, .inl kbo)), (kr, .inl (cA, 5, .inl kre)), (kd, .inl (cA, 320, .inl kdr)), (kt, .inl (cA, 320, .inl ktb))]
end
section
/-! small rules for loops that count -/
theorem k_step {x NI : Int32} {N k n : Nat} (hN : NI = nI N) (hs : N < 2 ^ 31) (hk : x = nI k) (hk1 : k ≤ N) (hk2 : N < k + (n + 1)) (c : ¬ NI ≤ x) : ∃ k' : Nat, x + 1 = nI k' ∧ k' ≤ N ∧ N < k' + n := by
  subst hk; subst hN
  have h : k < N := by
    rcases Nat.lt_or_ge k N with q | q
    · exact q
    · exact absurd (nI_le q (by omega)) c
  exact ⟨k + 1, nI_1 k, by omega, by omega⟩
theorem k_lt {x NI : Int32} {N k : Nat} (hN : NI = nI N) (hk : x = nI k) (hk1 : k ≤ N) (hs : N < 2 ^ 31) (c : ¬ NI ≤ x) : k < N := by
  subst hk; subst hN
  rcases Nat.lt_or_ge k N with q | q
  · exact q
  · exact absurd (nI_le q (by omega)) c
end
section
def spX0_at (bw : Nat → Int32) (p1 : Int32) : Int32 := (if p1 < 0 then (0 : Int32) else (if (191 : Int32) ≤ p1 then (0 : Int32) else (bw (Int32.toNatClampNeg p1))))
set_option maxHeartbeats 4000000 in
set_option maxRecDepth 100000 in
theorem c_X0_at (l : Launch) (D : va_G) (aB ab : Nat) (cA : ClassId) (bw : Nat → Int32) (p1 : Int32)  : kRi l yX0_at cX0_at 2 (some .int) { frames := 0, cells := 0, slots := 0, locals := 0 } [.ref aB, .int p1] (kB D (wB aB ab cA bw) [(cA, .int)]) (spX0_at bw p1) := by
  refine Met.ofW (cc := cX0_at) (maxL := 2) (ret := (some .int)) (by decide) rfl ?_
  intro p e s m args below meth c s₁ B hml hv
  obtain ⟨rfl, hP, hK⟩ := hv
  have hx := B.exec
  have hb := B.bytes
  have hr := B.returns
  have hts : ∀ w ∈ kG, w.before _ s = true := fun w h => atoms_spec (ws := kT yX0_at cX0_at 2 (some .int)) B.pre w (List.mem_cons_of_mem _ h)
  have hown : s.vm.findClass RX0 = some m.cls := findClass_of_methodNamed B.named
  have hlocks := B.notSynchronized
  have hl := lv_entry ([.ref aB, .int p1]) (n := 2) (Nat.le_of_ble_eq_true rfl)
  rw [lg_entry_eq]
  generalize (lg_sl ([.ref aB, .int p1]) ++ List.replicate (2 - (lg_sl ([.ref aB, .int p1])).length) Slot.unset).toArray = ls at hl ⊢
  have hl : lv_has ls 2 [(0, .ref aB), (1, .int p1)] := hl
  refine lv_iload_n hx hb dX0_at_0 rfl (lv_at hl 1 rfl) ?_
  refine lv_if_lt (tgt := 22) hx hb dX0_at_1 (by decide) (fun c_1 => ?_) (fun c_1 => ?_)
  · refine lv_iconst (v := 0) hx hb dX0_at_22 (by decide) ?_
    exact W.iret (v := (0 : Int32)) hx hb hr (fun t ht hW => ⟨(0 : Int32), rfl, (show _ = _ from (by unfold spX0_at; rw [if_pos c_1] : spX0_at bw p1 = (0 : Int32)).symm), ht⟩) (fun q h => by cases h) dX0_at_23
  · refine lv_iload_n hx hb dX0_at_4 rfl (lv_at hl 1 rfl) ?_
    refine lv_aload_n hx hb dX0_at_5 rfl (lv_at hl 0 rfl) ?_
    refine va_get (D := D) (ci := 0) (v := .ref ab) (C := RX0) (T := TX0) (N := 1) hx hb hts k_inX0 hown hK hP 0 rfl rfl 0 (by decide) (hts _ kw_107) (fun _ h9 => h9) rfl dX0_at_6 ?_
    refine va_alen (v := (191 : Int32)) hx hb hK hP 1 0 rfl rfl rfl dX0_at_9 ?_
    refine lv_icmp_ge (tgt := 22) hx hb dX0_at_10 (by decide) (fun c_10 => ?_) (fun c_10 => ?_)
    · refine lv_iconst (v := 0) hx hb dX0_at_22 (by decide) ?_
      exact W.iret (v := (0 : Int32)) hx hb hr (fun t ht hW => ⟨(0 : Int32), rfl, (show _ = _ from (by unfold spX0_at; rw [if_neg c_1, if_pos c_10] : spX0_at bw p1 = (0 : Int32)).symm), ht⟩) (fun q h => by cases h) dX0_at_23
    · refine lv_aload_n hx hb dX0_at_13 rfl (lv_at hl 0 rfl) ?_
      refine va_get (D := D) (ci := 0) (v := .ref ab) (C := RX0) (T := TX0) (N := 1) hx hb hts k_inX0 hown hK hP 0 rfl rfl 0 (by decide) (hts _ kw_107) (fun _ h9 => h9) rfl dX0_at_14 ?_
      refine lv_iload_n hx hb dX0_at_17 rfl (lv_at hl 1 rfl) ?_
      refine va_iald hx hb hK hP 1 0 rfl rfl (k_inr (N := 191) rfl c_1 c_10) dX0_at_18 ?_
      refine lv_goto (tgt := 23) hx hb dX0_at_19 (by decide) ?_
      exact W.iret (v := (bw (Int32.toNatClampNeg p1))) hx hb hr (fun t ht hW => ⟨(bw (Int32.toNatClampNeg p1)), rfl, (show _ = _ from (by unfold spX0_at; rw [if_neg c_1, if_neg c_10] : spX0_at bw p1 = (bw (Int32.toNatClampNeg p1))).symm), ht⟩) (fun q h => by cases h) dX0_at_23
def spX0_put (bw : Nat → Int32) (p1 : Int32) (p2 : Int32) : (Nat → Int32) := (if p1 < 0 then bw else (if (191 : Int32) ≤ p1 then bw else (upd bw (Int32.toNatClampNeg p1) p2)))
set_option maxHeartbeats 4000000 in
set_option maxRecDepth 100000 in
theorem c_X0_put (l : Launch) (D : va_G) (aB ab : Nat) (cA : ClassId) (bw : Nat → Int32) (p1 : Int32) (p2 : Int32)  : kWv l yX0_put cX0_put 3 none { frames := 0, cells := 0, slots := 0, locals := 0 } D [(cA, .int)] [.ref aB, .int p1, .int p2] (wB aB ab cA bw) (wB aB ab cA (spX0_put bw p1 p2)) := by
  intro sz
  refine Met.ofW (cc := cX0_put) (maxL := 3) (ret := none) (by decide) rfl ?_
  intro p e s m args below meth c s₁ B hml hv
  obtain ⟨rfl, hsz, hP, hK, hD0⟩ := hv
  have hx := B.exec
  have hb := B.bytes
  have hr := B.returns
  have hts : ∀ w ∈ kG, w.before _ s = true := fun w h => atoms_spec (ws := kT yX0_put cX0_put 3 none) B.pre w (List.mem_cons_of_mem _ h)
  have hown : s.vm.findClass RX0 = some m.cls := findClass_of_methodNamed B.named
  have hlocks := B.notSynchronized
  subst hsz
  have hD := hD0.self (sz := s.heap.size)
  generalize hAe : va_A (wB aB ab cA bw) s.heap.size = A at hD ⊢
  have hA : ∀ q : Nat, s.heap.size ≤ q → A q := fun q h => by rw [← hAe]; exact Or.inr h
  have hS : va_S A s.heap s.heap [] := va_S.rf
  have hl := lv_entry ([.ref aB, .int p1, .int p2]) (n := 3) (Nat.le_of_ble_eq_true rfl)
  rw [lg_entry_eq]
  generalize (lg_sl ([.ref aB, .int p1, .int p2]) ++ List.replicate (3 - (lg_sl ([.ref aB, .int p1, .int p2])).length) Slot.unset).toArray = ls at hl ⊢
  have hl : lv_has ls 3 [(0, .ref aB), (1, .int p1), (2, .int p2)] := hl
  refine lv_iload_n hx hb dX0_put_0 rfl (lv_at hl 1 rfl) ?_
  refine lv_if_lt (tgt := 20) hx hb dX0_put_1 (by decide) (fun c_1 => ?_) (fun c_1 => ?_)
  · have hE : spX0_put bw p1 p2 = bw := by unfold spX0_put; rw [if_pos c_1]
    exact W.vret hx hb hr (fun t ht hW => ⟨⟨(), rfl, trivial, by rw [hE, ht]; exact hP, va_K.moved hW.alike hK, by rw [hE]; exact hD⟩, hS.F ht⟩) hS.2.2 dX0_put_20
  · refine lv_iload_n hx hb dX0_put_4 rfl (lv_at hl 1 rfl) ?_
    refine lv_aload_n hx hb dX0_put_5 rfl (lv_at hl 0 rfl) ?_
    refine va_get (D := D) (ci := 0) (v := .ref ab) (C := RX0) (T := TX0) (N := 1) hx hb hts k_inX0 hown hK hP 0 rfl rfl 0 (by decide) (hts _ kw_107) (fun _ h9 => h9) rfl dX0_put_6 ?_
    refine va_alen (v := (191 : Int32)) hx hb hK hP 1 0 rfl rfl rfl dX0_put_9 ?_
    refine lv_icmp_ge (tgt := 20) hx hb dX0_put_10 (by decide) (fun c_10 => ?_) (fun c_10 => ?_)
    · have hE : spX0_put bw p1 p2 = bw := by unfold spX0_put; rw [if_neg c_1, if_pos c_10]
      exact W.vret hx hb hr (fun t ht hW => ⟨⟨(), rfl, trivial, by rw [hE, ht]; exact hP, va_K.moved hW.alike hK, by rw [hE]; exact hD⟩, hS.F ht⟩) hS.2.2 dX0_put_20
    · refine lv_aload_n hx hb dX0_put_13 rfl (lv_at hl 0 rfl) ?_
      refine va_get (D := D) (ci := 0) (v := .ref ab) (C := RX0) (T := TX0) (N := 1) hx hb hts k_inX0 hown hK hP 0 rfl rfl 0 (by decide) (hts _ kw_107) (fun _ h9 => h9) rfl dX0_put_14 ?_
      refine lv_iload_n hx hb dX0_put_17 rfl (lv_at hl 1 rfl) ?_
      refine lv_iload_n hx hb dX0_put_18 rfl (lv_at hl 2 rfl) ?_
      refine va_iast hx hb hK hP hD hS 1 0 rfl rfl (k_inr (N := 191) rfl c_1 c_10) dX0_put_19 (fun H locs hP hD hS => ?_)
      have hP : va_P D vwCl (wB aB ab cA (upd bw (Int32.toNatClampNeg p1) p2)) H := hP
      have hD : va_D A (wB aB ab cA (upd bw (Int32.toNatClampNeg p1) p2)) := hD
      have hE : spX0_put bw p1 p2 = (upd bw (Int32.toNatClampNeg p1) p2) := by unfold spX0_put; rw [if_neg c_1, if_neg c_10]
      exact W.vret hx hb hr (fun t ht hW => ⟨⟨(), rfl, trivial, by rw [hE, ht]; exact hP, va_K.moved hW.alike hK, by rw [hE]; exact hD⟩, hS.F ht⟩) hS.2.2 dX0_put_20
def spX0_sumAt (bw : Nat → Int32) (p1 : Int32) : Int64 := (((Int32.toInt64 (spX0_at bw (p1 + (1 : Int32)))) <<< (Int32.toInt64 (32 : Int32) &&& 63)) ||| ((Int32.toInt64 (spX0_at bw p1)) &&& (4294967295 : Int64)))
set_option maxHeartbeats 4000000 in
set_option maxRecDepth 100000 in
theorem c_X0_sumAt (l : Launch) (D : va_G) (aB ab : Nat) (cA : ClassId) (bw : Nat → Int32) (p1 : Int32)  : kRl l yX0_sumAt cX0_sumAt 2 (some .long) { frames := 1, cells := 0, slots := 0, locals := 21 } [.ref aB, .int p1] (kB D (wB aB ab cA bw) [(cA, .int)]) (spX0_sumAt bw p1) := by
  refine Met.ofW (cc := cX0_sumAt) (maxL := 2) (ret := (some .long)) (by decide) rfl ?_
  intro p e s m args below meth c s₁ B hml hv
  obtain ⟨rfl, hP, hK⟩ := hv
  have hx := B.exec
  have hb := B.bytes
  have hr := B.returns
  have hts : ∀ w ∈ kG, w.before _ s = true := fun w h => atoms_spec (ws := kT yX0_sumAt cX0_sumAt 2 (some .long)) B.pre w (List.mem_cons_of_mem _ h)
  have hown : s.vm.findClass RX0 = some m.cls := findClass_of_methodNamed B.named
  have hlocks := B.notSynchronized
  have hl := lv_entry ([.ref aB, .int p1]) (n := 2) (Nat.le_of_ble_eq_true rfl)
  rw [lg_entry_eq]
  generalize (lg_sl ([.ref aB, .int p1]) ++ List.replicate (2 - (lg_sl ([.ref aB, .int p1])).length) Slot.unset).toArray = ls at hl ⊢
  have hl : lv_has ls 2 [(0, .ref aB), (1, .int p1)] := hl
  refine lv_aload_n hx hb dX0_sumAt_0 rfl (lv_at hl 0 rfl) ?_
  refine lv_iload_n hx hb dX0_sumAt_1 rfl (lv_at hl 1 rfl) ?_
  refine lv_iconst (v := 1) hx hb dX0_sumAt_2 (by decide) ?_
  refine lv_iadd hx hb dX0_sumAt_3 ?_
  refine k_rdVi (As := [.int (p1 + (1 : Int32))]) (rest := []) (ci := 0) (q0 := 0) ⟨hx, hb, hml, hown, hts⟩ k_self (c_X0_at l D aB ab cA bw (p1 + (1 : Int32))) kv_X0_17 (hP.sub [0, 1] rfl) (hK.sub [0] rfl) rfl rfl rfl rfl ⟨Nat.le_of_ble_eq_true rfl, Nat.le_of_ble_eq_true rfl⟩ rfl hl.1 rfl (Nat.le_of_ble_eq_true rfl) dX0_sumAt_4 ⟨Nat.zero_le _, Nat.zero_le _⟩ ?_
  refine lv_i2l (v := (Int32.toInt64 (spX0_at bw (p1 + (1 : Int32))))) hx hb dX0_sumAt_7 rfl ?_
  refine lv_bipush (v := 32) hx hb dX0_sumAt_8 (by decide) ?_
  refine lv_lshl (v := ((Int32.toInt64 (spX0_at bw (p1 + (1 : Int32)))) <<< (Int32.toInt64 (32 : Int32) &&& 63))) hx hb dX0_sumAt_10 rfl ?_
  refine lv_aload_n hx hb dX0_sumAt_11 rfl (lv_at hl 0 rfl) ?_
  refine lv_iload_n hx hb dX0_sumAt_12 rfl (lv_at hl 1 rfl) ?_
  refine k_rdVi (As := [.int p1]) (rest := [.long ((Int32.toInt64 (spX0_at bw (p1 + (1 : Int32)))) <<< (Int32.toInt64 (32 : Int32) &&& 63))]) (ci := 0) (q0 := 0) ⟨hx, hb, hml, hown, hts⟩ k_self (c_X0_at l D aB ab cA bw p1) kv_X0_17 (hP.sub [0, 1] rfl) (hK.sub [0] rfl) rfl rfl rfl rfl ⟨Nat.le_of_ble_eq_true rfl, Nat.le_of_ble_eq_true rfl⟩ rfl hl.1 rfl (Nat.le_of_ble_eq_true rfl) dX0_sumAt_13 ⟨Nat.zero_le _, Nat.zero_le _⟩ ?_
  refine lv_i2l (v := (Int32.toInt64 (spX0_at bw p1))) hx hb dX0_sumAt_16 rfl ?_
  refine lv_ldc2 (v := 4294967295) hx hb hown (hts _ kw_246) dX0_sumAt_17 ?_
  refine lv_land hx hb dX0_sumAt_20 ?_
  refine lv_lor hx hb dX0_sumAt_21 ?_
  exact W.lret (v := (((Int32.toInt64 (spX0_at bw (p1 + (1 : Int32)))) <<< (Int32.toInt64 (32 : Int32) &&& 63)) ||| ((Int32.toInt64 (spX0_at bw p1)) &&& (4294967295 : Int64)))) hx hb hr (fun t ht hW => ⟨(((Int32.toInt64 (spX0_at bw (p1 + (1 : Int32)))) <<< (Int32.toInt64 (32 : Int32) &&& 63)) ||| ((Int32.toInt64 (spX0_at bw p1)) &&& (4294967295 : Int64))), rfl, (show _ = _ from (by unfold spX0_sumAt; rfl : spX0_sumAt bw p1 = (((Int32.toInt64 (spX0_at bw (p1 + (1 : Int32)))) <<< (Int32.toInt64 (32 : Int32) &&& 63)) ||| ((Int32.toInt64 (spX0_at bw p1)) &&& (4294967295 : Int64)))).symm), ht⟩) (fun q h => by cases h) dX0_sumAt_22
def spX0_departmentAt (p1 : Int32) : Int32 := ((15 : Int32) + (p1 * (3 : Int32)))
set_option maxHeartbeats 4000000 in
set_option maxRecDepth 100000 in
theorem c_X0_departmentAt (l : Launch) (p1 : Int32) : kRi l yX0_departmentAt cX0_departmentAt 1 (some .int) { frames := 0, cells := 0, slots := 0, locals := 0 } [.int p1] (fun _ => True) (spX0_departmentAt p1) := by
  refine Met.ofW (cc := cX0_departmentAt) (maxL := 1) (ret := (some .int)) (by decide) rfl ?_
  intro p e s m args below meth c s₁ B hml hv
  obtain ⟨rfl, -⟩ := hv
  have hx := B.exec
  have hb := B.bytes
  have hr := B.returns
  have hts : ∀ w ∈ kG, w.before _ s = true := fun w h => atoms_spec (ws := kT yX0_departmentAt cX0_departmentAt 1 (some .int)) B.pre w (List.mem_cons_of_mem _ h)
  have hown : s.vm.findClass RX0 = some m.cls := findClass_of_methodNamed B.named
  have hlocks := B.notSynchronized
  have hl := lv_entry ([.int p1]) (n := 1) (Nat.le_of_ble_eq_true rfl)
  rw [lg_entry_eq]
  generalize (lg_sl ([.int p1]) ++ List.replicate (1 - (lg_sl ([.int p1])).length) Slot.unset).toArray = ls at hl ⊢
  have hl : lv_has ls 1 [(0, .int p1)] := hl
  refine lv_bipush (v := 15) hx hb dX0_departmentAt_0 (by decide) ?_
  refine lv_iload_n hx hb dX0_departmentAt_2 rfl (lv_at hl 0 rfl) ?_
  refine lv_iconst (v := 3) hx hb dX0_departmentAt_3 (by decide) ?_
  refine lv_imul hx hb dX0_departmentAt_4 ?_
  refine lv_iadd hx hb dX0_departmentAt_5 ?_
  exact W.iret (v := ((15 : Int32) + (p1 * (3 : Int32)))) hx hb hr (fun t ht hW => ⟨((15 : Int32) + (p1 * (3 : Int32))), rfl, (show _ = _ from (by unfold spX0_departmentAt; rfl : spX0_departmentAt p1 = ((15 : Int32) + (p1 * (3 : Int32)))).symm), ht⟩) (fun q h => by cases h) dX0_departmentAt_6
def spX0_placeOfDay (p1 : Int32) : Int32 := ((63 : Int32) + ((p1 - p1 / (32 : Int32) * (32 : Int32)) * (4 : Int32)))
set_option maxHeartbeats 4000000 in
set_option maxRecDepth 100000 in
theorem c_X0_placeOfDay (l : Launch) (p1 : Int32) : kRi l yX0_placeOfDay cX0_placeOfDay 1 (some .int) { frames := 0, cells := 0, slots := 0, locals := 0 } [.int p1] (fun _ => True) (spX0_placeOfDay p1) := by
  refine Met.ofW (cc := cX0_placeOfDay) (maxL := 1) (ret := (some .int)) (by decide) rfl ?_
  intro p e s m args below meth c s₁ B hml hv
  obtain ⟨rfl, -⟩ := hv
  have hx := B.exec
  have hb := B.bytes
  have hr := B.returns
  have hts : ∀ w ∈ kG, w.before _ s = true := fun w h => atoms_spec (ws := kT yX0_placeOfDay cX0_placeOfDay 1 (some .int)) B.pre w (List.mem_cons_of_mem _ h)
  have hown : s.vm.findClass RX0 = some m.cls := findClass_of_methodNamed B.named
  have hlocks := B.notSynchronized
  have hl := lv_entry ([.int p1]) (n := 1) (Nat.le_of_ble_eq_true rfl)
  rw [lg_entry_eq]
  generalize (lg_sl ([.int p1]) ++ List.replicate (1 - (lg_sl ([.int p1])).length) Slot.unset).toArray = ls at hl ⊢
  have hl : lv_has ls 1 [(0, .int p1)] := hl
  refine lv_bipush (v := 63) hx hb dX0_placeOfDay_0 (by decide) ?_
  refine lv_iload_n hx hb dX0_placeOfDay_2 rfl (lv_at hl 0 rfl) ?_
  refine lv_bipush (v := 32) hx hb dX0_placeOfDay_3 (by decide) ?_
  refine lv_irem hx hb dX0_placeOfDay_5 (by decide) ?_
  refine lv_iconst (v := 4) hx hb dX0_placeOfDay_6 (by decide) ?_
  refine lv_imul hx hb dX0_placeOfDay_7 ?_
  refine lv_iadd hx hb dX0_placeOfDay_8 ?_
  exact W.iret (v := ((63 : Int32) + ((p1 - p1 / (32 : Int32) * (32 : Int32)) * (4 : Int32)))) hx hb hr (fun t ht hW => ⟨((63 : Int32) + ((p1 - p1 / (32 : Int32) * (32 : Int32)) * (4 : Int32))), rfl, (show _ = _ from (by unfold spX0_placeOfDay; rfl : spX0_placeOfDay p1 = ((63 : Int32) + ((p1 - p1 / (32 : Int32) * (32 : Int32)) * (4 : Int32)))).symm), ht⟩) (fun q h => by cases h) dX0_placeOfDay_9
def spX0_piecesOf (bw : Nat → Int32) (p1 : Int32) : Int32 := (spX0_at bw (spX0_departmentAt p1))
set_option maxHeartbeats 4000000 in
set_option maxRecDepth 100000 in
theorem c_X0_piecesOf (l : Launch) (D : va_G) (aB ab : Nat) (cA : ClassId) (bw : Nat → Int32) (p1 : Int32)  : kRi l yX0_piecesOf cX0_piecesOf 2 (some .int) { frames := 1, cells := 0, slots := 0, locals := 21 } [.ref aB, .int p1] (kB D (wB aB ab cA bw) [(cA, .int)]) (spX0_piecesOf bw p1) := by
  refine Met.ofW (cc := cX0_piecesOf) (maxL := 2) (ret := (some .int)) (by decide) rfl ?_
  intro p e s m args below meth c s₁ B hml hv
  obtain ⟨rfl, hP, hK⟩ := hv
  have hx := B.exec
  have hb := B.bytes
  have hr := B.returns
  have hts : ∀ w ∈ kG, w.before _ s = true := fun w h => atoms_spec (ws := kT yX0_piecesOf cX0_piecesOf 2 (some .int)) B.pre w (List.mem_cons_of_mem _ h)
  have hown : s.vm.findClass RX0 = some m.cls := findClass_of_methodNamed B.named
  have hlocks := B.notSynchronized
  have hl := lv_entry ([.ref aB, .int p1]) (n := 2) (Nat.le_of_ble_eq_true rfl)
  rw [lg_entry_eq]
  generalize (lg_sl ([.ref aB, .int p1]) ++ List.replicate (2 - (lg_sl ([.ref aB, .int p1])).length) Slot.unset).toArray = ls at hl ⊢
  have hl : lv_has ls 2 [(0, .ref aB), (1, .int p1)] := hl
  refine lv_aload_n hx hb dX0_piecesOf_0 rfl (lv_at hl 0 rfl) ?_
  refine lv_iload_n hx hb dX0_piecesOf_1 rfl (lv_at hl 1 rfl) ?_
  refine k_rdSi (As := [.int p1]) (rest := [.ref aB]) ⟨hx, hb, hml, hown, hts⟩ k_self (c_X0_departmentAt l p1) kv_X0_23 rfl rfl ⟨Nat.le_of_ble_eq_true rfl, Nat.le_of_ble_eq_true rfl⟩ rfl hl.1 rfl (Nat.le_of_ble_eq_true rfl) dX0_piecesOf_2 ⟨Nat.zero_le _, Nat.zero_le _⟩ ?_
  refine k_rdVi (As := [.int (spX0_departmentAt p1)]) (rest := []) (ci := 0) (q0 := 0) ⟨hx, hb, hml, hown, hts⟩ k_self (c_X0_at l D aB ab cA bw (spX0_departmentAt p1)) kv_X0_17 (hP.sub [0, 1] rfl) (hK.sub [0] rfl) rfl rfl rfl rfl ⟨Nat.le_of_ble_eq_true rfl, Nat.le_of_ble_eq_true rfl⟩ rfl hl.1 rfl (Nat.le_of_ble_eq_true rfl) dX0_piecesOf_5 ⟨Nat.zero_le _, Nat.zero_le _⟩ ?_
  exact W.iret (v := (spX0_at bw (spX0_departmentAt p1))) hx hb hr (fun t ht hW => ⟨(spX0_at bw (spX0_departmentAt p1)), rfl, (show _ = _ from (by unfold spX0_piecesOf; rfl : spX0_piecesOf bw p1 = (spX0_at bw (spX0_departmentAt p1))).symm), ht⟩) (fun q h => by cases h) dX0_piecesOf_8
def spX0_centsOf (bw : Nat → Int32) (p1 : Int32) : Int64 := (spX0_sumAt bw ((spX0_departmentAt p1) + (1 : Int32)))
set_option maxHeartbeats 4000000 in
set_option maxRecDepth 100000 in
theorem c_X0_centsOf (l : Launch) (D : va_G) (aB ab : Nat) (cA : ClassId) (bw : Nat → Int32) (p1 : Int32)  : kRl l yX0_centsOf cX0_centsOf 2 (some .long) { frames := 2, cells := 0, slots := 0, locals := 42 } [.ref aB, .int p1] (kB D (wB aB ab cA bw) [(cA, .int)]) (spX0_centsOf bw p1) := by
  refine Met.ofW (cc := cX0_centsOf) (maxL := 2) (ret := (some .long)) (by decide) rfl ?_
  intro p e s m args below meth c s₁ B hml hv
  obtain ⟨rfl, hP, hK⟩ := hv
  have hx := B.exec
  have hb := B.bytes
  have hr := B.returns
  have hts : ∀ w ∈ kG, w.before _ s = true := fun w h => atoms_spec (ws := kT yX0_centsOf cX0_centsOf 2 (some .long)) B.pre w (List.mem_cons_of_mem _ h)
  have hown : s.vm.findClass RX0 = some m.cls := findClass_of_methodNamed B.named
  have hlocks := B.notSynchronized
  have hl := lv_entry ([.ref aB, .int p1]) (n := 2) (Nat.le_of_ble_eq_true rfl)
  rw [lg_entry_eq]
  generalize (lg_sl ([.ref aB, .int p1]) ++ List.replicate (2 - (lg_sl ([.ref aB, .int p1])).length) Slot.unset).toArray = ls at hl ⊢
  have hl : lv_has ls 2 [(0, .ref aB), (1, .int p1)] := hl
  refine lv_aload_n hx hb dX0_centsOf_0 rfl (lv_at hl 0 rfl) ?_
  refine lv_iload_n hx hb dX0_centsOf_1 rfl (lv_at hl 1 rfl) ?_
  refine k_rdSi (As := [.int p1]) (rest := [.ref aB]) ⟨hx, hb, hml, hown, hts⟩ k_self (c_X0_departmentAt l p1) kv_X0_23 rfl rfl ⟨Nat.le_of_ble_eq_true rfl, Nat.le_of_ble_eq_true rfl⟩ rfl hl.1 rfl (Nat.le_of_ble_eq_true rfl) dX0_centsOf_2 ⟨Nat.zero_le _, Nat.zero_le _⟩ ?_
  refine lv_iconst (v := 1) hx hb dX0_centsOf_5 (by decide) ?_
  refine lv_iadd hx hb dX0_centsOf_6 ?_
  refine k_rdVl (As := [.int ((spX0_departmentAt p1) + (1 : Int32))]) (rest := []) (ci := 0) (q0 := 0) ⟨hx, hb, hml, hown, hts⟩ k_self (c_X0_sumAt l D aB ab cA bw ((spX0_departmentAt p1) + (1 : Int32))) kv_X0_26 (hP.sub [0, 1] rfl) (hK.sub [0] rfl) rfl rfl rfl rfl ⟨Nat.le_of_ble_eq_true rfl, Nat.le_of_ble_eq_true rfl⟩ rfl hl.1 rfl (Nat.le_of_ble_eq_true rfl) dX0_centsOf_7 ⟨Nat.zero_le _, Nat.zero_le _⟩ ?_
  exact W.lret (v := (spX0_sumAt bw ((spX0_departmentAt p1) + (1 : Int32)))) hx hb hr (fun t ht hW => ⟨(spX0_sumAt bw ((spX0_departmentAt p1) + (1 : Int32))), rfl, (show _ = _ from (by unfold spX0_centsOf; rfl : spX0_centsOf bw p1 = (spX0_sumAt bw ((spX0_departmentAt p1) + (1 : Int32)))).symm), ht⟩) (fun q h => by cases h) dX0_centsOf_10
def spX0_piecesOn (bw : Nat → Int32) (p1 : Int32) : Int32 := (if (spX0_at bw (spX0_placeOfDay p1)) = p1 then (spX0_at bw ((spX0_placeOfDay p1) + (1 : Int32))) else (0 : Int32))
set_option maxHeartbeats 4000000 in
set_option maxRecDepth 100000 in
theorem c_X0_piecesOn (l : Launch) (D : va_G) (aB ab : Nat) (cA : ClassId) (bw : Nat → Int32) (p1 : Int32)  : kRi l yX0_piecesOn cX0_piecesOn 3 (some .int) { frames := 1, cells := 0, slots := 0, locals := 21 } [.ref aB, .int p1] (kB D (wB aB ab cA bw) [(cA, .int)]) (spX0_piecesOn bw p1) := by
  refine Met.ofW (cc := cX0_piecesOn) (maxL := 3) (ret := (some .int)) (by decide) rfl ?_
  intro p e s m args below meth c s₁ B hml hv
  obtain ⟨rfl, hP, hK⟩ := hv
  have hx := B.exec
  have hb := B.bytes
  have hr := B.returns
  have hts : ∀ w ∈ kG, w.before _ s = true := fun w h => atoms_spec (ws := kT yX0_piecesOn cX0_piecesOn 3 (some .int)) B.pre w (List.mem_cons_of_mem _ h)
  have hown : s.vm.findClass RX0 = some m.cls := findClass_of_methodNamed B.named
  have hlocks := B.notSynchronized
  have hl := lv_entry ([.ref aB, .int p1]) (n := 3) (Nat.le_of_ble_eq_true rfl)
  rw [lg_entry_eq]
  generalize (lg_sl ([.ref aB, .int p1]) ++ List.replicate (3 - (lg_sl ([.ref aB, .int p1])).length) Slot.unset).toArray = ls at hl ⊢
  have hl : lv_has ls 3 [(0, .ref aB), (1, .int p1)] := hl
  refine lv_iload_n hx hb dX0_piecesOn_0 rfl (lv_at hl 1 rfl) ?_
  refine k_rdSi (As := [.int p1]) (rest := []) ⟨hx, hb, hml, hown, hts⟩ k_self (c_X0_placeOfDay l p1) kv_X0_30 rfl rfl ⟨Nat.le_of_ble_eq_true rfl, Nat.le_of_ble_eq_true rfl⟩ rfl hl.1 rfl (Nat.le_of_ble_eq_true rfl) dX0_piecesOn_1 ⟨Nat.zero_le _, Nat.zero_le _⟩ ?_
  refine lv_istore_n (lv' := [(2, .int (spX0_placeOfDay p1)), (0, .ref aB), (1, .int p1)]) hx hb dX0_piecesOn_4 rfl hl (by decide) rfl (fun ls hl => ?_)
  refine lv_aload_n hx hb dX0_piecesOn_5 rfl (lv_at hl 1 rfl) ?_
  refine lv_iload_n hx hb dX0_piecesOn_6 rfl (lv_at hl 0 rfl) ?_
  refine k_rdVi (As := [.int (spX0_placeOfDay p1)]) (rest := []) (ci := 0) (q0 := 0) ⟨hx, hb, hml, hown, hts⟩ k_self (c_X0_at l D aB ab cA bw (spX0_placeOfDay p1)) kv_X0_17 (hP.sub [0, 1] rfl) (hK.sub [0] rfl) rfl rfl rfl rfl ⟨Nat.le_of_ble_eq_true rfl, Nat.le_of_ble_eq_true rfl⟩ rfl hl.1 rfl (Nat.le_of_ble_eq_true rfl) dX0_piecesOn_7 ⟨Nat.zero_le _, Nat.zero_le _⟩ ?_
  refine lv_iload_n hx hb dX0_piecesOn_10 rfl (lv_at hl 2 rfl) ?_
  refine lv_icmp_ne (tgt := 24) hx hb dX0_piecesOn_11 (by decide) (fun c_11 => ?_) (fun c_11 => ?_)
  · refine lv_iconst (v := 0) hx hb dX0_piecesOn_24 (by decide) ?_
    exact W.iret (v := (0 : Int32)) hx hb hr (fun t ht hW => ⟨(0 : Int32), rfl, (show _ = _ from (by unfold spX0_piecesOn; rw [if_neg c_11] : spX0_piecesOn bw p1 = (0 : Int32)).symm), ht⟩) (fun q h => by cases h) dX0_piecesOn_25
  · refine lv_aload_n hx hb dX0_piecesOn_14 rfl (lv_at hl 1 rfl) ?_
    refine lv_iload_n hx hb dX0_piecesOn_15 rfl (lv_at hl 0 rfl) ?_
    refine lv_iconst (v := 1) hx hb dX0_piecesOn_16 (by decide) ?_
    refine lv_iadd hx hb dX0_piecesOn_17 ?_
    refine k_rdVi (As := [.int ((spX0_placeOfDay p1) + (1 : Int32))]) (rest := []) (ci := 0) (q0 := 0) ⟨hx, hb, hml, hown, hts⟩ k_self (c_X0_at l D aB ab cA bw ((spX0_placeOfDay p1) + (1 : Int32))) kv_X0_17 (hP.sub [0, 1] rfl) (hK.sub [0] rfl) rfl rfl rfl rfl ⟨Nat.le_of_ble_eq_true rfl, Nat.le_of_ble_eq_true rfl⟩ rfl hl.1 rfl (Nat.le_of_ble_eq_true rfl) dX0_piecesOn_18 ⟨Nat.zero_le _, Nat.zero_le _⟩ ?_
    refine lv_goto (tgt := 25) hx hb dX0_piecesOn_21 (by decide) ?_
    exact W.iret (v := (spX0_at bw ((spX0_placeOfDay p1) + (1 : Int32)))) hx hb hr (fun t ht hW => ⟨(spX0_at bw ((spX0_placeOfDay p1) + (1 : Int32))), rfl, (show _ = _ from (by unfold spX0_piecesOn; rw [if_pos c_11] : spX0_piecesOn bw p1 = (spX0_at bw ((spX0_placeOfDay p1) + (1 : Int32)))).symm), ht⟩) (fun q h => by cases h) dX0_piecesOn_25
def spX0_centsOn (bw : Nat → Int32) (p1 : Int32) : Int64 := (if (spX0_at bw (spX0_placeOfDay p1)) = p1 then (spX0_sumAt bw ((spX0_placeOfDay p1) + (2 : Int32))) else (0 : Int64))
set_option maxHeartbeats 4000000 in
set_option maxRecDepth 100000 in
theorem c_X0_centsOn (l : Launch) (D : va_G) (aB ab : Nat) (cA : ClassId) (bw : Nat → Int32) (p1 : Int32)  : kRl l yX0_centsOn cX0_centsOn 3 (some .long) { frames := 2, cells := 0, slots := 0, locals := 42 } [.ref aB, .int p1] (kB D (wB aB ab cA bw) [(cA, .int)]) (spX0_centsOn bw p1) := by
  refine Met.ofW (cc := cX0_centsOn) (maxL := 3) (ret := (some .long)) (by decide) rfl ?_
  intro p e s m args below meth c s₁ B hml hv
  obtain ⟨rfl, hP, hK⟩ := hv
  have hx := B.exec
  have hb := B.bytes
  have hr := B.returns
  have hts : ∀ w ∈ kG, w.before _ s = true := fun w h => atoms_spec (ws := kT yX0_centsOn cX0_centsOn 3 (some .long)) B.pre w (List.mem_cons_of_mem _ h)
  have hown : s.vm.findClass RX0 = some m.cls := findClass_of_methodNamed B.named
  have hlocks := B.notSynchronized
  have hl := lv_entry ([.ref aB, .int p1]) (n := 3) (Nat.le_of_ble_eq_true rfl)
  rw [lg_entry_eq]
  generalize (lg_sl ([.ref aB, .int p1]) ++ List.replicate (3 - (lg_sl ([.ref aB, .int p1])).length) Slot.unset).toArray = ls at hl ⊢
  have hl : lv_has ls 3 [(0, .ref aB), (1, .int p1)] := hl
  refine lv_iload_n hx hb dX0_centsOn_0 rfl (lv_at hl 1 rfl) ?_
  refine k_rdSi (As := [.int p1]) (rest := []) ⟨hx, hb, hml, hown, hts⟩ k_self (c_X0_placeOfDay l p1) kv_X0_30 rfl rfl ⟨Nat.le_of_ble_eq_true rfl, Nat.le_of_ble_eq_true rfl⟩ rfl hl.1 rfl (Nat.le_of_ble_eq_true rfl) dX0_centsOn_1 ⟨Nat.zero_le _, Nat.zero_le _⟩ ?_
  refine lv_istore_n (lv' := [(2, .int (spX0_placeOfDay p1)), (0, .ref aB), (1, .int p1)]) hx hb dX0_centsOn_4 rfl hl (by decide) rfl (fun ls hl => ?_)
  refine lv_aload_n hx hb dX0_centsOn_5 rfl (lv_at hl 1 rfl) ?_
  refine lv_iload_n hx hb dX0_centsOn_6 rfl (lv_at hl 0 rfl) ?_
  refine k_rdVi (As := [.int (spX0_placeOfDay p1)]) (rest := []) (ci := 0) (q0 := 0) ⟨hx, hb, hml, hown, hts⟩ k_self (c_X0_at l D aB ab cA bw (spX0_placeOfDay p1)) kv_X0_17 (hP.sub [0, 1] rfl) (hK.sub [0] rfl) rfl rfl rfl rfl ⟨Nat.le_of_ble_eq_true rfl, Nat.le_of_ble_eq_true rfl⟩ rfl hl.1 rfl (Nat.le_of_ble_eq_true rfl) dX0_centsOn_7 ⟨Nat.zero_le _, Nat.zero_le _⟩ ?_
  refine lv_iload_n hx hb dX0_centsOn_10 rfl (lv_at hl 2 rfl) ?_
  refine lv_icmp_ne (tgt := 24) hx hb dX0_centsOn_11 (by decide) (fun c_11 => ?_) (fun c_11 => ?_)
  · refine lv_lconst (v := 0) hx hb dX0_centsOn_24 (by decide) ?_
    exact W.lret (v := (0 : Int64)) hx hb hr (fun t ht hW => ⟨(0 : Int64), rfl, (show _ = _ from (by unfold spX0_centsOn; rw [if_neg c_11] : spX0_centsOn bw p1 = (0 : Int64)).symm), ht⟩) (fun q h => by cases h) dX0_centsOn_25
  · refine lv_aload_n hx hb dX0_centsOn_14 rfl (lv_at hl 1 rfl) ?_
    refine lv_iload_n hx hb dX0_centsOn_15 rfl (lv_at hl 0 rfl) ?_
    refine lv_iconst (v := 2) hx hb dX0_centsOn_16 (by decide) ?_
    refine lv_iadd hx hb dX0_centsOn_17 ?_
    refine k_rdVl (As := [.int ((spX0_placeOfDay p1) + (2 : Int32))]) (rest := []) (ci := 0) (q0 := 0) ⟨hx, hb, hml, hown, hts⟩ k_self (c_X0_sumAt l D aB ab cA bw ((spX0_placeOfDay p1) + (2 : Int32))) kv_X0_26 (hP.sub [0, 1] rfl) (hK.sub [0] rfl) rfl rfl rfl rfl ⟨Nat.le_of_ble_eq_true rfl, Nat.le_of_ble_eq_true rfl⟩ rfl hl.1 rfl (Nat.le_of_ble_eq_true rfl) dX0_centsOn_18 ⟨Nat.zero_le _, Nat.zero_le _⟩ ?_
    refine lv_goto (tgt := 25) hx hb dX0_centsOn_21 (by decide) ?_
    exact W.lret (v := (spX0_sumAt bw ((spX0_placeOfDay p1) + (2 : Int32)))) hx hb hr (fun t ht hW => ⟨(spX0_sumAt bw ((spX0_placeOfDay p1) + (2 : Int32))), rfl, (show _ = _ from (by unfold spX0_centsOn; rw [if_pos c_11] : spX0_centsOn bw p1 = (spX0_sumAt bw ((spX0_placeOfDay p1) + (2 : Int32)))).symm), ht⟩) (fun q h => by cases h) dX0_centsOn_25
def spX0_registersAddUp (bw : Nat → Int32) : Int32 := (if (lg_cmp ((spX0_sumAt bw (0 : Int32)) + (spX0_sumAt bw (2 : Int32))) ((spX0_sumAt bw (4 : Int32)) + (spX0_sumAt bw (6 : Int32)))) = 0 then (1 : Int32) else (0 : Int32))
set_option maxHeartbeats 4000000 in
set_option maxRecDepth 100000 in
theorem c_X0_registersAddUp (l : Launch) (D : va_G) (aB ab : Nat) (cA : ClassId) (bw : Nat → Int32)   : kRi l yX0_registersAddUp cX0_registersAddUp 1 (some .boolean) { frames := 2, cells := 0, slots := 0, locals := 42 } [.ref aB] (kB D (wB aB ab cA bw) [(cA, .int)]) (spX0_registersAddUp bw) := by
  refine Met.ofW (cc := cX0_registersAddUp) (maxL := 1) (ret := (some .boolean)) (by decide) rfl ?_
  intro p e s m args below meth c s₁ B hml hv
  obtain ⟨rfl, hP, hK⟩ := hv
  have hx := B.exec
  have hb := B.bytes
  have hr := B.returns
  have hts : ∀ w ∈ kG, w.before _ s = true := fun w h => atoms_spec (ws := kT yX0_registersAddUp cX0_registersAddUp 1 (some .boolean)) B.pre w (List.mem_cons_of_mem _ h)
  have hown : s.vm.findClass RX0 = some m.cls := findClass_of_methodNamed B.named
  have hlocks := B.notSynchronized
  have hl := lv_entry ([.ref aB]) (n := 1) (Nat.le_of_ble_eq_true rfl)
  rw [lg_entry_eq]
  generalize (lg_sl ([.ref aB]) ++ List.replicate (1 - (lg_sl ([.ref aB])).length) Slot.unset).toArray = ls at hl ⊢
  have hl : lv_has ls 1 [(0, .ref aB)] := hl
  refine lv_aload_n hx hb dX0_registersAddUp_0 rfl (lv_at hl 0 rfl) ?_
  refine lv_iconst (v := 0) hx hb dX0_registersAddUp_1 (by decide) ?_
  refine k_rdVl (As := [.int (0 : Int32)]) (rest := []) (ci := 0) (q0 := 0) ⟨hx, hb, hml, hown, hts⟩ k_self (c_X0_sumAt l D aB ab cA bw (0 : Int32)) kv_X0_26 (hP.sub [0, 1] rfl) (hK.sub [0] rfl) rfl rfl rfl rfl ⟨Nat.le_of_ble_eq_true rfl, Nat.le_of_ble_eq_true rfl⟩ rfl hl.1 rfl (Nat.le_of_ble_eq_true rfl) dX0_registersAddUp_2 ⟨Nat.zero_le _, Nat.zero_le _⟩ ?_
  refine lv_aload_n hx hb dX0_registersAddUp_5 rfl (lv_at hl 0 rfl) ?_
  refine lv_iconst (v := 2) hx hb dX0_registersAddUp_6 (by decide) ?_
  refine k_rdVl (As := [.int (2 : Int32)]) (rest := [.long (spX0_sumAt bw (0 : Int32))]) (ci := 0) (q0 := 0) ⟨hx, hb, hml, hown, hts⟩ k_self (c_X0_sumAt l D aB ab cA bw (2 : Int32)) kv_X0_26 (hP.sub [0, 1] rfl) (hK.sub [0] rfl) rfl rfl rfl rfl ⟨Nat.le_of_ble_eq_true rfl, Nat.le_of_ble_eq_true rfl⟩ rfl hl.1 rfl (Nat.le_of_ble_eq_true rfl) dX0_registersAddUp_7 ⟨Nat.zero_le _, Nat.zero_le _⟩ ?_
  refine lv_ladd hx hb dX0_registersAddUp_10 ?_
  refine lv_aload_n hx hb dX0_registersAddUp_11 rfl (lv_at hl 0 rfl) ?_
  refine lv_iconst (v := 4) hx hb dX0_registersAddUp_12 (by decide) ?_
  refine k_rdVl (As := [.int (4 : Int32)]) (rest := [.long ((spX0_sumAt bw (0 : Int32)) + (spX0_sumAt bw (2 : Int32)))]) (ci := 0) (q0 := 0) ⟨hx, hb, hml, hown, hts⟩ k_self (c_X0_sumAt l D aB ab cA bw (4 : Int32)) kv_X0_26 (hP.sub [0, 1] rfl) (hK.sub [0] rfl) rfl rfl rfl rfl ⟨Nat.le_of_ble_eq_true rfl, Nat.le_of_ble_eq_true rfl⟩ rfl hl.1 rfl (Nat.le_of_ble_eq_true rfl) dX0_registersAddUp_13 ⟨Nat.zero_le _, Nat.zero_le _⟩ ?_
  refine lv_aload_n hx hb dX0_registersAddUp_16 rfl (lv_at hl 0 rfl) ?_
  refine lv_bipush (v := 6) hx hb dX0_registersAddUp_17 (by decide) ?_
  refine k_rdVl (As := [.int (6 : Int32)]) (rest := [.long (spX0_sumAt bw (4 : Int32)), .long ((spX0_sumAt bw (0 : Int32)) + (spX0_sumAt bw (2 : Int32)))]) (ci := 0) (q0 := 0) ⟨hx, hb, hml, hown, hts⟩ k_self (c_X0_sumAt l D aB ab cA bw (6 : Int32)) kv_X0_26 (hP.sub [0, 1] rfl) (hK.sub [0] rfl) rfl rfl rfl rfl ⟨Nat.le_of_ble_eq_true rfl, Nat.le_of_ble_eq_true rfl⟩ rfl hl.1 rfl (Nat.le_of_ble_eq_true rfl) dX0_registersAddUp_19 ⟨Nat.zero_le _, Nat.zero_le _⟩ ?_
  refine lv_ladd hx hb dX0_registersAddUp_22 ?_
  refine W.lcmp hx hb dX0_registersAddUp_23 ?_
  refine lv_if_ne (tgt := 31) hx hb dX0_registersAddUp_24 (by decide) (fun c_24 => ?_) (fun c_24 => ?_)
  · refine lv_iconst (v := 0) hx hb dX0_registersAddUp_31 (by decide) ?_
    exact W.zret (v := (0 : Int32)) hx hb hr rfl (fun t ht hW => ⟨(0 : Int32), rfl, (show _ = _ from (by unfold spX0_registersAddUp; rw [if_neg c_24] : spX0_registersAddUp bw = (0 : Int32)).symm), ht⟩) (fun q h => by cases h) dX0_registersAddUp_32
  · refine lv_iconst (v := 1) hx hb dX0_registersAddUp_27 (by decide) ?_
    refine lv_goto (tgt := 32) hx hb dX0_registersAddUp_28 (by decide) ?_
    exact W.zret (v := (1 : Int32)) hx hb hr rfl (fun t ht hW => ⟨(1 : Int32), rfl, (show _ = _ from (by unfold spX0_registersAddUp; rw [if_pos c_24] : spX0_registersAddUp bw = (1 : Int32)).symm), ht⟩) (fun q h => by cases h) dX0_registersAddUp_32
def spX0_addOne (bw : Nat → Int32) (p1 : Int32) : (Nat → Int32) := (spX0_put bw p1 ((spX0_at bw p1) + (1 : Int32)))
set_option maxHeartbeats 4000000 in
set_option maxRecDepth 100000 in
theorem c_X0_addOne (l : Launch) (D : va_G) (aB ab : Nat) (cA : ClassId) (bw : Nat → Int32) (p1 : Int32)  : kWv l yX0_addOne cX0_addOne 2 none { frames := 1, cells := 0, slots := 0, locals := 22 } D [(cA, .int)] [.ref aB, .int p1] (wB aB ab cA bw) (wB aB ab cA (spX0_addOne bw p1)) := by
  intro sz
  refine Met.ofW (cc := cX0_addOne) (maxL := 2) (ret := none) (by decide) rfl ?_
  intro p e s m args below meth c s₁ B hml hv
  obtain ⟨rfl, hsz, hP, hK, hD0⟩ := hv
  have hx := B.exec
  have hb := B.bytes
  have hr := B.returns
  have hts : ∀ w ∈ kG, w.before _ s = true := fun w h => atoms_spec (ws := kT yX0_addOne cX0_addOne 2 none) B.pre w (List.mem_cons_of_mem _ h)
  have hown : s.vm.findClass RX0 = some m.cls := findClass_of_methodNamed B.named
  have hlocks := B.notSynchronized
  subst hsz
  have hD := hD0.self (sz := s.heap.size)
  generalize hAe : va_A (wB aB ab cA bw) s.heap.size = A at hD ⊢
  have hA : ∀ q : Nat, s.heap.size ≤ q → A q := fun q h => by rw [← hAe]; exact Or.inr h
  have hS : va_S A s.heap s.heap [] := va_S.rf
  have hl := lv_entry ([.ref aB, .int p1]) (n := 2) (Nat.le_of_ble_eq_true rfl)
  rw [lg_entry_eq]
  generalize (lg_sl ([.ref aB, .int p1]) ++ List.replicate (2 - (lg_sl ([.ref aB, .int p1])).length) Slot.unset).toArray = ls at hl ⊢
  have hl : lv_has ls 2 [(0, .ref aB), (1, .int p1)] := hl
  refine lv_aload_n hx hb dX0_addOne_0 rfl (lv_at hl 0 rfl) ?_
  refine lv_iload_n hx hb dX0_addOne_1 rfl (lv_at hl 1 rfl) ?_
  refine lv_aload_n hx hb dX0_addOne_2 rfl (lv_at hl 0 rfl) ?_
  refine lv_iload_n hx hb dX0_addOne_3 rfl (lv_at hl 1 rfl) ?_
  refine k_rdVi (As := [.int p1]) (rest := [.int p1, .ref aB]) (ci := 0) (q0 := 0) ⟨hx, hb, hml, hown, hts⟩ k_self (c_X0_at l D aB ab cA bw p1) kv_X0_17 (hP.sub [0, 1] rfl) (hK.sub [0] rfl) rfl rfl rfl rfl ⟨Nat.le_of_ble_eq_true rfl, Nat.le_of_ble_eq_true rfl⟩ rfl hl.1 rfl (Nat.le_of_ble_eq_true rfl) dX0_addOne_4 ⟨Nat.zero_le _, Nat.zero_le _⟩ ?_
  refine lv_iconst (v := 1) hx hb dX0_addOne_7 (by decide) ?_
  refine lv_iadd hx hb dX0_addOne_8 ?_
  refine k_wrVv (As := [.int p1, .int ((spX0_at bw p1) + (1 : Int32))]) (rest := []) (ci := 0) (q0 := 0) (ws' := (wB aB ab cA (spX0_put bw p1 ((spX0_at bw p1) + (1 : Int32))))) (wr := []) ⟨hx, hb, hml, hown, hts⟩ k_self (c_X0_put l D aB ab cA bw p1 ((spX0_at bw p1) + (1 : Int32))) kv_X0_13 hP hD hS hA hK rfl rfl [0, 1] [] [0, 1] rfl (by decide) rfl (by decide) (by decide) rfl (by decide) rfl rfl ⟨Nat.le_of_ble_eq_true rfl, Nat.le_of_ble_eq_true rfl⟩ rfl hl.1 rfl (Nat.le_of_ble_eq_true rfl) dX0_addOne_9 ⟨Nat.zero_le _, Nat.zero_le _⟩ (fun H locs hP hD hS => ?_)
  have hE : spX0_addOne bw p1 = (spX0_put bw p1 ((spX0_at bw p1) + (1 : Int32))) := by unfold spX0_addOne; rfl
  exact W.vret hx hb hr (fun t ht hW => ⟨⟨(), rfl, trivial, by rw [hE, ht]; exact hP, va_K.moved hW.alike hK, by rw [hE]; exact hD⟩, hS.F ht⟩) hS.2.2 dX0_addOne_12
def spX0_addToSum (bw : Nat → Int32) (p1 : Int32) (p2 : Int32) : (Nat → Int32) := (spX0_put (spX0_put bw p1 (Int64.toInt32 ((spX0_sumAt bw p1) + (Int32.toInt64 p2)))) (p1 + (1 : Int32)) (Int64.toInt32 ((Int64.toUInt64 ((spX0_sumAt bw p1) + (Int32.toInt64 p2)) >>> ((Int32.toInt64 (32 : Int32)).toUInt64 &&& Int64.toUInt64 63)).toInt64)))
set_option maxHeartbeats 4000000 in
set_option maxRecDepth 100000 in
theorem c_X0_addToSum (l : Launch) (D : va_G) (aB ab : Nat) (cA : ClassId) (bw : Nat → Int32) (p1 : Int32) (p2 : Int32)  : kWv l yX0_addToSum cX0_addToSum 5 none { frames := 2, cells := 0, slots := 0, locals := 42 } D [(cA, .int)] [.ref aB, .int p1, .int p2] (wB aB ab cA bw) (wB aB ab cA (spX0_addToSum bw p1 p2)) := by
  intro sz
  refine Met.ofW (cc := cX0_addToSum) (maxL := 5) (ret := none) (by decide) rfl ?_
  intro p e s m args below meth c s₁ B hml hv
  obtain ⟨rfl, hsz, hP, hK, hD0⟩ := hv
  have hx := B.exec
  have hb := B.bytes
  have hr := B.returns
  have hts : ∀ w ∈ kG, w.before _ s = true := fun w h => atoms_spec (ws := kT yX0_addToSum cX0_addToSum 5 none) B.pre w (List.mem_cons_of_mem _ h)
  have hown : s.vm.findClass RX0 = some m.cls := findClass_of_methodNamed B.named
  have hlocks := B.notSynchronized
  subst hsz
  have hD := hD0.self (sz := s.heap.size)
  generalize hAe : va_A (wB aB ab cA bw) s.heap.size = A at hD ⊢
  have hA : ∀ q : Nat, s.heap.size ≤ q → A q := fun q h => by rw [← hAe]; exact Or.inr h
  have hS : va_S A s.heap s.heap [] := va_S.rf
  have hl := lv_entry ([.ref aB, .int p1, .int p2]) (n := 5) (Nat.le_of_ble_eq_true rfl)
  rw [lg_entry_eq]
  generalize (lg_sl ([.ref aB, .int p1, .int p2]) ++ List.replicate (5 - (lg_sl ([.ref aB, .int p1, .int p2])).length) Slot.unset).toArray = ls at hl ⊢
  have hl : lv_has ls 5 [(0, .ref aB), (1, .int p1), (2, .int p2)] := hl
  refine lv_aload_n hx hb dX0_addToSum_0 rfl (lv_at hl 0 rfl) ?_
  refine lv_iload_n hx hb dX0_addToSum_1 rfl (lv_at hl 1 rfl) ?_
  refine k_rdVl (As := [.int p1]) (rest := []) (ci := 0) (q0 := 0) ⟨hx, hb, hml, hown, hts⟩ k_self (c_X0_sumAt l D aB ab cA bw p1) kv_X0_26 (hP.sub [0, 1] rfl) (hK.sub [0] rfl) rfl rfl rfl rfl ⟨Nat.le_of_ble_eq_true rfl, Nat.le_of_ble_eq_true rfl⟩ rfl hl.1 rfl (Nat.le_of_ble_eq_true rfl) dX0_addToSum_2 ⟨Nat.zero_le _, Nat.zero_le _⟩ ?_
  refine lv_iload_n hx hb dX0_addToSum_5 rfl (lv_at hl 2 rfl) ?_
  refine lv_i2l (v := (Int32.toInt64 p2)) hx hb dX0_addToSum_6 rfl ?_
  refine lv_ladd hx hb dX0_addToSum_7 ?_
  refine lv_lstore_n (lv' := [(3, .long ((spX0_sumAt bw p1) + (Int32.toInt64 p2))), (0, .ref aB), (1, .int p1), (2, .int p2)]) hx hb dX0_addToSum_8 rfl hl (by decide) rfl (fun ls hl => ?_)
  refine lv_aload_n hx hb dX0_addToSum_9 rfl (lv_at hl 1 rfl) ?_
  refine lv_iload_n hx hb dX0_addToSum_10 rfl (lv_at hl 2 rfl) ?_
  refine lv_lload_n hx hb dX0_addToSum_11 rfl (lv_at hl 0 rfl) ?_
  refine lv_l2i (v := (Int64.toInt32 ((spX0_sumAt bw p1) + (Int32.toInt64 p2)))) hx hb dX0_addToSum_12 rfl ?_
  refine k_wrVv (As := [.int p1, .int (Int64.toInt32 ((spX0_sumAt bw p1) + (Int32.toInt64 p2)))]) (rest := []) (ci := 0) (q0 := 0) (ws' := (wB aB ab cA (spX0_put bw p1 (Int64.toInt32 ((spX0_sumAt bw p1) + (Int32.toInt64 p2)))))) (wr := []) ⟨hx, hb, hml, hown, hts⟩ k_self (c_X0_put l D aB ab cA bw p1 (Int64.toInt32 ((spX0_sumAt bw p1) + (Int32.toInt64 p2)))) kv_X0_13 hP hD hS hA hK rfl rfl [0, 1] [] [0, 1] rfl (by decide) rfl (by decide) (by decide) rfl (by decide) rfl rfl ⟨Nat.le_of_ble_eq_true rfl, Nat.le_of_ble_eq_true rfl⟩ rfl hl.1 rfl (Nat.le_of_ble_eq_true rfl) dX0_addToSum_13 ⟨Nat.zero_le _, Nat.zero_le _⟩ (fun H locs hP hD hS => ?_)
  refine lv_aload_n hx hb dX0_addToSum_16 rfl (lv_at hl 1 rfl) ?_
  refine lv_iload_n hx hb dX0_addToSum_17 rfl (lv_at hl 2 rfl) ?_
  refine lv_iconst (v := 1) hx hb dX0_addToSum_18 (by decide) ?_
  refine lv_iadd hx hb dX0_addToSum_19 ?_
  refine lv_lload_n hx hb dX0_addToSum_20 rfl (lv_at hl 0 rfl) ?_
  refine lv_bipush (v := 32) hx hb dX0_addToSum_21 (by decide) ?_
  refine lv_lushr (v := (Int64.toUInt64 ((spX0_sumAt bw p1) + (Int32.toInt64 p2)) >>> ((Int32.toInt64 (32 : Int32)).toUInt64 &&& Int64.toUInt64 63)).toInt64) hx hb dX0_addToSum_23 rfl ?_
  refine lv_l2i (v := (Int64.toInt32 ((Int64.toUInt64 ((spX0_sumAt bw p1) + (Int32.toInt64 p2)) >>> ((Int32.toInt64 (32 : Int32)).toUInt64 &&& Int64.toUInt64 63)).toInt64))) hx hb dX0_addToSum_24 rfl ?_
  refine k_wrVv (As := [.int (p1 + (1 : Int32)), .int (Int64.toInt32 ((Int64.toUInt64 ((spX0_sumAt bw p1) + (Int32.toInt64 p2)) >>> ((Int32.toInt64 (32 : Int32)).toUInt64 &&& Int64.toUInt64 63)).toInt64))]) (rest := []) (ci := 0) (q0 := 0) (ws' := (wB aB ab cA (spX0_put (spX0_put bw p1 (Int64.toInt32 ((spX0_sumAt bw p1) + (Int32.toInt64 p2)))) (p1 + (1 : Int32)) (Int64.toInt32 ((Int64.toUInt64 ((spX0_sumAt bw p1) + (Int32.toInt64 p2)) >>> ((Int32.toInt64 (32 : Int32)).toUInt64 &&& Int64.toUInt64 63)).toInt64))))) (wr := []) ⟨hx, hb, hml, hown, hts⟩ k_self (c_X0_put l D aB ab cA (spX0_put bw p1 (Int64.toInt32 ((spX0_sumAt bw p1) + (Int32.toInt64 p2)))) (p1 + (1 : Int32)) (Int64.toInt32 ((Int64.toUInt64 ((spX0_sumAt bw p1) + (Int32.toInt64 p2)) >>> ((Int32.toInt64 (32 : Int32)).toUInt64 &&& Int64.toUInt64 63)).toInt64))) kv_X0_13 hP hD hS hA hK rfl rfl [0, 1] [] [0, 1] rfl (by decide) rfl (by decide) (by decide) rfl (by decide) rfl rfl ⟨Nat.le_of_ble_eq_true rfl, Nat.le_of_ble_eq_true rfl⟩ rfl hl.1 rfl (Nat.le_of_ble_eq_true rfl) dX0_addToSum_25 ⟨Nat.zero_le _, Nat.zero_le _⟩ (fun H locs hP hD hS => ?_)
  have hE : spX0_addToSum bw p1 p2 = (spX0_put (spX0_put bw p1 (Int64.toInt32 ((spX0_sumAt bw p1) + (Int32.toInt64 p2)))) (p1 + (1 : Int32)) (Int64.toInt32 ((Int64.toUInt64 ((spX0_sumAt bw p1) + (Int32.toInt64 p2)) >>> ((Int32.toInt64 (32 : Int32)).toUInt64 &&& Int64.toUInt64 63)).toInt64))) := by unfold spX0_addToSum; rfl
  exact W.vret hx hb hr (fun t ht hW => ⟨⟨(), rfl, trivial, by rw [hE, ht]; exact hP, va_K.moved hW.alike hK, by rw [hE]; exact hD⟩, hS.F ht⟩) hS.2.2 dX0_addToSum_28
def spX0_addPiece (bw : Nat → Int32) (p1 : Int32) (p2 : Int32) : (Nat → Int32) := (spX0_put (spX0_addToSum (spX0_addOne (spX0_addOne (spX0_addToSum (spX0_addToSum bw (0 : Int32) p1) (2 : Int32) (-p1)) (8 : Int32)) (spX0_departmentAt p2)) ((spX0_departmentAt p2) + (1 : Int32)) p1) (14 : Int32) p1)
set_option maxHeartbeats 4000000 in
set_option maxRecDepth 100000 in
theorem c_X0_addPiece (l : Launch) (D : va_G) (aB ab : Nat) (cA : ClassId) (bw : Nat → Int32) (p1 : Int32) (p2 : Int32)  : kWv l yX0_addPiece cX0_addPiece 3 none { frames := 3, cells := 0, slots := 0, locals := 66 } D [(cA, .int)] [.ref aB, .int p1, .int p2] (wB aB ab cA bw) (wB aB ab cA (spX0_addPiece bw p1 p2)) := by
  intro sz
  refine Met.ofW (cc := cX0_addPiece) (maxL := 3) (ret := none) (by decide) rfl ?_
  intro p e s m args below meth c s₁ B hml hv
  obtain ⟨rfl, hsz, hP, hK, hD0⟩ := hv
  have hx := B.exec
  have hb := B.bytes
  have hr := B.returns
  have hts : ∀ w ∈ kG, w.before _ s = true := fun w h => atoms_spec (ws := kT yX0_addPiece cX0_addPiece 3 none) B.pre w (List.mem_cons_of_mem _ h)
  have hown : s.vm.findClass RX0 = some m.cls := findClass_of_methodNamed B.named
  have hlocks := B.notSynchronized
  subst hsz
  have hD := hD0.self (sz := s.heap.size)
  generalize hAe : va_A (wB aB ab cA bw) s.heap.size = A at hD ⊢
  have hA : ∀ q : Nat, s.heap.size ≤ q → A q := fun q h => by rw [← hAe]; exact Or.inr h
  have hS : va_S A s.heap s.heap [] := va_S.rf
  have hl := lv_entry ([.ref aB, .int p1, .int p2]) (n := 3) (Nat.le_of_ble_eq_true rfl)
  rw [lg_entry_eq]
  generalize (lg_sl ([.ref aB, .int p1, .int p2]) ++ List.replicate (3 - (lg_sl ([.ref aB, .int p1, .int p2])).length) Slot.unset).toArray = ls at hl ⊢
  have hl : lv_has ls 3 [(0, .ref aB), (1, .int p1), (2, .int p2)] := hl
  refine lv_aload_n hx hb dX0_addPiece_0 rfl (lv_at hl 0 rfl) ?_
  refine lv_iconst (v := 0) hx hb dX0_addPiece_1 (by decide) ?_
  refine lv_iload_n hx hb dX0_addPiece_2 rfl (lv_at hl 1 rfl) ?_
  refine k_wrVv (As := [.int (0 : Int32), .int p1]) (rest := []) (ci := 0) (q0 := 0) (ws' := (wB aB ab cA (spX0_addToSum bw (0 : Int32) p1))) (wr := []) ⟨hx, hb, hml, hown, hts⟩ k_self (c_X0_addToSum l D aB ab cA bw (0 : Int32) p1) kv_X0_49 hP hD hS hA hK rfl rfl [0, 1] [] [0, 1] rfl (by decide) rfl (by decide) (by decide) rfl (by decide) rfl rfl ⟨Nat.le_of_ble_eq_true rfl, Nat.le_of_ble_eq_true rfl⟩ rfl hl.1 rfl (Nat.le_of_ble_eq_true rfl) dX0_addPiece_3 ⟨Nat.zero_le _, Nat.zero_le _⟩ (fun H locs hP hD hS => ?_)
  refine lv_aload_n hx hb dX0_addPiece_6 rfl (lv_at hl 0 rfl) ?_
  refine lv_iconst (v := 2) hx hb dX0_addPiece_7 (by decide) ?_
  refine lv_iload_n hx hb dX0_addPiece_8 rfl (lv_at hl 1 rfl) ?_
  refine lv_ineg hx hb dX0_addPiece_9 ?_
  refine k_wrVv (As := [.int (2 : Int32), .int (-p1)]) (rest := []) (ci := 0) (q0 := 0) (ws' := (wB aB ab cA (spX0_addToSum (spX0_addToSum bw (0 : Int32) p1) (2 : Int32) (-p1)))) (wr := []) ⟨hx, hb, hml, hown, hts⟩ k_self (c_X0_addToSum l D aB ab cA (spX0_addToSum bw (0 : Int32) p1) (2 : Int32) (-p1)) kv_X0_49 hP hD hS hA hK rfl rfl [0, 1] [] [0, 1] rfl (by decide) rfl (by decide) (by decide) rfl (by decide) rfl rfl ⟨Nat.le_of_ble_eq_true rfl, Nat.le_of_ble_eq_true rfl⟩ rfl hl.1 rfl (Nat.le_of_ble_eq_true rfl) dX0_addPiece_10 ⟨Nat.zero_le _, Nat.zero_le _⟩ (fun H locs hP hD hS => ?_)
  refine lv_aload_n hx hb dX0_addPiece_13 rfl (lv_at hl 0 rfl) ?_
  refine lv_bipush (v := 8) hx hb dX0_addPiece_14 (by decide) ?_
  refine k_wrVv (As := [.int (8 : Int32)]) (rest := []) (ci := 0) (q0 := 0) (ws' := (wB aB ab cA (spX0_addOne (spX0_addToSum (spX0_addToSum bw (0 : Int32) p1) (2 : Int32) (-p1)) (8 : Int32)))) (wr := []) ⟨hx, hb, hml, hown, hts⟩ k_self (c_X0_addOne l D aB ab cA (spX0_addToSum (spX0_addToSum bw (0 : Int32) p1) (2 : Int32) (-p1)) (8 : Int32)) kv_X0_52 hP hD hS hA hK rfl rfl [0, 1] [] [0, 1] rfl (by decide) rfl (by decide) (by decide) rfl (by decide) rfl rfl ⟨Nat.le_of_ble_eq_true rfl, Nat.le_of_ble_eq_true rfl⟩ rfl hl.1 rfl (Nat.le_of_ble_eq_true rfl) dX0_addPiece_16 ⟨Nat.zero_le _, Nat.zero_le _⟩ (fun H locs hP hD hS => ?_)
  refine lv_aload_n hx hb dX0_addPiece_19 rfl (lv_at hl 0 rfl) ?_
  refine lv_iload_n hx hb dX0_addPiece_20 rfl (lv_at hl 2 rfl) ?_
  refine k_rdSi (As := [.int p2]) (rest := [.ref aB]) ⟨hx, hb, hml, hown, hts⟩ k_self (c_X0_departmentAt l p2) kv_X0_23 rfl rfl ⟨Nat.le_of_ble_eq_true rfl, Nat.le_of_ble_eq_true rfl⟩ rfl hl.1 rfl (Nat.le_of_ble_eq_true rfl) dX0_addPiece_21 ⟨Nat.zero_le _, Nat.zero_le _⟩ ?_
  refine k_wrVv (As := [.int (spX0_departmentAt p2)]) (rest := []) (ci := 0) (q0 := 0) (ws' := (wB aB ab cA (spX0_addOne (spX0_addOne (spX0_addToSum (spX0_addToSum bw (0 : Int32) p1) (2 : Int32) (-p1)) (8 : Int32)) (spX0_departmentAt p2)))) (wr := []) ⟨hx, hb, hml, hown, hts⟩ k_self (c_X0_addOne l D aB ab cA (spX0_addOne (spX0_addToSum (spX0_addToSum bw (0 : Int32) p1) (2 : Int32) (-p1)) (8 : Int32)) (spX0_departmentAt p2)) kv_X0_52 hP hD hS hA hK rfl rfl [0, 1] [] [0, 1] rfl (by decide) rfl (by decide) (by decide) rfl (by decide) rfl rfl ⟨Nat.le_of_ble_eq_true rfl, Nat.le_of_ble_eq_true rfl⟩ rfl hl.1 rfl (Nat.le_of_ble_eq_true rfl) dX0_addPiece_24 ⟨Nat.zero_le _, Nat.zero_le _⟩ (fun H locs hP hD hS => ?_)
  refine lv_aload_n hx hb dX0_addPiece_27 rfl (lv_at hl 0 rfl) ?_
  refine lv_iload_n hx hb dX0_addPiece_28 rfl (lv_at hl 2 rfl) ?_
  refine k_rdSi (As := [.int p2]) (rest := [.ref aB]) ⟨hx, hb, hml, hown, hts⟩ k_self (c_X0_departmentAt l p2) kv_X0_23 rfl rfl ⟨Nat.le_of_ble_eq_true rfl, Nat.le_of_ble_eq_true rfl⟩ rfl hl.1 rfl (Nat.le_of_ble_eq_true rfl) dX0_addPiece_29 ⟨Nat.zero_le _, Nat.zero_le _⟩ ?_
  refine lv_iconst (v := 1) hx hb dX0_addPiece_32 (by decide) ?_
  refine lv_iadd hx hb dX0_addPiece_33 ?_
  refine lv_iload_n hx hb dX0_addPiece_34 rfl (lv_at hl 1 rfl) ?_
  refine k_wrVv (As := [.int ((spX0_departmentAt p2) + (1 : Int32)), .int p1]) (rest := []) (ci := 0) (q0 := 0) (ws' := (wB aB ab cA (spX0_addToSum (spX0_addOne (spX0_addOne (spX0_addToSum (spX0_addToSum bw (0 : Int32) p1) (2 : Int32) (-p1)) (8 : Int32)) (spX0_departmentAt p2)) ((spX0_departmentAt p2) + (1 : Int32)) p1))) (wr := []) ⟨hx, hb, hml, hown, hts⟩ k_self (c_X0_addToSum l D aB ab cA (spX0_addOne (spX0_addOne (spX0_addToSum (spX0_addToSum bw (0 : Int32) p1) (2 : Int32) (-p1)) (8 : Int32)) (spX0_departmentAt p2)) ((spX0_departmentAt p2) + (1 : Int32)) p1) kv_X0_49 hP hD hS hA hK rfl rfl [0, 1] [] [0, 1] rfl (by decide) rfl (by decide) (by decide) rfl (by decide) rfl rfl ⟨Nat.le_of_ble_eq_true rfl, Nat.le_of_ble_eq_true rfl⟩ rfl hl.1 rfl (Nat.le_of_ble_eq_true rfl) dX0_addPiece_35 ⟨Nat.zero_le _, Nat.zero_le _⟩ (fun H locs hP hD hS => ?_)
  refine lv_aload_n hx hb dX0_addPiece_38 rfl (lv_at hl 0 rfl) ?_
  refine lv_bipush (v := 14) hx hb dX0_addPiece_39 (by decide) ?_
  refine lv_iload_n hx hb dX0_addPiece_41 rfl (lv_at hl 1 rfl) ?_
  refine k_wrVv (As := [.int (14 : Int32), .int p1]) (rest := []) (ci := 0) (q0 := 0) (ws' := (wB aB ab cA (spX0_put (spX0_addToSum (spX0_addOne (spX0_addOne (spX0_addToSum (spX0_addToSum bw (0 : Int32) p1) (2 : Int32) (-p1)) (8 : Int32)) (spX0_departmentAt p2)) ((spX0_departmentAt p2) + (1 : Int32)) p1) (14 : Int32) p1))) (wr := []) ⟨hx, hb, hml, hown, hts⟩ k_self (c_X0_put l D aB ab cA (spX0_addToSum (spX0_addOne (spX0_addOne (spX0_addToSum (spX0_addToSum bw (0 : Int32) p1) (2 : Int32) (-p1)) (8 : Int32)) (spX0_departmentAt p2)) ((spX0_departmentAt p2) + (1 : Int32)) p1) (14 : Int32) p1) kv_X0_13 hP hD hS hA hK rfl rfl [0, 1] [] [0, 1] rfl (by decide) rfl (by decide) (by decide) rfl (by decide) rfl rfl ⟨Nat.le_of_ble_eq_true rfl, Nat.le_of_ble_eq_true rfl⟩ rfl hl.1 rfl (Nat.le_of_ble_eq_true rfl) dX0_addPiece_42 ⟨Nat.zero_le _, Nat.zero_le _⟩ (fun H locs hP hD hS => ?_)
  have hE : spX0_addPiece bw p1 p2 = (spX0_put (spX0_addToSum (spX0_addOne (spX0_addOne (spX0_addToSum (spX0_addToSum bw (0 : Int32) p1) (2 : Int32) (-p1)) (8 : Int32)) (spX0_departmentAt p2)) ((spX0_departmentAt p2) + (1 : Int32)) p1) (14 : Int32) p1) := by unfold spX0_addPiece; rfl
  exact W.vret hx hb hr (fun t ht hW => ⟨⟨(), rfl, trivial, by rw [hE, ht]; exact hP, va_K.moved hW.alike hK, by rw [hE]; exact hD⟩, hS.F ht⟩) hS.2.2 dX0_addPiece_45
def spX0_addToDay (bw : Nat → Int32) (p1 : Int32) (p2 : Int32) : (Nat → Int32) := (if (spX0_at bw (spX0_placeOfDay p2)) = (-1 : Int32) then (if (spX0_at (spX0_put (spX0_put (spX0_put (spX0_put bw (spX0_placeOfDay p2) p2) ((spX0_placeOfDay p2) + (1 : Int32)) (0 : Int32)) ((spX0_placeOfDay p2) + (2 : Int32)) (0 : Int32)) ((spX0_placeOfDay p2) + (3 : Int32)) (0 : Int32)) (spX0_placeOfDay p2)) = p2 then (spX0_addToSum (spX0_addOne (spX0_put (spX0_put (spX0_put (spX0_put bw (spX0_placeOfDay p2) p2) ((spX0_placeOfDay p2) + (1 : Int32)) (0 : Int32)) ((spX0_placeOfDay p2) + (2 : Int32)) (0 : Int32)) ((spX0_placeOfDay p2) + (3 : Int32)) (0 : Int32)) ((spX0_placeOfDay p2) + (1 : Int32))) ((spX0_placeOfDay p2) + (2 : Int32)) p1) else (spX0_put (spX0_put (spX0_put (spX0_put bw (spX0_placeOfDay p2) p2) ((spX0_placeOfDay p2) + (1 : Int32)) (0 : Int32)) ((spX0_placeOfDay p2) + (2 : Int32)) (0 : Int32)) ((spX0_placeOfDay p2) + (3 : Int32)) (0 : Int32))) else (if p2 ≤ (spX0_at bw (spX0_placeOfDay p2)) then (if (spX0_at bw (spX0_placeOfDay p2)) = p2 then (spX0_addToSum (spX0_addOne bw ((spX0_placeOfDay p2) + (1 : Int32))) ((spX0_placeOfDay p2) + (2 : Int32)) p1) else bw) else (if (spX0_at (spX0_put (spX0_put (spX0_put (spX0_put bw (spX0_placeOfDay p2) p2) ((spX0_placeOfDay p2) + (1 : Int32)) (0 : Int32)) ((spX0_placeOfDay p2) + (2 : Int32)) (0 : Int32)) ((spX0_placeOfDay p2) + (3 : Int32)) (0 : Int32)) (spX0_placeOfDay p2)) = p2 then (spX0_addToSum (spX0_addOne (spX0_put (spX0_put (spX0_put (spX0_put bw (spX0_placeOfDay p2) p2) ((spX0_placeOfDay p2) + (1 : Int32)) (0 : Int32)) ((spX0_placeOfDay p2) + (2 : Int32)) (0 : Int32)) ((spX0_placeOfDay p2) + (3 : Int32)) (0 : Int32)) ((spX0_placeOfDay p2) + (1 : Int32))) ((spX0_placeOfDay p2) + (2 : Int32)) p1) else (spX0_put (spX0_put (spX0_put (spX0_put bw (spX0_placeOfDay p2) p2) ((spX0_placeOfDay p2) + (1 : Int32)) (0 : Int32)) ((spX0_placeOfDay p2) + (2 : Int32)) (0 : Int32)) ((spX0_placeOfDay p2) + (3 : Int32)) (0 : Int32)))))
set_option maxHeartbeats 4000000 in
set_option maxRecDepth 100000 in
theorem c_X0_addToDay (l : Launch) (D : va_G) (aB ab : Nat) (cA : ClassId) (bw : Nat → Int32) (p1 : Int32) (p2 : Int32)  : kWv l yX0_addToDay cX0_addToDay 4 none { frames := 3, cells := 0, slots := 0, locals := 66 } D [(cA, .int)] [.ref aB, .int p1, .int p2] (wB aB ab cA bw) (wB aB ab cA (spX0_addToDay bw p1 p2)) := by
  intro sz
  refine Met.ofW (cc := cX0_addToDay) (maxL := 4) (ret := none) (by decide) rfl ?_
  intro p e s m args below meth c s₁ B hml hv
  obtain ⟨rfl, hsz, hP, hK, hD0⟩ := hv
  have hx := B.exec
  have hb := B.bytes
  have hr := B.returns
  have hts : ∀ w ∈ kG, w.before _ s = true := fun w h => atoms_spec (ws := kT yX0_addToDay cX0_addToDay 4 none) B.pre w (List.mem_cons_of_mem _ h)
  have hown : s.vm.findClass RX0 = some m.cls := findClass_of_methodNamed B.named
  have hlocks := B.notSynchronized
  subst hsz
  have hD := hD0.self (sz := s.heap.size)
  generalize hAe : va_A (wB aB ab cA bw) s.heap.size = A at hD ⊢
  have hA : ∀ q : Nat, s.heap.size ≤ q → A q := fun q h => by rw [← hAe]; exact Or.inr h
  have hS : va_S A s.heap s.heap [] := va_S.rf
  have hl := lv_entry ([.ref aB, .int p1, .int p2]) (n := 4) (Nat.le_of_ble_eq_true rfl)
  rw [lg_entry_eq]
  generalize (lg_sl ([.ref aB, .int p1, .int p2]) ++ List.replicate (4 - (lg_sl ([.ref aB, .int p1, .int p2])).length) Slot.unset).toArray = ls at hl ⊢
  have hl : lv_has ls 4 [(0, .ref aB), (1, .int p1), (2, .int p2)] := hl
  refine lv_iload_n hx hb dX0_addToDay_0 rfl (lv_at hl 2 rfl) ?_
  refine k_rdSi (As := [.int p2]) (rest := []) ⟨hx, hb, hml, hown, hts⟩ k_self (c_X0_placeOfDay l p2) kv_X0_30 rfl rfl ⟨Nat.le_of_ble_eq_true rfl, Nat.le_of_ble_eq_true rfl⟩ rfl hl.1 rfl (Nat.le_of_ble_eq_true rfl) dX0_addToDay_1 ⟨Nat.zero_le _, Nat.zero_le _⟩ ?_
  refine lv_istore_n (lv' := [(3, .int (spX0_placeOfDay p2)), (0, .ref aB), (1, .int p1), (2, .int p2)]) hx hb dX0_addToDay_4 rfl hl (by decide) rfl (fun ls hl => ?_)
  refine lv_aload_n hx hb dX0_addToDay_5 rfl (lv_at hl 1 rfl) ?_
  refine lv_iload_n hx hb dX0_addToDay_6 rfl (lv_at hl 0 rfl) ?_
  refine k_rdVi (As := [.int (spX0_placeOfDay p2)]) (rest := []) (ci := 0) (q0 := 0) ⟨hx, hb, hml, hown, hts⟩ k_self (c_X0_at l D aB ab cA bw (spX0_placeOfDay p2)) kv_X0_17 (hP.sub [0, 1] rfl) (hK.sub [0] rfl) rfl rfl rfl rfl ⟨Nat.le_of_ble_eq_true rfl, Nat.le_of_ble_eq_true rfl⟩ rfl hl.1 rfl (Nat.le_of_ble_eq_true rfl) dX0_addToDay_7 ⟨Nat.zero_le _, Nat.zero_le _⟩ ?_
  refine lv_iconst (v := -1) hx hb dX0_addToDay_10 (by decide) ?_
  refine lv_icmp_eq (tgt := 23) hx hb dX0_addToDay_11 (by decide) (fun c_11 => ?_) (fun c_11 => ?_)
  · refine lv_aload_n hx hb dX0_addToDay_23 rfl (lv_at hl 1 rfl) ?_
    refine lv_iload_n hx hb dX0_addToDay_24 rfl (lv_at hl 0 rfl) ?_
    refine lv_iload_n hx hb dX0_addToDay_25 rfl (lv_at hl 3 rfl) ?_
    refine k_wrVv (As := [.int (spX0_placeOfDay p2), .int p2]) (rest := []) (ci := 0) (q0 := 0) (ws' := (wB aB ab cA (spX0_put bw (spX0_placeOfDay p2) p2))) (wr := []) ⟨hx, hb, hml, hown, hts⟩ k_self (c_X0_put l D aB ab cA bw (spX0_placeOfDay p2) p2) kv_X0_13 hP hD hS hA hK rfl rfl [0, 1] [] [0, 1] rfl (by decide) rfl (by decide) (by decide) rfl (by decide) rfl rfl ⟨Nat.le_of_ble_eq_true rfl, Nat.le_of_ble_eq_true rfl⟩ rfl hl.1 rfl (Nat.le_of_ble_eq_true rfl) dX0_addToDay_26 ⟨Nat.zero_le _, Nat.zero_le _⟩ (fun H locs hP hD hS => ?_)
    refine lv_aload_n hx hb dX0_addToDay_29 rfl (lv_at hl 1 rfl) ?_
    refine lv_iload_n hx hb dX0_addToDay_30 rfl (lv_at hl 0 rfl) ?_
    refine lv_iconst (v := 1) hx hb dX0_addToDay_31 (by decide) ?_
    refine lv_iadd hx hb dX0_addToDay_32 ?_
    refine lv_iconst (v := 0) hx hb dX0_addToDay_33 (by decide) ?_
    refine k_wrVv (As := [.int ((spX0_placeOfDay p2) + (1 : Int32)), .int (0 : Int32)]) (rest := []) (ci := 0) (q0 := 0) (ws' := (wB aB ab cA (spX0_put (spX0_put bw (spX0_placeOfDay p2) p2) ((spX0_placeOfDay p2) + (1 : Int32)) (0 : Int32)))) (wr := []) ⟨hx, hb, hml, hown, hts⟩ k_self (c_X0_put l D aB ab cA (spX0_put bw (spX0_placeOfDay p2) p2) ((spX0_placeOfDay p2) + (1 : Int32)) (0 : Int32)) kv_X0_13 hP hD hS hA hK rfl rfl [0, 1] [] [0, 1] rfl (by decide) rfl (by decide) (by decide) rfl (by decide) rfl rfl ⟨Nat.le_of_ble_eq_true rfl, Nat.le_of_ble_eq_true rfl⟩ rfl hl.1 rfl (Nat.le_of_ble_eq_true rfl) dX0_addToDay_34 ⟨Nat.zero_le _, Nat.zero_le _⟩ (fun H locs hP hD hS => ?_)
    refine lv_aload_n hx hb dX0_addToDay_37 rfl (lv_at hl 1 rfl) ?_
    refine lv_iload_n hx hb dX0_addToDay_38 rfl (lv_at hl 0 rfl) ?_
    refine lv_iconst (v := 2) hx hb dX0_addToDay_39 (by decide) ?_
    refine lv_iadd hx hb dX0_addToDay_40 ?_
    refine lv_iconst (v := 0) hx hb dX0_addToDay_41 (by decide) ?_
    refine k_wrVv (As := [.int ((spX0_placeOfDay p2) + (2 : Int32)), .int (0 : Int32)]) (rest := []) (ci := 0) (q0 := 0) (ws' := (wB aB ab cA (spX0_put (spX0_put (spX0_put bw (spX0_placeOfDay p2) p2) ((spX0_placeOfDay p2) + (1 : Int32)) (0 : Int32)) ((spX0_placeOfDay p2) + (2 : Int32)) (0 : Int32)))) (wr := []) ⟨hx, hb, hml, hown, hts⟩ k_self (c_X0_put l D aB ab cA (spX0_put (spX0_put bw (spX0_placeOfDay p2) p2) ((spX0_placeOfDay p2) + (1 : Int32)) (0 : Int32)) ((spX0_placeOfDay p2) + (2 : Int32)) (0 : Int32)) kv_X0_13 hP hD hS hA hK rfl rfl [0, 1] [] [0, 1] rfl (by decide) rfl (by decide) (by decide) rfl (by decide) rfl rfl ⟨Nat.le_of_ble_eq_true rfl, Nat.le_of_ble_eq_true rfl⟩ rfl hl.1 rfl (Nat.le_of_ble_eq_true rfl) dX0_addToDay_42 ⟨Nat.zero_le _, Nat.zero_le _⟩ (fun H locs hP hD hS => ?_)
    refine lv_aload_n hx hb dX0_addToDay_45 rfl (lv_at hl 1 rfl) ?_
    refine lv_iload_n hx hb dX0_addToDay_46 rfl (lv_at hl 0 rfl) ?_
    refine lv_iconst (v := 3) hx hb dX0_addToDay_47 (by decide) ?_
    refine lv_iadd hx hb dX0_addToDay_48 ?_
    refine lv_iconst (v := 0) hx hb dX0_addToDay_49 (by decide) ?_
    refine k_wrVv (As := [.int ((spX0_placeOfDay p2) + (3 : Int32)), .int (0 : Int32)]) (rest := []) (ci := 0) (q0 := 0) (ws' := (wB aB ab cA (spX0_put (spX0_put (spX0_put (spX0_put bw (spX0_placeOfDay p2) p2) ((spX0_placeOfDay p2) + (1 : Int32)) (0 : Int32)) ((spX0_placeOfDay p2) + (2 : Int32)) (0 : Int32)) ((spX0_placeOfDay p2) + (3 : Int32)) (0 : Int32)))) (wr := []) ⟨hx, hb, hml, hown, hts⟩ k_self (c_X0_put l D aB ab cA (spX0_put (spX0_put (spX0_put bw (spX0_placeOfDay p2) p2) ((spX0_placeOfDay p2) + (1 : Int32)) (0 : Int32)) ((spX0_placeOfDay p2) + (2 : Int32)) (0 : Int32)) ((spX0_placeOfDay p2) + (3 : Int32)) (0 : Int32)) kv_X0_13 hP hD hS hA hK rfl rfl [0, 1] [] [0, 1] rfl (by decide) rfl (by decide) (by decide) rfl (by decide) rfl rfl ⟨Nat.le_of_ble_eq_true rfl, Nat.le_of_ble_eq_true rfl⟩ rfl hl.1 rfl (Nat.le_of_ble_eq_true rfl) dX0_addToDay_50 ⟨Nat.zero_le _, Nat.zero_le _⟩ (fun H locs hP hD hS => ?_)
    refine lv_aload_n hx hb dX0_addToDay_53 rfl (lv_at hl 1 rfl) ?_
    refine lv_iload_n hx hb dX0_addToDay_54 rfl (lv_at hl 0 rfl) ?_
    refine k_rdVi (As := [.int (spX0_placeOfDay p2)]) (rest := []) (ci := 0) (q0 := 0) ⟨hx, hb, hml, hown, hts⟩ k_self (c_X0_at l D aB ab cA (spX0_put (spX0_put (spX0_put (spX0_put bw (spX0_placeOfDay p2) p2) ((spX0_placeOfDay p2) + (1 : Int32)) (0 : Int32)) ((spX0_placeOfDay p2) + (2 : Int32)) (0 : Int32)) ((spX0_placeOfDay p2) + (3 : Int32)) (0 : Int32)) (spX0_placeOfDay p2)) kv_X0_17 (hP.sub [0, 1] rfl) (hK.sub [0] rfl) rfl rfl rfl rfl ⟨Nat.le_of_ble_eq_true rfl, Nat.le_of_ble_eq_true rfl⟩ rfl hl.1 rfl (Nat.le_of_ble_eq_true rfl) dX0_addToDay_55 ⟨Nat.zero_le _, Nat.zero_le _⟩ ?_
    refine lv_iload_n hx hb dX0_addToDay_58 rfl (lv_at hl 3 rfl) ?_
    refine lv_icmp_ne (tgt := 77) hx hb dX0_addToDay_59 (by decide) (fun c_59 => ?_) (fun c_59 => ?_)
    · have hE : spX0_addToDay bw p1 p2 = (spX0_put (spX0_put (spX0_put (spX0_put bw (spX0_placeOfDay p2) p2) ((spX0_placeOfDay p2) + (1 : Int32)) (0 : Int32)) ((spX0_placeOfDay p2) + (2 : Int32)) (0 : Int32)) ((spX0_placeOfDay p2) + (3 : Int32)) (0 : Int32)) := by unfold spX0_addToDay; rw [if_pos c_11, if_neg c_59]
      exact W.vret hx hb hr (fun t ht hW => ⟨⟨(), rfl, trivial, by rw [hE, ht]; exact hP, va_K.moved hW.alike hK, by rw [hE]; exact hD⟩, hS.F ht⟩) hS.2.2 dX0_addToDay_77
    · refine lv_aload_n hx hb dX0_addToDay_62 rfl (lv_at hl 1 rfl) ?_
      refine lv_iload_n hx hb dX0_addToDay_63 rfl (lv_at hl 0 rfl) ?_
      refine lv_iconst (v := 1) hx hb dX0_addToDay_64 (by decide) ?_
      refine lv_iadd hx hb dX0_addToDay_65 ?_
      refine k_wrVv (As := [.int ((spX0_placeOfDay p2) + (1 : Int32))]) (rest := []) (ci := 0) (q0 := 0) (ws' := (wB aB ab cA (spX0_addOne (spX0_put (spX0_put (spX0_put (spX0_put bw (spX0_placeOfDay p2) p2) ((spX0_placeOfDay p2) + (1 : Int32)) (0 : Int32)) ((spX0_placeOfDay p2) + (2 : Int32)) (0 : Int32)) ((spX0_placeOfDay p2) + (3 : Int32)) (0 : Int32)) ((spX0_placeOfDay p2) + (1 : Int32))))) (wr := []) ⟨hx, hb, hml, hown, hts⟩ k_self (c_X0_addOne l D aB ab cA (spX0_put (spX0_put (spX0_put (spX0_put bw (spX0_placeOfDay p2) p2) ((spX0_placeOfDay p2) + (1 : Int32)) (0 : Int32)) ((spX0_placeOfDay p2) + (2 : Int32)) (0 : Int32)) ((spX0_placeOfDay p2) + (3 : Int32)) (0 : Int32)) ((spX0_placeOfDay p2) + (1 : Int32))) kv_X0_52 hP hD hS hA hK rfl rfl [0, 1] [] [0, 1] rfl (by decide) rfl (by decide) (by decide) rfl (by decide) rfl rfl ⟨Nat.le_of_ble_eq_true rfl, Nat.le_of_ble_eq_true rfl⟩ rfl hl.1 rfl (Nat.le_of_ble_eq_true rfl) dX0_addToDay_66 ⟨Nat.zero_le _, Nat.zero_le _⟩ (fun H locs hP hD hS => ?_)
      refine lv_aload_n hx hb dX0_addToDay_69 rfl (lv_at hl 1 rfl) ?_
      refine lv_iload_n hx hb dX0_addToDay_70 rfl (lv_at hl 0 rfl) ?_
      refine lv_iconst (v := 2) hx hb dX0_addToDay_71 (by decide) ?_
      refine lv_iadd hx hb dX0_addToDay_72 ?_
      refine lv_iload_n hx hb dX0_addToDay_73 rfl (lv_at hl 2 rfl) ?_
      refine k_wrVv (As := [.int ((spX0_placeOfDay p2) + (2 : Int32)), .int p1]) (rest := []) (ci := 0) (q0 := 0) (ws' := (wB aB ab cA (spX0_addToSum (spX0_addOne (spX0_put (spX0_put (spX0_put (spX0_put bw (spX0_placeOfDay p2) p2) ((spX0_placeOfDay p2) + (1 : Int32)) (0 : Int32)) ((spX0_placeOfDay p2) + (2 : Int32)) (0 : Int32)) ((spX0_placeOfDay p2) + (3 : Int32)) (0 : Int32)) ((spX0_placeOfDay p2) + (1 : Int32))) ((spX0_placeOfDay p2) + (2 : Int32)) p1))) (wr := []) ⟨hx, hb, hml, hown, hts⟩ k_self (c_X0_addToSum l D aB ab cA (spX0_addOne (spX0_put (spX0_put (spX0_put (spX0_put bw (spX0_placeOfDay p2) p2) ((spX0_placeOfDay p2) + (1 : Int32)) (0 : Int32)) ((spX0_placeOfDay p2) + (2 : Int32)) (0 : Int32)) ((spX0_placeOfDay p2) + (3 : Int32)) (0 : Int32)) ((spX0_placeOfDay p2) + (1 : Int32))) ((spX0_placeOfDay p2) + (2 : Int32)) p1) kv_X0_49 hP hD hS hA hK rfl rfl [0, 1] [] [0, 1] rfl (by decide) rfl (by decide) (by decide) rfl (by decide) rfl rfl ⟨Nat.le_of_ble_eq_true rfl, Nat.le_of_ble_eq_true rfl⟩ rfl hl.1 rfl (Nat.le_of_ble_eq_true rfl) dX0_addToDay_74 ⟨Nat.zero_le _, Nat.zero_le _⟩ (fun H locs hP hD hS => ?_)
      have hE : spX0_addToDay bw p1 p2 = (spX0_addToSum (spX0_addOne (spX0_put (spX0_put (spX0_put (spX0_put bw (spX0_placeOfDay p2) p2) ((spX0_placeOfDay p2) + (1 : Int32)) (0 : Int32)) ((spX0_placeOfDay p2) + (2 : Int32)) (0 : Int32)) ((spX0_placeOfDay p2) + (3 : Int32)) (0 : Int32)) ((spX0_placeOfDay p2) + (1 : Int32))) ((spX0_placeOfDay p2) + (2 : Int32)) p1) := by unfold spX0_addToDay; rw [if_pos c_11, if_pos c_59]
      exact W.vret hx hb hr (fun t ht hW => ⟨⟨(), rfl, trivial, by rw [hE, ht]; exact hP, va_K.moved hW.alike hK, by rw [hE]; exact hD⟩, hS.F ht⟩) hS.2.2 dX0_addToDay_77
  · refine lv_aload_n hx hb dX0_addToDay_14 rfl (lv_at hl 1 rfl) ?_
    refine lv_iload_n hx hb dX0_addToDay_15 rfl (lv_at hl 0 rfl) ?_
    refine k_rdVi (As := [.int (spX0_placeOfDay p2)]) (rest := []) (ci := 0) (q0 := 0) ⟨hx, hb, hml, hown, hts⟩ k_self (c_X0_at l D aB ab cA bw (spX0_placeOfDay p2)) kv_X0_17 (hP.sub [0, 1] rfl) (hK.sub [0] rfl) rfl rfl rfl rfl ⟨Nat.le_of_ble_eq_true rfl, Nat.le_of_ble_eq_true rfl⟩ rfl hl.1 rfl (Nat.le_of_ble_eq_true rfl) dX0_addToDay_16 ⟨Nat.zero_le _, Nat.zero_le _⟩ ?_
    refine lv_iload_n hx hb dX0_addToDay_19 rfl (lv_at hl 3 rfl) ?_
    refine lv_icmp_ge (tgt := 53) hx hb dX0_addToDay_20 (by decide) (fun c_20 => ?_) (fun c_20 => ?_)
    · refine lv_aload_n hx hb dX0_addToDay_53 rfl (lv_at hl 1 rfl) ?_
      refine lv_iload_n hx hb dX0_addToDay_54 rfl (lv_at hl 0 rfl) ?_
      refine k_rdVi (As := [.int (spX0_placeOfDay p2)]) (rest := []) (ci := 0) (q0 := 0) ⟨hx, hb, hml, hown, hts⟩ k_self (c_X0_at l D aB ab cA bw (spX0_placeOfDay p2)) kv_X0_17 (hP.sub [0, 1] rfl) (hK.sub [0] rfl) rfl rfl rfl rfl ⟨Nat.le_of_ble_eq_true rfl, Nat.le_of_ble_eq_true rfl⟩ rfl hl.1 rfl (Nat.le_of_ble_eq_true rfl) dX0_addToDay_55 ⟨Nat.zero_le _, Nat.zero_le _⟩ ?_
      refine lv_iload_n hx hb dX0_addToDay_58 rfl (lv_at hl 3 rfl) ?_
      refine lv_icmp_ne (tgt := 77) hx hb dX0_addToDay_59 (by decide) (fun c_59 => ?_) (fun c_59 => ?_)
      · have hE : spX0_addToDay bw p1 p2 = bw := by unfold spX0_addToDay; rw [if_neg c_11, if_pos c_20, if_neg c_59]
        exact W.vret hx hb hr (fun t ht hW => ⟨⟨(), rfl, trivial, by rw [hE, ht]; exact hP, va_K.moved hW.alike hK, by rw [hE]; exact hD⟩, hS.F ht⟩) hS.2.2 dX0_addToDay_77
      · refine lv_aload_n hx hb dX0_addToDay_62 rfl (lv_at hl 1 rfl) ?_
        refine lv_iload_n hx hb dX0_addToDay_63 rfl (lv_at hl 0 rfl) ?_
        refine lv_iconst (v := 1) hx hb dX0_addToDay_64 (by decide) ?_
        refine lv_iadd hx hb dX0_addToDay_65 ?_
        refine k_wrVv (As := [.int ((spX0_placeOfDay p2) + (1 : Int32))]) (rest := []) (ci := 0) (q0 := 0) (ws' := (wB aB ab cA (spX0_addOne bw ((spX0_placeOfDay p2) + (1 : Int32))))) (wr := []) ⟨hx, hb, hml, hown, hts⟩ k_self (c_X0_addOne l D aB ab cA bw ((spX0_placeOfDay p2) + (1 : Int32))) kv_X0_52 hP hD hS hA hK rfl rfl [0, 1] [] [0, 1] rfl (by decide) rfl (by decide) (by decide) rfl (by decide) rfl rfl ⟨Nat.le_of_ble_eq_true rfl, Nat.le_of_ble_eq_true rfl⟩ rfl hl.1 rfl (Nat.le_of_ble_eq_true rfl) dX0_addToDay_66 ⟨Nat.zero_le _, Nat.zero_le _⟩ (fun H locs hP hD hS => ?_)
        refine lv_aload_n hx hb dX0_addToDay_69 rfl (lv_at hl 1 rfl) ?_
        refine lv_iload_n hx hb dX0_addToDay_70 rfl (lv_at hl 0 rfl) ?_
        refine lv_iconst (v := 2) hx hb dX0_addToDay_71 (by decide) ?_
        refine lv_iadd hx hb dX0_addToDay_72 ?_
        refine lv_iload_n hx hb dX0_addToDay_73 rfl (lv_at hl 2 rfl) ?_
        refine k_wrVv (As := [.int ((spX0_placeOfDay p2) + (2 : Int32)), .int p1]) (rest := []) (ci := 0) (q0 := 0) (ws' := (wB aB ab cA (spX0_addToSum (spX0_addOne bw ((spX0_placeOfDay p2) + (1 : Int32))) ((spX0_placeOfDay p2) + (2 : Int32)) p1))) (wr := []) ⟨hx, hb, hml, hown, hts⟩ k_self (c_X0_addToSum l D aB ab cA (spX0_addOne bw ((spX0_placeOfDay p2) + (1 : Int32))) ((spX0_placeOfDay p2) + (2 : Int32)) p1) kv_X0_49 hP hD hS hA hK rfl rfl [0, 1] [] [0, 1] rfl (by decide) rfl (by decide) (by decide) rfl (by decide) rfl rfl ⟨Nat.le_of_ble_eq_true rfl, Nat.le_of_ble_eq_true rfl⟩ rfl hl.1 rfl (Nat.le_of_ble_eq_true rfl) dX0_addToDay_74 ⟨Nat.zero_le _, Nat.zero_le _⟩ (fun H locs hP hD hS => ?_)
        have hE : spX0_addToDay bw p1 p2 = (spX0_addToSum (spX0_addOne bw ((spX0_placeOfDay p2) + (1 : Int32))) ((spX0_placeOfDay p2) + (2 : Int32)) p1) := by unfold spX0_addToDay; rw [if_neg c_11, if_pos c_20, if_pos c_59]
        exact W.vret hx hb hr (fun t ht hW => ⟨⟨(), rfl, trivial, by rw [hE, ht]; exact hP, va_K.moved hW.alike hK, by rw [hE]; exact hD⟩, hS.F ht⟩) hS.2.2 dX0_addToDay_77
    · refine lv_aload_n hx hb dX0_addToDay_23 rfl (lv_at hl 1 rfl) ?_
      refine lv_iload_n hx hb dX0_addToDay_24 rfl (lv_at hl 0 rfl) ?_
      refine lv_iload_n hx hb dX0_addToDay_25 rfl (lv_at hl 3 rfl) ?_
      refine k_wrVv (As := [.int (spX0_placeOfDay p2), .int p2]) (rest := []) (ci := 0) (q0 := 0) (ws' := (wB aB ab cA (spX0_put bw (spX0_placeOfDay p2) p2))) (wr := []) ⟨hx, hb, hml, hown, hts⟩ k_self (c_X0_put l D aB ab cA bw (spX0_placeOfDay p2) p2) kv_X0_13 hP hD hS hA hK rfl rfl [0, 1] [] [0, 1] rfl (by decide) rfl (by decide) (by decide) rfl (by decide) rfl rfl ⟨Nat.le_of_ble_eq_true rfl, Nat.le_of_ble_eq_true rfl⟩ rfl hl.1 rfl (Nat.le_of_ble_eq_true rfl) dX0_addToDay_26 ⟨Nat.zero_le _, Nat.zero_le _⟩ (fun H locs hP hD hS => ?_)
      refine lv_aload_n hx hb dX0_addToDay_29 rfl (lv_at hl 1 rfl) ?_
      refine lv_iload_n hx hb dX0_addToDay_30 rfl (lv_at hl 0 rfl) ?_
      refine lv_iconst (v := 1) hx hb dX0_addToDay_31 (by decide) ?_
      refine lv_iadd hx hb dX0_addToDay_32 ?_
      refine lv_iconst (v := 0) hx hb dX0_addToDay_33 (by decide) ?_
      refine k_wrVv (As := [.int ((spX0_placeOfDay p2) + (1 : Int32)), .int (0 : Int32)]) (rest := []) (ci := 0) (q0 := 0) (ws' := (wB aB ab cA (spX0_put (spX0_put bw (spX0_placeOfDay p2) p2) ((spX0_placeOfDay p2) + (1 : Int32)) (0 : Int32)))) (wr := []) ⟨hx, hb, hml, hown, hts⟩ k_self (c_X0_put l D aB ab cA (spX0_put bw (spX0_placeOfDay p2) p2) ((spX0_placeOfDay p2) + (1 : Int32)) (0 : Int32)) kv_X0_13 hP hD hS hA hK rfl rfl [0, 1] [] [0, 1] rfl (by decide) rfl (by decide) (by decide) rfl (by decide) rfl rfl ⟨Nat.le_of_ble_eq_true rfl, Nat.le_of_ble_eq_true rfl⟩ rfl hl.1 rfl (Nat.le_of_ble_eq_true rfl) dX0_addToDay_34 ⟨Nat.zero_le _, Nat.zero_le _⟩ (fun H locs hP hD hS => ?_)
      refine lv_aload_n hx hb dX0_addToDay_37 rfl (lv_at hl 1 rfl) ?_
      refine lv_iload_n hx hb dX0_addToDay_38 rfl (lv_at hl 0 rfl) ?_
      refine lv_iconst (v := 2) hx hb dX0_addToDay_39 (by decide) ?_
      refine lv_iadd hx hb dX0_addToDay_40 ?_
      refine lv_iconst (v := 0) hx hb dX0_addToDay_41 (by decide) ?_
      refine k_wrVv (As := [.int ((spX0_placeOfDay p2) + (2 : Int32)), .int (0 : Int32)]) (rest := []) (ci := 0) (q0 := 0) (ws' := (wB aB ab cA (spX0_put (spX0_put (spX0_put bw (spX0_placeOfDay p2) p2) ((spX0_placeOfDay p2) + (1 : Int32)) (0 : Int32)) ((spX0_placeOfDay p2) + (2 : Int32)) (0 : Int32)))) (wr := []) ⟨hx, hb, hml, hown, hts⟩ k_self (c_X0_put l D aB ab cA (spX0_put (spX0_put bw (spX0_placeOfDay p2) p2) ((spX0_placeOfDay p2) + (1 : Int32)) (0 : Int32)) ((spX0_placeOfDay p2) + (2 : Int32)) (0 : Int32)) kv_X0_13 hP hD hS hA hK rfl rfl [0, 1] [] [0, 1] rfl (by decide) rfl (by decide) (by decide) rfl (by decide) rfl rfl ⟨Nat.le_of_ble_eq_true rfl, Nat.le_of_ble_eq_true rfl⟩ rfl hl.1 rfl (Nat.le_of_ble_eq_true rfl) dX0_addToDay_42 ⟨Nat.zero_le _, Nat.zero_le _⟩ (fun H locs hP hD hS => ?_)
      refine lv_aload_n hx hb dX0_addToDay_45 rfl (lv_at hl 1 rfl) ?_
      refine lv_iload_n hx hb dX0_addToDay_46 rfl (lv_at hl 0 rfl) ?_
      refine lv_iconst (v := 3) hx hb dX0_addToDay_47 (by decide) ?_
      refine lv_iadd hx hb dX0_addToDay_48 ?_
      refine lv_iconst (v := 0) hx hb dX0_addToDay_49 (by decide) ?_
      refine k_wrVv (As := [.int ((spX0_placeOfDay p2) + (3 : Int32)), .int (0 : Int32)]) (rest := []) (ci := 0) (q0 := 0) (ws' := (wB aB ab cA (spX0_put (spX0_put (spX0_put (spX0_put bw (spX0_placeOfDay p2) p2) ((spX0_placeOfDay p2) + (1 : Int32)) (0 : Int32)) ((spX0_placeOfDay p2) + (2 : Int32)) (0 : Int32)) ((spX0_placeOfDay p2) + (3 : Int32)) (0 : Int32)))) (wr := []) ⟨hx, hb, hml, hown, hts⟩ k_self (c_X0_put l D aB ab cA (spX0_put (spX0_put (spX0_put bw (spX0_placeOfDay p2) p2) ((spX0_placeOfDay p2) + (1 : Int32)) (0 : Int32)) ((spX0_placeOfDay p2) + (2 : Int32)) (0 : Int32)) ((spX0_placeOfDay p2) + (3 : Int32)) (0 : Int32)) kv_X0_13 hP hD hS hA hK rfl rfl [0, 1] [] [0, 1] rfl (by decide) rfl (by decide) (by decide) rfl (by decide) rfl rfl ⟨Nat.le_of_ble_eq_true rfl, Nat.le_of_ble_eq_true rfl⟩ rfl hl.1 rfl (Nat.le_of_ble_eq_true rfl) dX0_addToDay_50 ⟨Nat.zero_le _, Nat.zero_le _⟩ (fun H locs hP hD hS => ?_)
      refine lv_aload_n hx hb dX0_addToDay_53 rfl (lv_at hl 1 rfl) ?_
      refine lv_iload_n hx hb dX0_addToDay_54 rfl (lv_at hl 0 rfl) ?_
      refine k_rdVi (As := [.int (spX0_placeOfDay p2)]) (rest := []) (ci := 0) (q0 := 0) ⟨hx, hb, hml, hown, hts⟩ k_self (c_X0_at l D aB ab cA (spX0_put (spX0_put (spX0_put (spX0_put bw (spX0_placeOfDay p2) p2) ((spX0_placeOfDay p2) + (1 : Int32)) (0 : Int32)) ((spX0_placeOfDay p2) + (2 : Int32)) (0 : Int32)) ((spX0_placeOfDay p2) + (3 : Int32)) (0 : Int32)) (spX0_placeOfDay p2)) kv_X0_17 (hP.sub [0, 1] rfl) (hK.sub [0] rfl) rfl rfl rfl rfl ⟨Nat.le_of_ble_eq_true rfl, Nat.le_of_ble_eq_true rfl⟩ rfl hl.1 rfl (Nat.le_of_ble_eq_true rfl) dX0_addToDay_55 ⟨Nat.zero_le _, Nat.zero_le _⟩ ?_
      refine lv_iload_n hx hb dX0_addToDay_58 rfl (lv_at hl 3 rfl) ?_
      refine lv_icmp_ne (tgt := 77) hx hb dX0_addToDay_59 (by decide) (fun c_59 => ?_) (fun c_59 => ?_)
      · have hE : spX0_addToDay bw p1 p2 = (spX0_put (spX0_put (spX0_put (spX0_put bw (spX0_placeOfDay p2) p2) ((spX0_placeOfDay p2) + (1 : Int32)) (0 : Int32)) ((spX0_placeOfDay p2) + (2 : Int32)) (0 : Int32)) ((spX0_placeOfDay p2) + (3 : Int32)) (0 : Int32)) := by unfold spX0_addToDay; rw [if_neg c_11, if_neg c_20, if_neg c_59]
        exact W.vret hx hb hr (fun t ht hW => ⟨⟨(), rfl, trivial, by rw [hE, ht]; exact hP, va_K.moved hW.alike hK, by rw [hE]; exact hD⟩, hS.F ht⟩) hS.2.2 dX0_addToDay_77
      · refine lv_aload_n hx hb dX0_addToDay_62 rfl (lv_at hl 1 rfl) ?_
        refine lv_iload_n hx hb dX0_addToDay_63 rfl (lv_at hl 0 rfl) ?_
        refine lv_iconst (v := 1) hx hb dX0_addToDay_64 (by decide) ?_
        refine lv_iadd hx hb dX0_addToDay_65 ?_
        refine k_wrVv (As := [.int ((spX0_placeOfDay p2) + (1 : Int32))]) (rest := []) (ci := 0) (q0 := 0) (ws' := (wB aB ab cA (spX0_addOne (spX0_put (spX0_put (spX0_put (spX0_put bw (spX0_placeOfDay p2) p2) ((spX0_placeOfDay p2) + (1 : Int32)) (0 : Int32)) ((spX0_placeOfDay p2) + (2 : Int32)) (0 : Int32)) ((spX0_placeOfDay p2) + (3 : Int32)) (0 : Int32)) ((spX0_placeOfDay p2) + (1 : Int32))))) (wr := []) ⟨hx, hb, hml, hown, hts⟩ k_self (c_X0_addOne l D aB ab cA (spX0_put (spX0_put (spX0_put (spX0_put bw (spX0_placeOfDay p2) p2) ((spX0_placeOfDay p2) + (1 : Int32)) (0 : Int32)) ((spX0_placeOfDay p2) + (2 : Int32)) (0 : Int32)) ((spX0_placeOfDay p2) + (3 : Int32)) (0 : Int32)) ((spX0_placeOfDay p2) + (1 : Int32))) kv_X0_52 hP hD hS hA hK rfl rfl [0, 1] [] [0, 1] rfl (by decide) rfl (by decide) (by decide) rfl (by decide) rfl rfl ⟨Nat.le_of_ble_eq_true rfl, Nat.le_of_ble_eq_true rfl⟩ rfl hl.1 rfl (Nat.le_of_ble_eq_true rfl) dX0_addToDay_66 ⟨Nat.zero_le _, Nat.zero_le _⟩ (fun H locs hP hD hS => ?_)
        refine lv_aload_n hx hb dX0_addToDay_69 rfl (lv_at hl 1 rfl) ?_
        refine lv_iload_n hx hb dX0_addToDay_70 rfl (lv_at hl 0 rfl) ?_
        refine lv_iconst (v := 2) hx hb dX0_addToDay_71 (by decide) ?_
        refine lv_iadd hx hb dX0_addToDay_72 ?_
        refine lv_iload_n hx hb dX0_addToDay_73 rfl (lv_at hl 2 rfl) ?_
        refine k_wrVv (As := [.int ((spX0_placeOfDay p2) + (2 : Int32)), .int p1]) (rest := []) (ci := 0) (q0 := 0) (ws' := (wB aB ab cA (spX0_addToSum (spX0_addOne (spX0_put (spX0_put (spX0_put (spX0_put bw (spX0_placeOfDay p2) p2) ((spX0_placeOfDay p2) + (1 : Int32)) (0 : Int32)) ((spX0_placeOfDay p2) + (2 : Int32)) (0 : Int32)) ((spX0_placeOfDay p2) + (3 : Int32)) (0 : Int32)) ((spX0_placeOfDay p2) + (1 : Int32))) ((spX0_placeOfDay p2) + (2 : Int32)) p1))) (wr := []) ⟨hx, hb, hml, hown, hts⟩ k_self (c_X0_addToSum l D aB ab cA (spX0_addOne (spX0_put (spX0_put (spX0_put (spX0_put bw (spX0_placeOfDay p2) p2) ((spX0_placeOfDay p2) + (1 : Int32)) (0 : Int32)) ((spX0_placeOfDay p2) + (2 : Int32)) (0 : Int32)) ((spX0_placeOfDay p2) + (3 : Int32)) (0 : Int32)) ((spX0_placeOfDay p2) + (1 : Int32))) ((spX0_placeOfDay p2) + (2 : Int32)) p1) kv_X0_49 hP hD hS hA hK rfl rfl [0, 1] [] [0, 1] rfl (by decide) rfl (by decide) (by decide) rfl (by decide) rfl rfl ⟨Nat.le_of_ble_eq_true rfl, Nat.le_of_ble_eq_true rfl⟩ rfl hl.1 rfl (Nat.le_of_ble_eq_true rfl) dX0_addToDay_74 ⟨Nat.zero_le _, Nat.zero_le _⟩ (fun H locs hP hD hS => ?_)
        have hE : spX0_addToDay bw p1 p2 = (spX0_addToSum (spX0_addOne (spX0_put (spX0_put (spX0_put (spX0_put bw (spX0_placeOfDay p2) p2) ((spX0_placeOfDay p2) + (1 : Int32)) (0 : Int32)) ((spX0_placeOfDay p2) + (2 : Int32)) (0 : Int32)) ((spX0_placeOfDay p2) + (3 : Int32)) (0 : Int32)) ((spX0_placeOfDay p2) + (1 : Int32))) ((spX0_placeOfDay p2) + (2 : Int32)) p1) := by unfold spX0_addToDay; rw [if_neg c_11, if_neg c_20, if_pos c_59]
        exact W.vret hx hb hr (fun t ht hW => ⟨⟨(), rfl, trivial, by rw [hE, ht]; exact hP, va_K.moved hW.alike hK, by rw [hE]; exact hD⟩, hS.F ht⟩) hS.2.2 dX0_addToDay_77
def spX0_settleFor (bw : Nat → Int32) (p1 : Int32) : (Nat → Int32) := (if p1 = 0 then (spX0_put (spX0_addToSum (spX0_addToSum bw (2 : Int32) (spX0_at bw (14 : Int32))) (6 : Int32) (spX0_at (spX0_addToSum bw (2 : Int32) (spX0_at bw (14 : Int32))) (14 : Int32))) (14 : Int32) (0 : Int32)) else (spX0_put bw (14 : Int32) (0 : Int32)))
set_option maxHeartbeats 4000000 in
set_option maxRecDepth 100000 in
theorem c_X0_settleFor (l : Launch) (D : va_G) (aB ab : Nat) (cA : ClassId) (bw : Nat → Int32) (p1 : Int32)  : kWv l yX0_settleFor cX0_settleFor 2 none { frames := 3, cells := 0, slots := 0, locals := 66 } D [(cA, .int)] [.ref aB, .int p1] (wB aB ab cA bw) (wB aB ab cA (spX0_settleFor bw p1)) := by
  intro sz
  refine Met.ofW (cc := cX0_settleFor) (maxL := 2) (ret := none) (by decide) rfl ?_
  intro p e s m args below meth c s₁ B hml hv
  obtain ⟨rfl, hsz, hP, hK, hD0⟩ := hv
  have hx := B.exec
  have hb := B.bytes
  have hr := B.returns
  have hts : ∀ w ∈ kG, w.before _ s = true := fun w h => atoms_spec (ws := kT yX0_settleFor cX0_settleFor 2 none) B.pre w (List.mem_cons_of_mem _ h)
  have hown : s.vm.findClass RX0 = some m.cls := findClass_of_methodNamed B.named
  have hlocks := B.notSynchronized
  subst hsz
  have hD := hD0.self (sz := s.heap.size)
  generalize hAe : va_A (wB aB ab cA bw) s.heap.size = A at hD ⊢
  have hA : ∀ q : Nat, s.heap.size ≤ q → A q := fun q h => by rw [← hAe]; exact Or.inr h
  have hS : va_S A s.heap s.heap [] := va_S.rf
  have hl := lv_entry ([.ref aB, .int p1]) (n := 2) (Nat.le_of_ble_eq_true rfl)
  rw [lg_entry_eq]
  generalize (lg_sl ([.ref aB, .int p1]) ++ List.replicate (2 - (lg_sl ([.ref aB, .int p1])).length) Slot.unset).toArray = ls at hl ⊢
  have hl : lv_has ls 2 [(0, .ref aB), (1, .int p1)] := hl
  refine lv_iload_n hx hb dX0_settleFor_0 rfl (lv_at hl 1 rfl) ?_
  refine lv_if_ne (tgt := 27) hx hb dX0_settleFor_1 (by decide) (fun c_1 => ?_) (fun c_1 => ?_)
  · refine lv_aload_n hx hb dX0_settleFor_27 rfl (lv_at hl 0 rfl) ?_
    refine lv_bipush (v := 14) hx hb dX0_settleFor_28 (by decide) ?_
    refine lv_iconst (v := 0) hx hb dX0_settleFor_30 (by decide) ?_
    refine k_wrVv (As := [.int (14 : Int32), .int (0 : Int32)]) (rest := []) (ci := 0) (q0 := 0) (ws' := (wB aB ab cA (spX0_put bw (14 : Int32) (0 : Int32)))) (wr := []) ⟨hx, hb, hml, hown, hts⟩ k_self (c_X0_put l D aB ab cA bw (14 : Int32) (0 : Int32)) kv_X0_13 hP hD hS hA hK rfl rfl [0, 1] [] [0, 1] rfl (by decide) rfl (by decide) (by decide) rfl (by decide) rfl rfl ⟨Nat.le_of_ble_eq_true rfl, Nat.le_of_ble_eq_true rfl⟩ rfl hl.1 rfl (Nat.le_of_ble_eq_true rfl) dX0_settleFor_31 ⟨Nat.zero_le _, Nat.zero_le _⟩ (fun H locs hP hD hS => ?_)
    have hE : spX0_settleFor bw p1 = (spX0_put bw (14 : Int32) (0 : Int32)) := by unfold spX0_settleFor; rw [if_neg c_1]
    exact W.vret hx hb hr (fun t ht hW => ⟨⟨(), rfl, trivial, by rw [hE, ht]; exact hP, va_K.moved hW.alike hK, by rw [hE]; exact hD⟩, hS.F ht⟩) hS.2.2 dX0_settleFor_34
  · refine lv_aload_n hx hb dX0_settleFor_4 rfl (lv_at hl 0 rfl) ?_
    refine lv_iconst (v := 2) hx hb dX0_settleFor_5 (by decide) ?_
    refine lv_aload_n hx hb dX0_settleFor_6 rfl (lv_at hl 0 rfl) ?_
    refine lv_bipush (v := 14) hx hb dX0_settleFor_7 (by decide) ?_
    refine k_rdVi (As := [.int (14 : Int32)]) (rest := [.int (2 : Int32), .ref aB]) (ci := 0) (q0 := 0) ⟨hx, hb, hml, hown, hts⟩ k_self (c_X0_at l D aB ab cA bw (14 : Int32)) kv_X0_17 (hP.sub [0, 1] rfl) (hK.sub [0] rfl) rfl rfl rfl rfl ⟨Nat.le_of_ble_eq_true rfl, Nat.le_of_ble_eq_true rfl⟩ rfl hl.1 rfl (Nat.le_of_ble_eq_true rfl) dX0_settleFor_9 ⟨Nat.zero_le _, Nat.zero_le _⟩ ?_
    refine k_wrVv (As := [.int (2 : Int32), .int (spX0_at bw (14 : Int32))]) (rest := []) (ci := 0) (q0 := 0) (ws' := (wB aB ab cA (spX0_addToSum bw (2 : Int32) (spX0_at bw (14 : Int32))))) (wr := []) ⟨hx, hb, hml, hown, hts⟩ k_self (c_X0_addToSum l D aB ab cA bw (2 : Int32) (spX0_at bw (14 : Int32))) kv_X0_49 hP hD hS hA hK rfl rfl [0, 1] [] [0, 1] rfl (by decide) rfl (by decide) (by decide) rfl (by decide) rfl rfl ⟨Nat.le_of_ble_eq_true rfl, Nat.le_of_ble_eq_true rfl⟩ rfl hl.1 rfl (Nat.le_of_ble_eq_true rfl) dX0_settleFor_12 ⟨Nat.zero_le _, Nat.zero_le _⟩ (fun H locs hP hD hS => ?_)
    refine lv_aload_n hx hb dX0_settleFor_15 rfl (lv_at hl 0 rfl) ?_
    refine lv_bipush (v := 6) hx hb dX0_settleFor_16 (by decide) ?_
    refine lv_aload_n hx hb dX0_settleFor_18 rfl (lv_at hl 0 rfl) ?_
    refine lv_bipush (v := 14) hx hb dX0_settleFor_19 (by decide) ?_
    refine k_rdVi (As := [.int (14 : Int32)]) (rest := [.int (6 : Int32), .ref aB]) (ci := 0) (q0 := 0) ⟨hx, hb, hml, hown, hts⟩ k_self (c_X0_at l D aB ab cA (spX0_addToSum bw (2 : Int32) (spX0_at bw (14 : Int32))) (14 : Int32)) kv_X0_17 (hP.sub [0, 1] rfl) (hK.sub [0] rfl) rfl rfl rfl rfl ⟨Nat.le_of_ble_eq_true rfl, Nat.le_of_ble_eq_true rfl⟩ rfl hl.1 rfl (Nat.le_of_ble_eq_true rfl) dX0_settleFor_21 ⟨Nat.zero_le _, Nat.zero_le _⟩ ?_
    refine k_wrVv (As := [.int (6 : Int32), .int (spX0_at (spX0_addToSum bw (2 : Int32) (spX0_at bw (14 : Int32))) (14 : Int32))]) (rest := []) (ci := 0) (q0 := 0) (ws' := (wB aB ab cA (spX0_addToSum (spX0_addToSum bw (2 : Int32) (spX0_at bw (14 : Int32))) (6 : Int32) (spX0_at (spX0_addToSum bw (2 : Int32) (spX0_at bw (14 : Int32))) (14 : Int32))))) (wr := []) ⟨hx, hb, hml, hown, hts⟩ k_self (c_X0_addToSum l D aB ab cA (spX0_addToSum bw (2 : Int32) (spX0_at bw (14 : Int32))) (6 : Int32) (spX0_at (spX0_addToSum bw (2 : Int32) (spX0_at bw (14 : Int32))) (14 : Int32))) kv_X0_49 hP hD hS hA hK rfl rfl [0, 1] [] [0, 1] rfl (by decide) rfl (by decide) (by decide) rfl (by decide) rfl rfl ⟨Nat.le_of_ble_eq_true rfl, Nat.le_of_ble_eq_true rfl⟩ rfl hl.1 rfl (Nat.le_of_ble_eq_true rfl) dX0_settleFor_24 ⟨Nat.zero_le _, Nat.zero_le _⟩ (fun H locs hP hD hS => ?_)
    refine lv_aload_n hx hb dX0_settleFor_27 rfl (lv_at hl 0 rfl) ?_
    refine lv_bipush (v := 14) hx hb dX0_settleFor_28 (by decide) ?_
    refine lv_iconst (v := 0) hx hb dX0_settleFor_30 (by decide) ?_
    refine k_wrVv (As := [.int (14 : Int32), .int (0 : Int32)]) (rest := []) (ci := 0) (q0 := 0) (ws' := (wB aB ab cA (spX0_put (spX0_addToSum (spX0_addToSum bw (2 : Int32) (spX0_at bw (14 : Int32))) (6 : Int32) (spX0_at (spX0_addToSum bw (2 : Int32) (spX0_at bw (14 : Int32))) (14 : Int32))) (14 : Int32) (0 : Int32)))) (wr := []) ⟨hx, hb, hml, hown, hts⟩ k_self (c_X0_put l D aB ab cA (spX0_addToSum (spX0_addToSum bw (2 : Int32) (spX0_at bw (14 : Int32))) (6 : Int32) (spX0_at (spX0_addToSum bw (2 : Int32) (spX0_at bw (14 : Int32))) (14 : Int32))) (14 : Int32) (0 : Int32)) kv_X0_13 hP hD hS hA hK rfl rfl [0, 1] [] [0, 1] rfl (by decide) rfl (by decide) (by decide) rfl (by decide) rfl rfl ⟨Nat.le_of_ble_eq_true rfl, Nat.le_of_ble_eq_true rfl⟩ rfl hl.1 rfl (Nat.le_of_ble_eq_true rfl) dX0_settleFor_31 ⟨Nat.zero_le _, Nat.zero_le _⟩ (fun H locs hP hD hS => ?_)
    have hE : spX0_settleFor bw p1 = (spX0_put (spX0_addToSum (spX0_addToSum bw (2 : Int32) (spX0_at bw (14 : Int32))) (6 : Int32) (spX0_at (spX0_addToSum bw (2 : Int32) (spX0_at bw (14 : Int32))) (14 : Int32))) (14 : Int32) (0 : Int32)) := by unfold spX0_settleFor; rw [if_pos c_1]
    exact W.vret hx hb hr (fun t ht hW => ⟨⟨(), rfl, trivial, by rw [hE, ht]; exact hP, va_K.moved hW.alike hK, by rw [hE]; exact hD⟩, hS.F ht⟩) hS.2.2 dX0_settleFor_34
def spX0_apply (bw : Nat → Int32) (p1 : Int32) (p2 : Int32) (p3 : Int32) : (Nat → Int32) := (if p1 = 1 then (spX0_addToDay (spX0_addPiece bw p2 (p3 - p3 / (16 : Int32) * (16 : Int32))) p2 (p3 / (16 : Int32))) else (if p1 = 2 then (spX0_put bw (14 : Int32) (0 : Int32)) else (if p1 = 3 then (spX0_settleFor bw p2) else (if p1 = 4 then (spX0_addOne (spX0_addToSum (spX0_addToSum bw (2 : Int32) p2) (4 : Int32) p2) (10 : Int32)) else (if p1 = 5 then (spX0_addOne (spX0_addToSum (spX0_addToSum bw (2 : Int32) p2) (6 : Int32) p2) (9 : Int32)) else (if p1 = 6 then (spX0_put bw (12 : Int32) p2) else (if p1 = 7 then (spX0_put bw (11 : Int32) (1 : Int32)) else (if p1 = 8 then (spX0_put bw (11 : Int32) (0 : Int32)) else (if p1 = 9 then (spX0_put bw (13 : Int32) p2) else bw)))))))))
set_option maxHeartbeats 4000000 in
set_option maxRecDepth 100000 in
theorem c_X0_apply (l : Launch) (D : va_G) (aB ab : Nat) (cA : ClassId) (bw : Nat → Int32) (p1 : Int32) (p2 : Int32) (p3 : Int32)  : kWv l yX0_apply cX0_apply 4 none { frames := 4, cells := 0, slots := 0, locals := 89 } D [(cA, .int)] [.ref aB, .int p1, .int p2, .int p3] (wB aB ab cA bw) (wB aB ab cA (spX0_apply bw p1 p2 p3)) := by
  intro sz
  refine Met.ofW (cc := cX0_apply) (maxL := 4) (ret := none) (by decide) rfl ?_
  intro p e s m args below meth c s₁ B hml hv
  obtain ⟨rfl, hsz, hP, hK, hD0⟩ := hv
  have hx := B.exec
  have hb := B.bytes
  have hr := B.returns
  have hts : ∀ w ∈ kG, w.before _ s = true := fun w h => atoms_spec (ws := kT yX0_apply cX0_apply 4 none) B.pre w (List.mem_cons_of_mem _ h)
  have hown : s.vm.findClass RX0 = some m.cls := findClass_of_methodNamed B.named
  have hlocks := B.notSynchronized
  subst hsz
  have hD := hD0.self (sz := s.heap.size)
  generalize hAe : va_A (wB aB ab cA bw) s.heap.size = A at hD ⊢
  have hA : ∀ q : Nat, s.heap.size ≤ q → A q := fun q h => by rw [← hAe]; exact Or.inr h
  have hS : va_S A s.heap s.heap [] := va_S.rf
  have hl := lv_entry ([.ref aB, .int p1, .int p2, .int p3]) (n := 4) (Nat.le_of_ble_eq_true rfl)
  rw [lg_entry_eq]
  generalize (lg_sl ([.ref aB, .int p1, .int p2, .int p3]) ++ List.replicate (4 - (lg_sl ([.ref aB, .int p1, .int p2, .int p3])).length) Slot.unset).toArray = ls at hl ⊢
  have hl : lv_has ls 4 [(0, .ref aB), (1, .int p1), (2, .int p2), (3, .int p3)] := hl
  refine lv_iload_n hx hb dX0_apply_0 rfl (lv_at hl 1 rfl) ?_
  by_cases c_1_1 : p1 = 1
  · refine lv_tableIn (tgt := 52) hx hb dX0_apply_1 (by rw [c_1_1]; decide) (by rw [c_1_1]; decide) (by rw [c_1_1]; rfl) (by decide) ?_
    refine lv_aload_n hx hb dX0_apply_52 rfl (lv_at hl 0 rfl) ?_
    refine lv_iload_n hx hb dX0_apply_53 rfl (lv_at hl 2 rfl) ?_
    refine lv_iload_n hx hb dX0_apply_54 rfl (lv_at hl 3 rfl) ?_
    refine lv_bipush (v := 16) hx hb dX0_apply_55 (by decide) ?_
    refine lv_irem hx hb dX0_apply_57 (by decide) ?_
    refine k_wrVv (As := [.int p2, .int (p3 - p3 / (16 : Int32) * (16 : Int32))]) (rest := []) (ci := 0) (q0 := 0) (ws' := (wB aB ab cA (spX0_addPiece bw p2 (p3 - p3 / (16 : Int32) * (16 : Int32))))) (wr := []) ⟨hx, hb, hml, hown, hts⟩ k_self (c_X0_addPiece l D aB ab cA bw p2 (p3 - p3 / (16 : Int32) * (16 : Int32))) kv_X0_39 hP hD hS hA hK rfl rfl [0, 1] [] [0, 1] rfl (by decide) rfl (by decide) (by decide) rfl (by decide) rfl rfl ⟨Nat.le_of_ble_eq_true rfl, Nat.le_of_ble_eq_true rfl⟩ rfl hl.1 rfl (Nat.le_of_ble_eq_true rfl) dX0_apply_58 ⟨Nat.zero_le _, Nat.zero_le _⟩ (fun H locs hP hD hS => ?_)
    refine lv_aload_n hx hb dX0_apply_61 rfl (lv_at hl 0 rfl) ?_
    refine lv_iload_n hx hb dX0_apply_62 rfl (lv_at hl 2 rfl) ?_
    refine lv_iload_n hx hb dX0_apply_63 rfl (lv_at hl 3 rfl) ?_
    refine lv_bipush (v := 16) hx hb dX0_apply_64 (by decide) ?_
    refine lv_idiv hx hb dX0_apply_66 (by decide) ?_
    refine k_wrVv (As := [.int p2, .int (p3 / (16 : Int32))]) (rest := []) (ci := 0) (q0 := 0) (ws' := (wB aB ab cA (spX0_addToDay (spX0_addPiece bw p2 (p3 - p3 / (16 : Int32) * (16 : Int32))) p2 (p3 / (16 : Int32))))) (wr := []) ⟨hx, hb, hml, hown, hts⟩ k_self (c_X0_addToDay l D aB ab cA (spX0_addPiece bw p2 (p3 - p3 / (16 : Int32) * (16 : Int32))) p2 (p3 / (16 : Int32))) kv_X0_42 hP hD hS hA hK rfl rfl [0, 1] [] [0, 1] rfl (by decide) rfl (by decide) (by decide) rfl (by decide) rfl rfl ⟨Nat.le_of_ble_eq_true rfl, Nat.le_of_ble_eq_true rfl⟩ rfl hl.1 rfl (Nat.le_of_ble_eq_true rfl) dX0_apply_67 ⟨Nat.zero_le _, Nat.zero_le _⟩ (fun H locs hP hD hS => ?_)
    refine lv_goto (tgt := 174) hx hb dX0_apply_70 (by decide) ?_
    have hE : spX0_apply bw p1 p2 p3 = (spX0_addToDay (spX0_addPiece bw p2 (p3 - p3 / (16 : Int32) * (16 : Int32))) p2 (p3 / (16 : Int32))) := by unfold spX0_apply; rw [if_pos c_1_1]
    exact W.vret hx hb hr (fun t ht hW => ⟨⟨(), rfl, trivial, by rw [hE, ht]; exact hP, va_K.moved hW.alike hK, by rw [hE]; exact hD⟩, hS.F ht⟩) hS.2.2 dX0_apply_174
  by_cases c_1_2 : p1 = 2
  · refine lv_tableIn (tgt := 73) hx hb dX0_apply_1 (by rw [c_1_2]; decide) (by rw [c_1_2]; decide) (by rw [c_1_2]; rfl) (by decide) ?_
    refine lv_aload_n hx hb dX0_apply_73 rfl (lv_at hl 0 rfl) ?_
    refine lv_bipush (v := 14) hx hb dX0_apply_74 (by decide) ?_
    refine lv_iconst (v := 0) hx hb dX0_apply_76 (by decide) ?_
    refine k_wrVv (As := [.int (14 : Int32), .int (0 : Int32)]) (rest := []) (ci := 0) (q0 := 0) (ws' := (wB aB ab cA (spX0_put bw (14 : Int32) (0 : Int32)))) (wr := []) ⟨hx, hb, hml, hown, hts⟩ k_self (c_X0_put l D aB ab cA bw (14 : Int32) (0 : Int32)) kv_X0_13 hP hD hS hA hK rfl rfl [0, 1] [] [0, 1] rfl (by decide) rfl (by decide) (by decide) rfl (by decide) rfl rfl ⟨Nat.le_of_ble_eq_true rfl, Nat.le_of_ble_eq_true rfl⟩ rfl hl.1 rfl (Nat.le_of_ble_eq_true rfl) dX0_apply_77 ⟨Nat.zero_le _, Nat.zero_le _⟩ (fun H locs hP hD hS => ?_)
    refine lv_goto (tgt := 174) hx hb dX0_apply_80 (by decide) ?_
    have hE : spX0_apply bw p1 p2 p3 = (spX0_put bw (14 : Int32) (0 : Int32)) := by unfold spX0_apply; rw [if_neg c_1_1, if_pos c_1_2]
    exact W.vret hx hb hr (fun t ht hW => ⟨⟨(), rfl, trivial, by rw [hE, ht]; exact hP, va_K.moved hW.alike hK, by rw [hE]; exact hD⟩, hS.F ht⟩) hS.2.2 dX0_apply_174
  by_cases c_1_3 : p1 = 3
  · refine lv_tableIn (tgt := 83) hx hb dX0_apply_1 (by rw [c_1_3]; decide) (by rw [c_1_3]; decide) (by rw [c_1_3]; rfl) (by decide) ?_
    refine lv_aload_n hx hb dX0_apply_83 rfl (lv_at hl 0 rfl) ?_
    refine lv_iload_n hx hb dX0_apply_84 rfl (lv_at hl 2 rfl) ?_
    refine k_wrVv (As := [.int p2]) (rest := []) (ci := 0) (q0 := 0) (ws' := (wB aB ab cA (spX0_settleFor bw p2))) (wr := []) ⟨hx, hb, hml, hown, hts⟩ k_self (c_X0_settleFor l D aB ab cA bw p2) kv_X0_45 hP hD hS hA hK rfl rfl [0, 1] [] [0, 1] rfl (by decide) rfl (by decide) (by decide) rfl (by decide) rfl rfl ⟨Nat.le_of_ble_eq_true rfl, Nat.le_of_ble_eq_true rfl⟩ rfl hl.1 rfl (Nat.le_of_ble_eq_true rfl) dX0_apply_85 ⟨Nat.zero_le _, Nat.zero_le _⟩ (fun H locs hP hD hS => ?_)
    refine lv_goto (tgt := 174) hx hb dX0_apply_88 (by decide) ?_
    have hE : spX0_apply bw p1 p2 p3 = (spX0_settleFor bw p2) := by unfold spX0_apply; rw [if_neg c_1_1, if_neg c_1_2, if_pos c_1_3]
    exact W.vret hx hb hr (fun t ht hW => ⟨⟨(), rfl, trivial, by rw [hE, ht]; exact hP, va_K.moved hW.alike hK, by rw [hE]; exact hD⟩, hS.F ht⟩) hS.2.2 dX0_apply_174
  by_cases c_1_4 : p1 = 4
  · refine lv_tableIn (tgt := 91) hx hb dX0_apply_1 (by rw [c_1_4]; decide) (by rw [c_1_4]; decide) (by rw [c_1_4]; rfl) (by decide) ?_
    refine lv_aload_n hx hb dX0_apply_91 rfl (lv_at hl 0 rfl) ?_
    refine lv_iconst (v := 2) hx hb dX0_apply_92 (by decide) ?_
    refine lv_iload_n hx hb dX0_apply_93 rfl (lv_at hl 2 rfl) ?_
    refine k_wrVv (As := [.int (2 : Int32), .int p2]) (rest := []) (ci := 0) (q0 := 0) (ws' := (wB aB ab cA (spX0_addToSum bw (2 : Int32) p2))) (wr := []) ⟨hx, hb, hml, hown, hts⟩ k_self (c_X0_addToSum l D aB ab cA bw (2 : Int32) p2) kv_X0_49 hP hD hS hA hK rfl rfl [0, 1] [] [0, 1] rfl (by decide) rfl (by decide) (by decide) rfl (by decide) rfl rfl ⟨Nat.le_of_ble_eq_true rfl, Nat.le_of_ble_eq_true rfl⟩ rfl hl.1 rfl (Nat.le_of_ble_eq_true rfl) dX0_apply_94 ⟨Nat.zero_le _, Nat.zero_le _⟩ (fun H locs hP hD hS => ?_)
    refine lv_aload_n hx hb dX0_apply_97 rfl (lv_at hl 0 rfl) ?_
    refine lv_iconst (v := 4) hx hb dX0_apply_98 (by decide) ?_
    refine lv_iload_n hx hb dX0_apply_99 rfl (lv_at hl 2 rfl) ?_
    refine k_wrVv (As := [.int (4 : Int32), .int p2]) (rest := []) (ci := 0) (q0 := 0) (ws' := (wB aB ab cA (spX0_addToSum (spX0_addToSum bw (2 : Int32) p2) (4 : Int32) p2))) (wr := []) ⟨hx, hb, hml, hown, hts⟩ k_self (c_X0_addToSum l D aB ab cA (spX0_addToSum bw (2 : Int32) p2) (4 : Int32) p2) kv_X0_49 hP hD hS hA hK rfl rfl [0, 1] [] [0, 1] rfl (by decide) rfl (by decide) (by decide) rfl (by decide) rfl rfl ⟨Nat.le_of_ble_eq_true rfl, Nat.le_of_ble_eq_true rfl⟩ rfl hl.1 rfl (Nat.le_of_ble_eq_true rfl) dX0_apply_100 ⟨Nat.zero_le _, Nat.zero_le _⟩ (fun H locs hP hD hS => ?_)
    refine lv_aload_n hx hb dX0_apply_103 rfl (lv_at hl 0 rfl) ?_
    refine lv_bipush (v := 10) hx hb dX0_apply_104 (by decide) ?_
    refine k_wrVv (As := [.int (10 : Int32)]) (rest := []) (ci := 0) (q0 := 0) (ws' := (wB aB ab cA (spX0_addOne (spX0_addToSum (spX0_addToSum bw (2 : Int32) p2) (4 : Int32) p2) (10 : Int32)))) (wr := []) ⟨hx, hb, hml, hown, hts⟩ k_self (c_X0_addOne l D aB ab cA (spX0_addToSum (spX0_addToSum bw (2 : Int32) p2) (4 : Int32) p2) (10 : Int32)) kv_X0_52 hP hD hS hA hK rfl rfl [0, 1] [] [0, 1] rfl (by decide) rfl (by decide) (by decide) rfl (by decide) rfl rfl ⟨Nat.le_of_ble_eq_true rfl, Nat.le_of_ble_eq_true rfl⟩ rfl hl.1 rfl (Nat.le_of_ble_eq_true rfl) dX0_apply_106 ⟨Nat.zero_le _, Nat.zero_le _⟩ (fun H locs hP hD hS => ?_)
    refine lv_goto (tgt := 174) hx hb dX0_apply_109 (by decide) ?_
    have hE : spX0_apply bw p1 p2 p3 = (spX0_addOne (spX0_addToSum (spX0_addToSum bw (2 : Int32) p2) (4 : Int32) p2) (10 : Int32)) := by unfold spX0_apply; rw [if_neg c_1_1, if_neg c_1_2, if_neg c_1_3, if_pos c_1_4]
    exact W.vret hx hb hr (fun t ht hW => ⟨⟨(), rfl, trivial, by rw [hE, ht]; exact hP, va_K.moved hW.alike hK, by rw [hE]; exact hD⟩, hS.F ht⟩) hS.2.2 dX0_apply_174
  by_cases c_1_5 : p1 = 5
  · refine lv_tableIn (tgt := 112) hx hb dX0_apply_1 (by rw [c_1_5]; decide) (by rw [c_1_5]; decide) (by rw [c_1_5]; rfl) (by decide) ?_
    refine lv_aload_n hx hb dX0_apply_112 rfl (lv_at hl 0 rfl) ?_
    refine lv_iconst (v := 2) hx hb dX0_apply_113 (by decide) ?_
    refine lv_iload_n hx hb dX0_apply_114 rfl (lv_at hl 2 rfl) ?_
    refine k_wrVv (As := [.int (2 : Int32), .int p2]) (rest := []) (ci := 0) (q0 := 0) (ws' := (wB aB ab cA (spX0_addToSum bw (2 : Int32) p2))) (wr := []) ⟨hx, hb, hml, hown, hts⟩ k_self (c_X0_addToSum l D aB ab cA bw (2 : Int32) p2) kv_X0_49 hP hD hS hA hK rfl rfl [0, 1] [] [0, 1] rfl (by decide) rfl (by decide) (by decide) rfl (by decide) rfl rfl ⟨Nat.le_of_ble_eq_true rfl, Nat.le_of_ble_eq_true rfl⟩ rfl hl.1 rfl (Nat.le_of_ble_eq_true rfl) dX0_apply_115 ⟨Nat.zero_le _, Nat.zero_le _⟩ (fun H locs hP hD hS => ?_)
    refine lv_aload_n hx hb dX0_apply_118 rfl (lv_at hl 0 rfl) ?_
    refine lv_bipush (v := 6) hx hb dX0_apply_119 (by decide) ?_
    refine lv_iload_n hx hb dX0_apply_121 rfl (lv_at hl 2 rfl) ?_
    refine k_wrVv (As := [.int (6 : Int32), .int p2]) (rest := []) (ci := 0) (q0 := 0) (ws' := (wB aB ab cA (spX0_addToSum (spX0_addToSum bw (2 : Int32) p2) (6 : Int32) p2))) (wr := []) ⟨hx, hb, hml, hown, hts⟩ k_self (c_X0_addToSum l D aB ab cA (spX0_addToSum bw (2 : Int32) p2) (6 : Int32) p2) kv_X0_49 hP hD hS hA hK rfl rfl [0, 1] [] [0, 1] rfl (by decide) rfl (by decide) (by decide) rfl (by decide) rfl rfl ⟨Nat.le_of_ble_eq_true rfl, Nat.le_of_ble_eq_true rfl⟩ rfl hl.1 rfl (Nat.le_of_ble_eq_true rfl) dX0_apply_122 ⟨Nat.zero_le _, Nat.zero_le _⟩ (fun H locs hP hD hS => ?_)
    refine lv_aload_n hx hb dX0_apply_125 rfl (lv_at hl 0 rfl) ?_
    refine lv_bipush (v := 9) hx hb dX0_apply_126 (by decide) ?_
    refine k_wrVv (As := [.int (9 : Int32)]) (rest := []) (ci := 0) (q0 := 0) (ws' := (wB aB ab cA (spX0_addOne (spX0_addToSum (spX0_addToSum bw (2 : Int32) p2) (6 : Int32) p2) (9 : Int32)))) (wr := []) ⟨hx, hb, hml, hown, hts⟩ k_self (c_X0_addOne l D aB ab cA (spX0_addToSum (spX0_addToSum bw (2 : Int32) p2) (6 : Int32) p2) (9 : Int32)) kv_X0_52 hP hD hS hA hK rfl rfl [0, 1] [] [0, 1] rfl (by decide) rfl (by decide) (by decide) rfl (by decide) rfl rfl ⟨Nat.le_of_ble_eq_true rfl, Nat.le_of_ble_eq_true rfl⟩ rfl hl.1 rfl (Nat.le_of_ble_eq_true rfl) dX0_apply_128 ⟨Nat.zero_le _, Nat.zero_le _⟩ (fun H locs hP hD hS => ?_)
    refine lv_goto (tgt := 174) hx hb dX0_apply_131 (by decide) ?_
    have hE : spX0_apply bw p1 p2 p3 = (spX0_addOne (spX0_addToSum (spX0_addToSum bw (2 : Int32) p2) (6 : Int32) p2) (9 : Int32)) := by unfold spX0_apply; rw [if_neg c_1_1, if_neg c_1_2, if_neg c_1_3, if_neg c_1_4, if_pos c_1_5]
    exact W.vret hx hb hr (fun t ht hW => ⟨⟨(), rfl, trivial, by rw [hE, ht]; exact hP, va_K.moved hW.alike hK, by rw [hE]; exact hD⟩, hS.F ht⟩) hS.2.2 dX0_apply_174
  by_cases c_1_6 : p1 = 6
  · refine lv_tableIn (tgt := 134) hx hb dX0_apply_1 (by rw [c_1_6]; decide) (by rw [c_1_6]; decide) (by rw [c_1_6]; rfl) (by decide) ?_
    refine lv_aload_n hx hb dX0_apply_134 rfl (lv_at hl 0 rfl) ?_
    refine lv_bipush (v := 12) hx hb dX0_apply_135 (by decide) ?_
    refine lv_iload_n hx hb dX0_apply_137 rfl (lv_at hl 2 rfl) ?_
    refine k_wrVv (As := [.int (12 : Int32), .int p2]) (rest := []) (ci := 0) (q0 := 0) (ws' := (wB aB ab cA (spX0_put bw (12 : Int32) p2))) (wr := []) ⟨hx, hb, hml, hown, hts⟩ k_self (c_X0_put l D aB ab cA bw (12 : Int32) p2) kv_X0_13 hP hD hS hA hK rfl rfl [0, 1] [] [0, 1] rfl (by decide) rfl (by decide) (by decide) rfl (by decide) rfl rfl ⟨Nat.le_of_ble_eq_true rfl, Nat.le_of_ble_eq_true rfl⟩ rfl hl.1 rfl (Nat.le_of_ble_eq_true rfl) dX0_apply_138 ⟨Nat.zero_le _, Nat.zero_le _⟩ (fun H locs hP hD hS => ?_)
    refine lv_goto (tgt := 174) hx hb dX0_apply_141 (by decide) ?_
    have hE : spX0_apply bw p1 p2 p3 = (spX0_put bw (12 : Int32) p2) := by unfold spX0_apply; rw [if_neg c_1_1, if_neg c_1_2, if_neg c_1_3, if_neg c_1_4, if_neg c_1_5, if_pos c_1_6]
    exact W.vret hx hb hr (fun t ht hW => ⟨⟨(), rfl, trivial, by rw [hE, ht]; exact hP, va_K.moved hW.alike hK, by rw [hE]; exact hD⟩, hS.F ht⟩) hS.2.2 dX0_apply_174
  by_cases c_1_7 : p1 = 7
  · refine lv_tableIn (tgt := 144) hx hb dX0_apply_1 (by rw [c_1_7]; decide) (by rw [c_1_7]; decide) (by rw [c_1_7]; rfl) (by decide) ?_
    refine lv_aload_n hx hb dX0_apply_144 rfl (lv_at hl 0 rfl) ?_
    refine lv_bipush (v := 11) hx hb dX0_apply_145 (by decide) ?_
    refine lv_iconst (v := 1) hx hb dX0_apply_147 (by decide) ?_
    refine k_wrVv (As := [.int (11 : Int32), .int (1 : Int32)]) (rest := []) (ci := 0) (q0 := 0) (ws' := (wB aB ab cA (spX0_put bw (11 : Int32) (1 : Int32)))) (wr := []) ⟨hx, hb, hml, hown, hts⟩ k_self (c_X0_put l D aB ab cA bw (11 : Int32) (1 : Int32)) kv_X0_13 hP hD hS hA hK rfl rfl [0, 1] [] [0, 1] rfl (by decide) rfl (by decide) (by decide) rfl (by decide) rfl rfl ⟨Nat.le_of_ble_eq_true rfl, Nat.le_of_ble_eq_true rfl⟩ rfl hl.1 rfl (Nat.le_of_ble_eq_true rfl) dX0_apply_148 ⟨Nat.zero_le _, Nat.zero_le _⟩ (fun H locs hP hD hS => ?_)
    refine lv_goto (tgt := 174) hx hb dX0_apply_151 (by decide) ?_
    have hE : spX0_apply bw p1 p2 p3 = (spX0_put bw (11 : Int32) (1 : Int32)) := by unfold spX0_apply; rw [if_neg c_1_1, if_neg c_1_2, if_neg c_1_3, if_neg c_1_4, if_neg c_1_5, if_neg c_1_6, if_pos c_1_7]
    exact W.vret hx hb hr (fun t ht hW => ⟨⟨(), rfl, trivial, by rw [hE, ht]; exact hP, va_K.moved hW.alike hK, by rw [hE]; exact hD⟩, hS.F ht⟩) hS.2.2 dX0_apply_174
  by_cases c_1_8 : p1 = 8
  · refine lv_tableIn (tgt := 154) hx hb dX0_apply_1 (by rw [c_1_8]; decide) (by rw [c_1_8]; decide) (by rw [c_1_8]; rfl) (by decide) ?_
    refine lv_aload_n hx hb dX0_apply_154 rfl (lv_at hl 0 rfl) ?_
    refine lv_bipush (v := 11) hx hb dX0_apply_155 (by decide) ?_
    refine lv_iconst (v := 0) hx hb dX0_apply_157 (by decide) ?_
    refine k_wrVv (As := [.int (11 : Int32), .int (0 : Int32)]) (rest := []) (ci := 0) (q0 := 0) (ws' := (wB aB ab cA (spX0_put bw (11 : Int32) (0 : Int32)))) (wr := []) ⟨hx, hb, hml, hown, hts⟩ k_self (c_X0_put l D aB ab cA bw (11 : Int32) (0 : Int32)) kv_X0_13 hP hD hS hA hK rfl rfl [0, 1] [] [0, 1] rfl (by decide) rfl (by decide) (by decide) rfl (by decide) rfl rfl ⟨Nat.le_of_ble_eq_true rfl, Nat.le_of_ble_eq_true rfl⟩ rfl hl.1 rfl (Nat.le_of_ble_eq_true rfl) dX0_apply_158 ⟨Nat.zero_le _, Nat.zero_le _⟩ (fun H locs hP hD hS => ?_)
    refine lv_goto (tgt := 174) hx hb dX0_apply_161 (by decide) ?_
    have hE : spX0_apply bw p1 p2 p3 = (spX0_put bw (11 : Int32) (0 : Int32)) := by unfold spX0_apply; rw [if_neg c_1_1, if_neg c_1_2, if_neg c_1_3, if_neg c_1_4, if_neg c_1_5, if_neg c_1_6, if_neg c_1_7, if_pos c_1_8]
    exact W.vret hx hb hr (fun t ht hW => ⟨⟨(), rfl, trivial, by rw [hE, ht]; exact hP, va_K.moved hW.alike hK, by rw [hE]; exact hD⟩, hS.F ht⟩) hS.2.2 dX0_apply_174
  by_cases c_1_9 : p1 = 9
  · refine lv_tableIn (tgt := 164) hx hb dX0_apply_1 (by rw [c_1_9]; decide) (by rw [c_1_9]; decide) (by rw [c_1_9]; rfl) (by decide) ?_
    refine lv_aload_n hx hb dX0_apply_164 rfl (lv_at hl 0 rfl) ?_
    refine lv_bipush (v := 13) hx hb dX0_apply_165 (by decide) ?_
    refine lv_iload_n hx hb dX0_apply_167 rfl (lv_at hl 2 rfl) ?_
    refine k_wrVv (As := [.int (13 : Int32), .int p2]) (rest := []) (ci := 0) (q0 := 0) (ws' := (wB aB ab cA (spX0_put bw (13 : Int32) p2))) (wr := []) ⟨hx, hb, hml, hown, hts⟩ k_self (c_X0_put l D aB ab cA bw (13 : Int32) p2) kv_X0_13 hP hD hS hA hK rfl rfl [0, 1] [] [0, 1] rfl (by decide) rfl (by decide) (by decide) rfl (by decide) rfl rfl ⟨Nat.le_of_ble_eq_true rfl, Nat.le_of_ble_eq_true rfl⟩ rfl hl.1 rfl (Nat.le_of_ble_eq_true rfl) dX0_apply_168 ⟨Nat.zero_le _, Nat.zero_le _⟩ (fun H locs hP hD hS => ?_)
    refine lv_goto (tgt := 174) hx hb dX0_apply_171 (by decide) ?_
    have hE : spX0_apply bw p1 p2 p3 = (spX0_put bw (13 : Int32) p2) := by unfold spX0_apply; rw [if_neg c_1_1, if_neg c_1_2, if_neg c_1_3, if_neg c_1_4, if_neg c_1_5, if_neg c_1_6, if_neg c_1_7, if_neg c_1_8, if_pos c_1_9]
    exact W.vret hx hb hr (fun t ht hW => ⟨⟨(), rfl, trivial, by rw [hE, ht]; exact hP, va_K.moved hW.alike hK, by rw [hE]; exact hD⟩, hS.F ht⟩) hS.2.2 dX0_apply_174
  refine lv_tableOut (tgt := 174) hx hb dX0_apply_1 (by have nc_1_1 := lv_neT (a := 1) c_1_1 rfl; have nc_1_2 := lv_neT (a := 2) c_1_2 rfl; have nc_1_3 := lv_neT (a := 3) c_1_3 rfl; have nc_1_4 := lv_neT (a := 4) c_1_4 rfl; have nc_1_5 := lv_neT (a := 5) c_1_5 rfl; have nc_1_6 := lv_neT (a := 6) c_1_6 rfl; have nc_1_7 := lv_neT (a := 7) c_1_7 rfl; have nc_1_8 := lv_neT (a := 8) c_1_8 rfl; have nc_1_9 := lv_neT (a := 9) c_1_9 rfl; omega) (by decide) ?_
  have hE : spX0_apply bw p1 p2 p3 = bw := by unfold spX0_apply; rw [if_neg c_1_1, if_neg c_1_2, if_neg c_1_3, if_neg c_1_4, if_neg c_1_5, if_neg c_1_6, if_neg c_1_7, if_neg c_1_8, if_neg c_1_9]
  exact W.vret hx hb hr (fun t ht hW => ⟨⟨(), rfl, trivial, by rw [hE, ht]; exact hP, va_K.moved hW.alike hK, by rw [hE]; exact hD⟩, hS.F ht⟩) hS.2.2 dX0_apply_174
def lpX0_departmentsAddUp_7 : Nat → (Nat → Int32) → Int64 → Int64 → Int32 → Int32
  | 0, _, _, _, _ => 0
  | n + 1, bw, x1, x3, x5 => (if (16 : Int32) ≤ x5 then (if (lg_cmp x1 (Int32.toInt64 (spX0_at bw (8 : Int32)))) = 0 then (if (lg_cmp x3 (spX0_sumAt bw (0 : Int32))) = 0 then (1 : Int32) else (0 : Int32)) else (0 : Int32)) else (lpX0_departmentsAddUp_7 n bw (x1 + (Int32.toInt64 (spX0_piecesOf bw x5))) (x3 + (spX0_centsOf bw x5)) (x5 + (1 : Int32))))
theorem lpX0_departmentsAddUp_7_e (n : Nat) (bw : Nat → Int32) (x1 : Int64) (x3 : Int64) (x5 : Int32) : lpX0_departmentsAddUp_7 (n + 1) bw x1 x3 x5 = (if (16 : Int32) ≤ x5 then (if (lg_cmp x1 (Int32.toInt64 (spX0_at bw (8 : Int32)))) = 0 then (if (lg_cmp x3 (spX0_sumAt bw (0 : Int32))) = 0 then (1 : Int32) else (0 : Int32)) else (0 : Int32)) else (lpX0_departmentsAddUp_7 n bw (x1 + (Int32.toInt64 (spX0_piecesOf bw x5))) (x3 + (spX0_centsOf bw x5)) (x5 + (1 : Int32)))) := rfl
def spX0_departmentsAddUp (bw : Nat → Int32) : Int32 := (lpX0_departmentsAddUp_7 17 bw (0 : Int64) (0 : Int64) (0 : Int32))
set_option maxHeartbeats 4000000 in
set_option maxRecDepth 100000 in
theorem c_X0_departmentsAddUp (l : Launch) (D : va_G) (aB ab : Nat) (cA : ClassId) (bw : Nat → Int32)   : kRi l yX0_departmentsAddUp cX0_departmentsAddUp 6 (some .boolean) { frames := 3, cells := 0, slots := 0, locals := 63 } [.ref aB] (kB D (wB aB ab cA bw) [(cA, .int)]) (spX0_departmentsAddUp bw) := by
  refine Met.ofW (cc := cX0_departmentsAddUp) (maxL := 6) (ret := (some .boolean)) (by decide) rfl ?_
  intro p e s m args below meth c s₁ B hml hv
  obtain ⟨rfl, hP, hK⟩ := hv
  have hx := B.exec
  have hb := B.bytes
  have hr := B.returns
  have hts : ∀ w ∈ kG, w.before _ s = true := fun w h => atoms_spec (ws := kT yX0_departmentsAddUp cX0_departmentsAddUp 6 (some .boolean)) B.pre w (List.mem_cons_of_mem _ h)
  have hown : s.vm.findClass RX0 = some m.cls := findClass_of_methodNamed B.named
  have hlocks := B.notSynchronized
  have hl := lv_entry ([.ref aB]) (n := 6) (Nat.le_of_ble_eq_true rfl)
  rw [lg_entry_eq]
  generalize (lg_sl ([.ref aB]) ++ List.replicate (6 - (lg_sl ([.ref aB])).length) Slot.unset).toArray = ls at hl ⊢
  have hl : lv_has ls 6 [(0, .ref aB)] := hl
  have L7 : ∀ (n : Nat)  (x1 : Int64) (x3 : Int64) (x5 : Int32) (ls : Array Slot), (∃ k : Nat, x5 = nI k ∧ k ≤ 16 ∧ 16 < k + n) → spX0_departmentsAddUp bw = lpX0_departmentsAddUp_7 n bw x1 x3 x5 → lv_has ls 6 [(0, .ref aB), (1, .long x1), (3, .long x3), (5, .int x5)] → W p l e (headSpec (kT yX0_departmentsAddUp cX0_departmentsAddUp 6 (some .boolean)) ({ frames := 3, cells := 0, slots := 0, locals := 63 })).room s m ([.ref aB] : List Value).toArray below meth c s.heap [] 0 0 (MQ below (vp_Si (fun r => r = spX0_departmentsAddUp bw)) ([.ref aB] : List Value).toArray s 0 0 (fun _ => False)) (F0 m 7 ls []) := by
    intro n
    induction n with
    | zero =>
      intro x1 x3 x5 ls hI
      exact absurd hI (by rintro ⟨k, -, h1, h2⟩; omega)
    | succ n ih =>
      intro x1 x3 x5 ls hI hE hl
      obtain ⟨k, hk, hk1, hk2⟩ := hI
      refine lv_iload hx hb dX0_departmentsAddUp_7 (lv_at hl 3 rfl) ?_
      refine lv_bipush (v := 16) hx hb dX0_departmentsAddUp_9 (by decide) ?_
      refine lv_icmp_ge (tgt := 39) hx hb dX0_departmentsAddUp_11 (by decide) (fun c_11 => ?_) (fun c_11 => ?_)
      · refine lv_lload_n hx hb dX0_departmentsAddUp_39 rfl (lv_at hl 1 rfl) ?_
        refine lv_aload_n hx hb dX0_departmentsAddUp_40 rfl (lv_at hl 0 rfl) ?_
        refine lv_bipush (v := 8) hx hb dX0_departmentsAddUp_41 (by decide) ?_
        refine k_rdVi (As := [.int (8 : Int32)]) (rest := [.long x1]) (ci := 0) (q0 := 0) ⟨hx, hb, hml, hown, hts⟩ k_self (c_X0_at l D aB ab cA bw (8 : Int32)) kv_X0_17 (hP.sub [0, 1] rfl) (hK.sub [0] rfl) rfl rfl rfl rfl ⟨Nat.le_of_ble_eq_true rfl, Nat.le_of_ble_eq_true rfl⟩ rfl hl.1 rfl (Nat.le_of_ble_eq_true rfl) dX0_departmentsAddUp_43 ⟨Nat.zero_le _, Nat.zero_le _⟩ ?_
        refine lv_i2l (v := (Int32.toInt64 (spX0_at bw (8 : Int32)))) hx hb dX0_departmentsAddUp_46 rfl ?_
        refine W.lcmp hx hb dX0_departmentsAddUp_47 ?_
        refine lv_if_ne (tgt := 65) hx hb dX0_departmentsAddUp_48 (by decide) (fun c_48 => ?_) (fun c_48 => ?_)
        · refine lv_iconst (v := 0) hx hb dX0_departmentsAddUp_65 (by decide) ?_
          exact W.zret (v := (0 : Int32)) hx hb hr rfl (fun t ht hW => ⟨(0 : Int32), rfl, (show _ = _ from (hE.trans (by rw [lpX0_departmentsAddUp_7_e, if_pos c_11, if_neg c_48]) : spX0_departmentsAddUp bw = (0 : Int32)).symm), ht⟩) (fun q h => by cases h) dX0_departmentsAddUp_66
        · refine lv_lload_n hx hb dX0_departmentsAddUp_51 rfl (lv_at hl 2 rfl) ?_
          refine lv_aload_n hx hb dX0_departmentsAddUp_52 rfl (lv_at hl 0 rfl) ?_
          refine lv_iconst (v := 0) hx hb dX0_departmentsAddUp_53 (by decide) ?_
          refine k_rdVl (As := [.int (0 : Int32)]) (rest := [.long x3]) (ci := 0) (q0 := 0) ⟨hx, hb, hml, hown, hts⟩ k_self (c_X0_sumAt l D aB ab cA bw (0 : Int32)) kv_X0_26 (hP.sub [0, 1] rfl) (hK.sub [0] rfl) rfl rfl rfl rfl ⟨Nat.le_of_ble_eq_true rfl, Nat.le_of_ble_eq_true rfl⟩ rfl hl.1 rfl (Nat.le_of_ble_eq_true rfl) dX0_departmentsAddUp_54 ⟨Nat.zero_le _, Nat.zero_le _⟩ ?_
          refine W.lcmp hx hb dX0_departmentsAddUp_57 ?_
          refine lv_if_ne (tgt := 65) hx hb dX0_departmentsAddUp_58 (by decide) (fun c_58 => ?_) (fun c_58 => ?_)
          · refine lv_iconst (v := 0) hx hb dX0_departmentsAddUp_65 (by decide) ?_
            exact W.zret (v := (0 : Int32)) hx hb hr rfl (fun t ht hW => ⟨(0 : Int32), rfl, (show _ = _ from (hE.trans (by rw [lpX0_departmentsAddUp_7_e, if_pos c_11, if_pos c_48, if_neg c_58]) : spX0_departmentsAddUp bw = (0 : Int32)).symm), ht⟩) (fun q h => by cases h) dX0_departmentsAddUp_66
          · refine lv_iconst (v := 1) hx hb dX0_departmentsAddUp_61 (by decide) ?_
            refine lv_goto (tgt := 66) hx hb dX0_departmentsAddUp_62 (by decide) ?_
            exact W.zret (v := (1 : Int32)) hx hb hr rfl (fun t ht hW => ⟨(1 : Int32), rfl, (show _ = _ from (hE.trans (by rw [lpX0_departmentsAddUp_7_e, if_pos c_11, if_pos c_48, if_pos c_58]) : spX0_departmentsAddUp bw = (1 : Int32)).symm), ht⟩) (fun q h => by cases h) dX0_departmentsAddUp_66
      · refine lv_lload_n hx hb dX0_departmentsAddUp_14 rfl (lv_at hl 1 rfl) ?_
        refine lv_aload_n hx hb dX0_departmentsAddUp_15 rfl (lv_at hl 0 rfl) ?_
        refine lv_iload hx hb dX0_departmentsAddUp_16 (lv_at hl 3 rfl) ?_
        refine k_rdVi (As := [.int x5]) (rest := [.long x1]) (ci := 0) (q0 := 0) ⟨hx, hb, hml, hown, hts⟩ k_self (c_X0_piecesOf l D aB ab cA bw x5) kv_X0_33 (hP.sub [0, 1] rfl) (hK.sub [0] rfl) rfl rfl rfl rfl ⟨Nat.le_of_ble_eq_true rfl, Nat.le_of_ble_eq_true rfl⟩ rfl hl.1 rfl (Nat.le_of_ble_eq_true rfl) dX0_departmentsAddUp_18 ⟨Nat.zero_le _, Nat.zero_le _⟩ ?_
        refine lv_i2l (v := (Int32.toInt64 (spX0_piecesOf bw x5))) hx hb dX0_departmentsAddUp_21 rfl ?_
        refine lv_ladd hx hb dX0_departmentsAddUp_22 ?_
        refine lv_lstore_n (lv' := [(1, .long (x1 + (Int32.toInt64 (spX0_piecesOf bw x5)))), (0, .ref aB), (3, .long x3), (5, .int x5)]) hx hb dX0_departmentsAddUp_23 rfl hl (by decide) rfl (fun ls hl => ?_)
        refine lv_lload_n hx hb dX0_departmentsAddUp_24 rfl (lv_at hl 2 rfl) ?_
        refine lv_aload_n hx hb dX0_departmentsAddUp_25 rfl (lv_at hl 1 rfl) ?_
        refine lv_iload hx hb dX0_departmentsAddUp_26 (lv_at hl 3 rfl) ?_
        refine k_rdVl (As := [.int x5]) (rest := [.long x3]) (ci := 0) (q0 := 0) ⟨hx, hb, hml, hown, hts⟩ k_self (c_X0_centsOf l D aB ab cA bw x5) kv_X0_36 (hP.sub [0, 1] rfl) (hK.sub [0] rfl) rfl rfl rfl rfl ⟨Nat.le_of_ble_eq_true rfl, Nat.le_of_ble_eq_true rfl⟩ rfl hl.1 rfl (Nat.le_of_ble_eq_true rfl) dX0_departmentsAddUp_28 ⟨Nat.zero_le _, Nat.zero_le _⟩ ?_
        refine lv_ladd hx hb dX0_departmentsAddUp_31 ?_
        refine lv_lstore_n (lv' := [(3, .long (x3 + (spX0_centsOf bw x5))), (1, .long (x1 + (Int32.toInt64 (spX0_piecesOf bw x5)))), (0, .ref aB), (5, .int x5)]) hx hb dX0_departmentsAddUp_32 rfl hl (by decide) rfl (fun ls hl => ?_)
        refine lv_iinc (v := (x5 + (1 : Int32))) (lv' := [(5, .int (x5 + (1 : Int32))), (3, .long (x3 + (spX0_centsOf bw x5))), (1, .long (x1 + (Int32.toInt64 (spX0_piecesOf bw x5)))), (0, .ref aB)]) hx hb dX0_departmentsAddUp_33 hl (k := 3) rfl rfl (by decide) rfl (fun ls hl => ?_)
        refine lv_goto (tgt := 7) hx hb dX0_departmentsAddUp_36 (by decide) ?_
        exact ih   (x1 + (Int32.toInt64 (spX0_piecesOf bw x5))) (x3 + (spX0_centsOf bw x5)) (x5 + (1 : Int32)) ls (k_step (N := 16) rfl (by decide) hk hk1 hk2 c_11) (hE.trans (by rw [lpX0_departmentsAddUp_7_e, if_neg c_11])) (lv_sub hl [3, 2, 1, 0] rfl)
  refine lv_lconst (v := 0) hx hb dX0_departmentsAddUp_0 (by decide) ?_
  refine lv_lstore_n (lv' := [(1, .long (0 : Int64)), (0, .ref aB)]) hx hb dX0_departmentsAddUp_1 rfl hl (by decide) rfl (fun ls hl => ?_)
  refine lv_lconst (v := 0) hx hb dX0_departmentsAddUp_2 (by decide) ?_
  refine lv_lstore_n (lv' := [(3, .long (0 : Int64)), (1, .long (0 : Int64)), (0, .ref aB)]) hx hb dX0_departmentsAddUp_3 rfl hl (by decide) rfl (fun ls hl => ?_)
  refine lv_iconst (v := 0) hx hb dX0_departmentsAddUp_4 (by decide) ?_
  refine lv_istore (lv' := [(5, .int (0 : Int32)), (3, .long (0 : Int64)), (1, .long (0 : Int64)), (0, .ref aB)]) hx hb dX0_departmentsAddUp_5 hl (by decide) rfl (fun ls hl => ?_)
  exact L7 17  (0 : Int64) (0 : Int64) (0 : Int32) ls (⟨0, rfl, by decide, by decide⟩) (by unfold spX0_departmentsAddUp; rfl) (lv_sub hl [3, 2, 1, 0] rfl)
end
section
def spX2_holds (p1 : Int32) (p2 : Int32) : Int32 := (if p1 < 0 then (0 : Int32) else (if (16 : Int32) ≤ p1 then (0 : Int32) else (if p2 < 0 then (0 : Int32) else (if (256 : Int32) ≤ p2 then (0 : Int32) else (1 : Int32)))))
set_option maxHeartbeats 4000000 in
set_option maxRecDepth 100000 in
theorem c_X2_holds (l : Launch) (D : va_G) (aM aw ae : Nat) (cA : ClassId) (pw : Int32) (ce : Int32) (lf : Int32) (mq : Int32) (ct : Int32) (wd : Nat → Int32) (er : Nat → Int32) (p1 : Int32) (p2 : Int32)  : kRi l yX2_holds cX2_holds 3 (some .boolean) { frames := 0, cells := 0, slots := 0, locals := 0 } [.ref aM, .int p1, .int p2] (kB D (wM aM aw ae cA pw ce lf mq ct wd er) [(cA, .int)]) (spX2_holds p1 p2) := by
  refine Met.ofW (cc := cX2_holds) (maxL := 3) (ret := (some .boolean)) (by decide) rfl ?_
  intro p e s m args below meth c s₁ B hml hv
  obtain ⟨rfl, hP, hK⟩ := hv
  have hx := B.exec
  have hb := B.bytes
  have hr := B.returns
  have hts : ∀ w ∈ kG, w.before _ s = true := fun w h => atoms_spec (ws := kT yX2_holds cX2_holds 3 (some .boolean)) B.pre w (List.mem_cons_of_mem _ h)
  have hown : s.vm.findClass RX2 = some m.cls := findClass_of_methodNamed B.named
  have hlocks := B.notSynchronized
  have hl := lv_entry ([.ref aM, .int p1, .int p2]) (n := 3) (Nat.le_of_ble_eq_true rfl)
  rw [lg_entry_eq]
  generalize (lg_sl ([.ref aM, .int p1, .int p2]) ++ List.replicate (3 - (lg_sl ([.ref aM, .int p1, .int p2])).length) Slot.unset).toArray = ls at hl ⊢
  have hl : lv_has ls 3 [(0, .ref aM), (1, .int p1), (2, .int p2)] := hl
  refine lv_iload_n hx hb dX2_holds_0 rfl (lv_at hl 1 rfl) ?_
  refine lv_if_lt (tgt := 25) hx hb dX2_holds_1 (by decide) (fun c_1 => ?_) (fun c_1 => ?_)
  · refine lv_iconst (v := 0) hx hb dX2_holds_25 (by decide) ?_
    exact W.zret (v := (0 : Int32)) hx hb hr rfl (fun t ht hW => ⟨(0 : Int32), rfl, (show _ = _ from (by unfold spX2_holds; rw [if_pos c_1] : spX2_holds p1 p2 = (0 : Int32)).symm), ht⟩) (fun q h => by cases h) dX2_holds_26
  · refine lv_iload_n hx hb dX2_holds_4 rfl (lv_at hl 1 rfl) ?_
    refine lv_bipush (v := 16) hx hb dX2_holds_5 (by decide) ?_
    refine lv_icmp_ge (tgt := 25) hx hb dX2_holds_7 (by decide) (fun c_7 => ?_) (fun c_7 => ?_)
    · refine lv_iconst (v := 0) hx hb dX2_holds_25 (by decide) ?_
      exact W.zret (v := (0 : Int32)) hx hb hr rfl (fun t ht hW => ⟨(0 : Int32), rfl, (show _ = _ from (by unfold spX2_holds; rw [if_neg c_1, if_pos c_7] : spX2_holds p1 p2 = (0 : Int32)).symm), ht⟩) (fun q h => by cases h) dX2_holds_26
    · refine lv_iload_n hx hb dX2_holds_10 rfl (lv_at hl 2 rfl) ?_
      refine lv_if_lt (tgt := 25) hx hb dX2_holds_11 (by decide) (fun c_11 => ?_) (fun c_11 => ?_)
      · refine lv_iconst (v := 0) hx hb dX2_holds_25 (by decide) ?_
        exact W.zret (v := (0 : Int32)) hx hb hr rfl (fun t ht hW => ⟨(0 : Int32), rfl, (show _ = _ from (by unfold spX2_holds; rw [if_neg c_1, if_neg c_7, if_pos c_11] : spX2_holds p1 p2 = (0 : Int32)).symm), ht⟩) (fun q h => by cases h) dX2_holds_26
      · refine lv_iload_n hx hb dX2_holds_14 rfl (lv_at hl 2 rfl) ?_
        refine lv_sipush (v := 256) hx hb dX2_holds_15 (by decide) ?_
        refine lv_icmp_ge (tgt := 25) hx hb dX2_holds_18 (by decide) (fun c_18 => ?_) (fun c_18 => ?_)
        · refine lv_iconst (v := 0) hx hb dX2_holds_25 (by decide) ?_
          exact W.zret (v := (0 : Int32)) hx hb hr rfl (fun t ht hW => ⟨(0 : Int32), rfl, (show _ = _ from (by unfold spX2_holds; rw [if_neg c_1, if_neg c_7, if_neg c_11, if_pos c_18] : spX2_holds p1 p2 = (0 : Int32)).symm), ht⟩) (fun q h => by cases h) dX2_holds_26
        · refine lv_iconst (v := 1) hx hb dX2_holds_21 (by decide) ?_
          refine lv_goto (tgt := 26) hx hb dX2_holds_22 (by decide) ?_
          exact W.zret (v := (1 : Int32)) hx hb hr rfl (fun t ht hW => ⟨(1 : Int32), rfl, (show _ = _ from (by unfold spX2_holds; rw [if_neg c_1, if_neg c_7, if_neg c_11, if_neg c_18] : spX2_holds p1 p2 = (1 : Int32)).symm), ht⟩) (fun q h => by cases h) dX2_holds_26
theorem k_bool {x : Int32} (h : x = 0 ∨ x = 1) : narrow .boolean (.int x) = .int x := by rcases h with rfl | rfl <;> rfl
theorem k_holds {a b : Int32} (h : ¬ spX2_holds a b = 0) : (0 ≤ a.toInt ∧ a.toInt < 16) ∧ 0 ≤ b.toInt ∧ b.toInt < 256 := by
  unfold spX2_holds at h
  by_cases c1 : a < 0
  · rw [if_pos c1] at h; exact absurd rfl h
  · rw [if_neg c1] at h
    by_cases c2 : (16 : Int32) ≤ a
    · rw [if_pos c2] at h; exact absurd rfl h
    · rw [if_neg c2] at h
      by_cases c3 : b < 0
      · rw [if_pos c3] at h; exact absurd rfl h
      · rw [if_neg c3] at h
        by_cases c4 : (256 : Int32) ≤ b
        · rw [if_pos c4] at h; exact absurd rfl h
        · have h1 := vp_in_iff.mp (k_inr (N := 16) (n := 16) rfl c1 c2)
          have h2 := vp_in_iff.mp (k_inr (N := 256) (n := 256) rfl c3 c4)
          omega
theorem k_nat {a : Int32} (h : 0 ≤ a.toInt) : ∃ k : Nat, a = nI k ∧ (k : Int) = a.toInt := by
  have h0 : ¬ a < 0 := by rw [Int32.lt_iff_toInt_lt, Int32.toInt_zero]; omega
  obtain ⟨j, hj, e⟩ := nI_of h0
  exact ⟨j, e, by rw [e, nI_toInt hj]⟩
theorem k_place {a b : Int32} (h : (0 ≤ a.toInt ∧ a.toInt < 16) ∧ 0 ≤ b.toInt ∧ b.toInt < 256) : vp_in (a * 256 + b) 4096 := by
  obtain ⟨i, e1, h1⟩ := k_nat h.1.1
  obtain ⟨j, e2, h2⟩ := k_nat h.2.1
  rw [e1, e2, show (256 : Int32) = nI 256 from rfl, pk_mul, nI_add]
  exact vp_in_nI (by omega) (by decide)
theorem k_sect {a b : Int32} (h : ¬ spX2_holds a b = 0) : vp_in a 16 := by
  have := k_holds h
  rw [vp_in_iff]; omega
def spX2_read (wd : Nat → Int32) (p1 : Int32) (p2 : Int32) : Int32 := (if (spX2_holds p1 p2) = 0 then (-1 : Int32) else (wd (Int32.toNatClampNeg ((p1 * (256 : Int32)) + p2))))
set_option maxHeartbeats 4000000 in
set_option maxRecDepth 100000 in
theorem c_X2_read (l : Launch) (D : va_G) (aM aw ae : Nat) (cA : ClassId) (pw : Int32) (ce : Int32) (lf : Int32) (mq : Int32) (ct : Int32) (wd : Nat → Int32) (er : Nat → Int32) (p1 : Int32) (p2 : Int32)  : kRi l yX2_read cX2_read 3 (some .int) { frames := 1, cells := 0, slots := 0, locals := 22 } [.ref aM, .int p1, .int p2] (kB D (wM aM aw ae cA pw ce lf mq ct wd er) [(cA, .int)]) (spX2_read wd p1 p2) := by
  refine Met.ofW (cc := cX2_read) (maxL := 3) (ret := (some .int)) (by decide) rfl ?_
  intro p e s m args below meth c s₁ B hml hv
  obtain ⟨rfl, hP, hK⟩ := hv
  have hx := B.exec
  have hb := B.bytes
  have hr := B.returns
  have hts : ∀ w ∈ kG, w.before _ s = true := fun w h => atoms_spec (ws := kT yX2_read cX2_read 3 (some .int)) B.pre w (List.mem_cons_of_mem _ h)
  have hown : s.vm.findClass RX2 = some m.cls := findClass_of_methodNamed B.named
  have hlocks := B.notSynchronized
  have hl := lv_entry ([.ref aM, .int p1, .int p2]) (n := 3) (Nat.le_of_ble_eq_true rfl)
  rw [lg_entry_eq]
  generalize (lg_sl ([.ref aM, .int p1, .int p2]) ++ List.replicate (3 - (lg_sl ([.ref aM, .int p1, .int p2])).length) Slot.unset).toArray = ls at hl ⊢
  have hl : lv_has ls 3 [(0, .ref aM), (1, .int p1), (2, .int p2)] := hl
  refine lv_aload_n hx hb dX2_read_0 rfl (lv_at hl 0 rfl) ?_
  refine lv_iload_n hx hb dX2_read_1 rfl (lv_at hl 1 rfl) ?_
  refine lv_iload_n hx hb dX2_read_2 rfl (lv_at hl 2 rfl) ?_
  refine k_rdVi (As := [.int p1, .int p2]) (rest := []) (ci := 2) (q0 := 0) ⟨hx, hb, hml, hown, hts⟩ k_self (c_X2_holds l D aM aw ae cA pw ce lf mq ct wd er p1 p2) kv_X2_26 (hP.sub [0, 1, 2] rfl) (hK.sub [0] rfl) rfl rfl rfl rfl ⟨Nat.le_of_ble_eq_true rfl, Nat.le_of_ble_eq_true rfl⟩ rfl hl.1 rfl (Nat.le_of_ble_eq_true rfl) dX2_read_3 ⟨Nat.zero_le _, Nat.zero_le _⟩ ?_
  refine lv_if_eq (tgt := 24) hx hb dX2_read_6 (by decide) (fun c_6 => ?_) (fun c_6 => ?_)
  · refine lv_iconst (v := -1) hx hb dX2_read_24 (by decide) ?_
    exact W.iret (v := (-1 : Int32)) hx hb hr (fun t ht hW => ⟨(-1 : Int32), rfl, (show _ = _ from (by unfold spX2_read; rw [if_pos c_6] : spX2_read wd p1 p2 = (-1 : Int32)).symm), ht⟩) (fun q h => by cases h) dX2_read_25
  · refine lv_aload_n hx hb dX2_read_9 rfl (lv_at hl 0 rfl) ?_
    refine va_get (D := D) (ci := 2) (v := .ref aw) (C := RX2) (T := TX2) (N := 7) hx hb hts k_inX2 hown hK hP 0 rfl rfl 0 (by decide) (hts _ kw_75) (fun _ h9 => h9) rfl dX2_read_10 ?_
    refine lv_iload_n hx hb dX2_read_13 rfl (lv_at hl 1 rfl) ?_
    refine lv_sipush (v := 256) hx hb dX2_read_14 (by decide) ?_
    refine lv_imul hx hb dX2_read_17 ?_
    refine lv_iload_n hx hb dX2_read_18 rfl (lv_at hl 2 rfl) ?_
    refine lv_iadd hx hb dX2_read_19 ?_
    refine va_iald hx hb hK hP 1 0 rfl rfl (k_place (k_holds c_6)) dX2_read_20 ?_
    refine lv_goto (tgt := 25) hx hb dX2_read_21 (by decide) ?_
    exact W.iret (v := (wd (Int32.toNatClampNeg ((p1 * (256 : Int32)) + p2)))) hx hb hr (fun t ht hW => ⟨(wd (Int32.toNatClampNeg ((p1 * (256 : Int32)) + p2))), rfl, (show _ = _ from (by unfold spX2_read; rw [if_neg c_6] : spX2_read wd p1 p2 = (wd (Int32.toNatClampNeg ((p1 * (256 : Int32)) + p2)))).symm), ht⟩) (fun q h => by cases h) dX2_read_25
def spX2_spendOne (pw : Int32) (ce : Int32) (lf : Int32) (ct : Int32) : Int32 × Int32 × Int32 × Int32 × Int32 := (if pw = 0 then ((0 : Int32), pw, ce, lf, ct) else (if ce = 0 then ((1 : Int32), pw, ce, lf, ct) else (if lf ≤ 0 then ((0 : Int32), (0 : Int32), (0 : Int32), lf, (ct + (1 : Int32))) else ((1 : Int32), pw, ce, (lf - (1 : Int32)), ct))))
set_option maxHeartbeats 4000000 in
set_option maxRecDepth 100000 in
theorem c_X2_spendOne (l : Launch) (D : va_G) (aM aw ae : Nat) (cA : ClassId) (pw : Int32) (ce : Int32) (lf : Int32) (mq : Int32) (ct : Int32) (wd : Nat → Int32) (er : Nat → Int32)   : kWi l yX2_spendOne cX2_spendOne 1 (some .boolean) { frames := 0, cells := 0, slots := 0, locals := 0 } D [(cA, .int)] [.ref aM] (wM aM aw ae cA pw ce lf mq ct wd er) (spX2_spendOne pw ce lf ct).1 (wM aM aw ae cA (spX2_spendOne pw ce lf ct).2.1 (spX2_spendOne pw ce lf ct).2.2.1 (spX2_spendOne pw ce lf ct).2.2.2.1 mq (spX2_spendOne pw ce lf ct).2.2.2.2 wd er) := by
  intro sz
  refine Met.ofW (cc := cX2_spendOne) (maxL := 1) (ret := (some .boolean)) (by decide) rfl ?_
  intro p e s m args below meth c s₁ B hml hv
  obtain ⟨rfl, hsz, hP, hK, hD0⟩ := hv
  have hx := B.exec
  have hb := B.bytes
  have hr := B.returns
  have hts : ∀ w ∈ kG, w.before _ s = true := fun w h => atoms_spec (ws := kT yX2_spendOne cX2_spendOne 1 (some .boolean)) B.pre w (List.mem_cons_of_mem _ h)
  have hown : s.vm.findClass RX2 = some m.cls := findClass_of_methodNamed B.named
  have hlocks := B.notSynchronized
  subst hsz
  have hD := hD0.self (sz := s.heap.size)
  generalize hAe : va_A (wM aM aw ae cA pw ce lf mq ct wd er) s.heap.size = A at hD ⊢
  have hA : ∀ q : Nat, s.heap.size ≤ q → A q := fun q h => by rw [← hAe]; exact Or.inr h
  have hS : va_S A s.heap s.heap [] := va_S.rf
  have hl := lv_entry ([.ref aM]) (n := 1) (Nat.le_of_ble_eq_true rfl)
  rw [lg_entry_eq]
  generalize (lg_sl ([.ref aM]) ++ List.replicate (1 - (lg_sl ([.ref aM])).length) Slot.unset).toArray = ls at hl ⊢
  have hl : lv_has ls 1 [(0, .ref aM)] := hl
  refine lv_aload_n hx hb dX2_spendOne_0 rfl (lv_at hl 0 rfl) ?_
  refine va_get (D := D) (ci := 2) (v := .int pw) (C := RX2) (T := TX2) (N := 7) hx hb hts k_inX2 hown hK hP 0 rfl rfl 2 (by decide) (hts _ kw_77) (fun _ h9 => h9) rfl dX2_spendOne_1 ?_
  refine lv_if_ne (tgt := 9) hx hb dX2_spendOne_4 (by decide) (fun c_4 => ?_) (fun c_4 => ?_)
  · refine lv_aload_n hx hb dX2_spendOne_9 rfl (lv_at hl 0 rfl) ?_
    refine va_get (D := D) (ci := 2) (v := .int ce) (C := RX2) (T := TX2) (N := 7) hx hb hts k_inX2 hown hK hP 0 rfl rfl 3 (by decide) (hts _ kw_78) (fun _ h9 => h9) rfl dX2_spendOne_10 ?_
    refine lv_if_ne (tgt := 18) hx hb dX2_spendOne_13 (by decide) (fun c_13 => ?_) (fun c_13 => ?_)
    · refine lv_aload_n hx hb dX2_spendOne_18 rfl (lv_at hl 0 rfl) ?_
      refine va_get (D := D) (ci := 2) (v := .int lf) (C := RX2) (T := TX2) (N := 7) hx hb hts k_inX2 hown hK hP 0 rfl rfl 4 (by decide) (hts _ kw_79) (fun _ h9 => h9) rfl dX2_spendOne_19 ?_
      refine lv_if_le (tgt := 37) hx hb dX2_spendOne_22 (by decide) (fun c_22 => ?_) (fun c_22 => ?_)
      · refine lv_aload_n hx hb dX2_spendOne_37 rfl (lv_at hl 0 rfl) ?_
        refine lv_iconst (v := 0) hx hb dX2_spendOne_38 (by decide) ?_
        refine va_put (D := D) (ci := 2) (v := .int (0 : Int32)) (ty := .boolean) (C := RX2) (T := TX2) (N := 7) hx hb hts k_inX2 tyX2 tyX2_ok nmX2 hown hK hP hD hS 0 rfl rfl 3 (by decide) (hts _ kw_78) (fun _ h9 => h9) rfl (by decide +kernel) rfl rfl (Nat.le_of_ble_eq_true rfl) dX2_spendOne_39 (fun H locs hP hD hS => ?_)
        have hP : va_P D vwCl (wM aM aw ae cA pw (0 : Int32) lf mq ct wd er) H := hP
        have hD : va_D A (wM aM aw ae cA pw (0 : Int32) lf mq ct wd er) := hD
        refine lv_aload_n hx hb dX2_spendOne_42 rfl (lv_at hl 0 rfl) ?_
        refine lv_iconst (v := 0) hx hb dX2_spendOne_43 (by decide) ?_
        refine va_put (D := D) (ci := 2) (v := .int (0 : Int32)) (ty := .boolean) (C := RX2) (T := TX2) (N := 7) hx hb hts k_inX2 tyX2 tyX2_ok nmX2 hown hK hP hD hS 0 rfl rfl 2 (by decide) (hts _ kw_77) (fun _ h9 => h9) rfl (by decide +kernel) rfl rfl (Nat.le_of_ble_eq_true rfl) dX2_spendOne_44 (fun H locs hP hD hS => ?_)
        have hP : va_P D vwCl (wM aM aw ae cA (0 : Int32) (0 : Int32) lf mq ct wd er) H := hP
        have hD : va_D A (wM aM aw ae cA (0 : Int32) (0 : Int32) lf mq ct wd er) := hD
        refine lv_aload_n hx hb dX2_spendOne_47 rfl (lv_at hl 0 rfl) ?_
        refine lv_dup hx hb dX2_spendOne_48 rfl ?_
        refine va_get (D := D) (ci := 2) (v := .int ct) (C := RX2) (T := TX2) (N := 7) hx hb hts k_inX2 hown hK hP 0 rfl rfl 6 (by decide) (hts _ kw_81) (fun _ h9 => h9) rfl dX2_spendOne_49 ?_
        refine lv_iconst (v := 1) hx hb dX2_spendOne_52 (by decide) ?_
        refine lv_iadd hx hb dX2_spendOne_53 ?_
        refine va_put (D := D) (ci := 2) (v := .int (ct + (1 : Int32))) (ty := .int) (C := RX2) (T := TX2) (N := 7) hx hb hts k_inX2 tyX2 tyX2_ok nmX2 hown hK hP hD hS 0 rfl rfl 6 (by decide) (hts _ kw_81) (fun _ h9 => h9) rfl (by decide +kernel) rfl rfl (Nat.le_of_ble_eq_true rfl) dX2_spendOne_54 (fun H locs hP hD hS => ?_)
        have hP : va_P D vwCl (wM aM aw ae cA (0 : Int32) (0 : Int32) lf mq (ct + (1 : Int32)) wd er) H := hP
        have hD : va_D A (wM aM aw ae cA (0 : Int32) (0 : Int32) lf mq (ct + (1 : Int32)) wd er) := hD
        refine lv_iconst (v := 0) hx hb dX2_spendOne_57 (by decide) ?_
        have hE : spX2_spendOne pw ce lf ct = ((0 : Int32), (0 : Int32), (0 : Int32), lf, (ct + (1 : Int32))) := by unfold spX2_spendOne; rw [if_neg c_4, if_neg c_13, if_pos c_22]
        exact W.zret (v := (0 : Int32)) hx hb hr rfl (fun t ht hW => ⟨⟨(0 : Int32), (), rfl, by rw [hE], by rw [hE, ht]; exact hP, va_K.moved hW.alike hK, by rw [hE]; exact hD⟩, hS.F ht⟩) hS.2.2 dX2_spendOne_58
      · refine lv_aload_n hx hb dX2_spendOne_25 rfl (lv_at hl 0 rfl) ?_
        refine lv_dup hx hb dX2_spendOne_26 rfl ?_
        refine va_get (D := D) (ci := 2) (v := .int lf) (C := RX2) (T := TX2) (N := 7) hx hb hts k_inX2 hown hK hP 0 rfl rfl 4 (by decide) (hts _ kw_79) (fun _ h9 => h9) rfl dX2_spendOne_27 ?_
        refine lv_iconst (v := 1) hx hb dX2_spendOne_30 (by decide) ?_
        refine lv_isub hx hb dX2_spendOne_31 ?_
        refine va_put (D := D) (ci := 2) (v := .int (lf - (1 : Int32))) (ty := .int) (C := RX2) (T := TX2) (N := 7) hx hb hts k_inX2 tyX2 tyX2_ok nmX2 hown hK hP hD hS 0 rfl rfl 4 (by decide) (hts _ kw_79) (fun _ h9 => h9) rfl (by decide +kernel) rfl rfl (Nat.le_of_ble_eq_true rfl) dX2_spendOne_32 (fun H locs hP hD hS => ?_)
        have hP : va_P D vwCl (wM aM aw ae cA pw ce (lf - (1 : Int32)) mq ct wd er) H := hP
        have hD : va_D A (wM aM aw ae cA pw ce (lf - (1 : Int32)) mq ct wd er) := hD
        refine lv_iconst (v := 1) hx hb dX2_spendOne_35 (by decide) ?_
        have hE : spX2_spendOne pw ce lf ct = ((1 : Int32), pw, ce, (lf - (1 : Int32)), ct) := by unfold spX2_spendOne; rw [if_neg c_4, if_neg c_13, if_neg c_22]
        exact W.zret (v := (1 : Int32)) hx hb hr rfl (fun t ht hW => ⟨⟨(1 : Int32), (), rfl, by rw [hE], by rw [hE, ht]; exact hP, va_K.moved hW.alike hK, by rw [hE]; exact hD⟩, hS.F ht⟩) hS.2.2 dX2_spendOne_36
    · refine lv_iconst (v := 1) hx hb dX2_spendOne_16 (by decide) ?_
      have hE : spX2_spendOne pw ce lf ct = ((1 : Int32), pw, ce, lf, ct) := by unfold spX2_spendOne; rw [if_neg c_4, if_pos c_13]
      exact W.zret (v := (1 : Int32)) hx hb hr rfl (fun t ht hW => ⟨⟨(1 : Int32), (), rfl, by rw [hE], by rw [hE, ht]; exact hP, va_K.moved hW.alike hK, by rw [hE]; exact hD⟩, hS.F ht⟩) hS.2.2 dX2_spendOne_17
  · refine lv_iconst (v := 0) hx hb dX2_spendOne_7 (by decide) ?_
    have hE : spX2_spendOne pw ce lf ct = ((0 : Int32), pw, ce, lf, ct) := by unfold spX2_spendOne; rw [if_pos c_4]
    exact W.zret (v := (0 : Int32)) hx hb hr rfl (fun t ht hW => ⟨⟨(0 : Int32), (), rfl, by rw [hE], by rw [hE, ht]; exact hP, va_K.moved hW.alike hK, by rw [hE]; exact hD⟩, hS.F ht⟩) hS.2.2 dX2_spendOne_8
theorem k_spend01 (pw ce lf ct : Int32) : (spX2_spendOne pw ce lf ct).1 = 0 ∨ (spX2_spendOne pw ce lf ct).1 = 1 := by
  unfold spX2_spendOne
  split
  · exact Or.inl rfl
  · split
    · exact Or.inr rfl
    · split
      · exact Or.inl rfl
      · exact Or.inr rfl
def spX2_write (pw : Int32) (ce : Int32) (lf : Int32) (ct : Int32) (wd : Nat → Int32) (p1 : Int32) (p2 : Int32) (p3 : Int32) : Int32 × Int32 × Int32 × Int32 × Int32 × (Nat → Int32) := (if (spX2_holds p1 p2) = 0 then ((0 : Int32), pw, ce, lf, ct, wd) else (if (spX2_spendOne pw ce lf ct).1 = 0 then ((0 : Int32), (spX2_spendOne pw ce lf ct).2.1, (spX2_spendOne pw ce lf ct).2.2.1, (spX2_spendOne pw ce lf ct).2.2.2.1, (spX2_spendOne pw ce lf ct).2.2.2.2, wd) else ((1 : Int32), (spX2_spendOne pw ce lf ct).2.1, (spX2_spendOne pw ce lf ct).2.2.1, (spX2_spendOne pw ce lf ct).2.2.2.1, (spX2_spendOne pw ce lf ct).2.2.2.2, (upd wd (Int32.toNatClampNeg ((p1 * (256 : Int32)) + p2)) p3))))
set_option maxHeartbeats 4000000 in
set_option maxRecDepth 100000 in
theorem c_X2_write (l : Launch) (D : va_G) (aM aw ae : Nat) (cA : ClassId) (pw : Int32) (ce : Int32) (lf : Int32) (mq : Int32) (ct : Int32) (wd : Nat → Int32) (er : Nat → Int32) (p1 : Int32) (p2 : Int32) (p3 : Int32)  : kWi l yX2_write cX2_write 4 (some .boolean) { frames := 1, cells := 0, slots := 0, locals := 22 } D [(cA, .int)] [.ref aM, .int p1, .int p2, .int p3] (wM aM aw ae cA pw ce lf mq ct wd er) (spX2_write pw ce lf ct wd p1 p2 p3).1 (wM aM aw ae cA (spX2_write pw ce lf ct wd p1 p2 p3).2.1 (spX2_write pw ce lf ct wd p1 p2 p3).2.2.1 (spX2_write pw ce lf ct wd p1 p2 p3).2.2.2.1 mq (spX2_write pw ce lf ct wd p1 p2 p3).2.2.2.2.1 (spX2_write pw ce lf ct wd p1 p2 p3).2.2.2.2.2 er) := by
  intro sz
  refine Met.ofW (cc := cX2_write) (maxL := 4) (ret := (some .boolean)) (by decide) rfl ?_
  intro p e s m args below meth c s₁ B hml hv
  obtain ⟨rfl, hsz, hP, hK, hD0⟩ := hv
  have hx := B.exec
  have hb := B.bytes
  have hr := B.returns
  have hts : ∀ w ∈ kG, w.before _ s = true := fun w h => atoms_spec (ws := kT yX2_write cX2_write 4 (some .boolean)) B.pre w (List.mem_cons_of_mem _ h)
  have hown : s.vm.findClass RX2 = some m.cls := findClass_of_methodNamed B.named
  have hlocks := B.notSynchronized
  subst hsz
  have hD := hD0.self (sz := s.heap.size)
  generalize hAe : va_A (wM aM aw ae cA pw ce lf mq ct wd er) s.heap.size = A at hD ⊢
  have hA : ∀ q : Nat, s.heap.size ≤ q → A q := fun q h => by rw [← hAe]; exact Or.inr h
  have hS : va_S A s.heap s.heap [] := va_S.rf
  have hl := lv_entry ([.ref aM, .int p1, .int p2, .int p3]) (n := 4) (Nat.le_of_ble_eq_true rfl)
  rw [lg_entry_eq]
  generalize (lg_sl ([.ref aM, .int p1, .int p2, .int p3]) ++ List.replicate (4 - (lg_sl ([.ref aM, .int p1, .int p2, .int p3])).length) Slot.unset).toArray = ls at hl ⊢
  have hl : lv_has ls 4 [(0, .ref aM), (1, .int p1), (2, .int p2), (3, .int p3)] := hl
  refine lv_aload_n hx hb dX2_write_0 rfl (lv_at hl 0 rfl) ?_
  refine lv_iload_n hx hb dX2_write_1 rfl (lv_at hl 1 rfl) ?_
  refine lv_iload_n hx hb dX2_write_2 rfl (lv_at hl 2 rfl) ?_
  refine k_rdVi (As := [.int p1, .int p2]) (rest := []) (ci := 2) (q0 := 0) ⟨hx, hb, hml, hown, hts⟩ k_self (c_X2_holds l D aM aw ae cA pw ce lf mq ct wd er p1 p2) kv_X2_26 (hP.sub [0, 1, 2] rfl) (hK.sub [0] rfl) rfl rfl rfl rfl ⟨Nat.le_of_ble_eq_true rfl, Nat.le_of_ble_eq_true rfl⟩ rfl hl.1 rfl (Nat.le_of_ble_eq_true rfl) dX2_write_3 ⟨Nat.zero_le _, Nat.zero_le _⟩ ?_
  refine lv_if_eq (tgt := 16) hx hb dX2_write_6 (by decide) (fun c_6 => ?_) (fun c_6 => ?_)
  · refine lv_iconst (v := 0) hx hb dX2_write_16 (by decide) ?_
    have hE : spX2_write pw ce lf ct wd p1 p2 p3 = ((0 : Int32), pw, ce, lf, ct, wd) := by unfold spX2_write; rw [if_pos c_6]
    exact W.zret (v := (0 : Int32)) hx hb hr rfl (fun t ht hW => ⟨⟨(0 : Int32), (), rfl, by rw [hE], by rw [hE, ht]; exact hP, va_K.moved hW.alike hK, by rw [hE]; exact hD⟩, hS.F ht⟩) hS.2.2 dX2_write_17
  · refine lv_aload_n hx hb dX2_write_9 rfl (lv_at hl 0 rfl) ?_
    refine k_wrVi (As := []) (rest := []) (ci := 2) (q0 := 0) (ws' := (wM aM aw ae cA (spX2_spendOne pw ce lf ct).2.1 (spX2_spendOne pw ce lf ct).2.2.1 (spX2_spendOne pw ce lf ct).2.2.2.1 mq (spX2_spendOne pw ce lf ct).2.2.2.2 wd er)) (wr := []) ⟨hx, hb, hml, hown, hts⟩ k_self (c_X2_spendOne l D aM aw ae cA pw ce lf mq ct wd er ) kv_X2_30 hP hD hS hA hK rfl rfl [0, 1, 2] [] [0, 1, 2] rfl (by decide) rfl (by decide) (by decide) rfl (by decide) rfl rfl ⟨Nat.le_of_ble_eq_true rfl, Nat.le_of_ble_eq_true rfl⟩ rfl hl.1 rfl (Nat.le_of_ble_eq_true rfl) dX2_write_10 ⟨Nat.zero_le _, Nat.zero_le _⟩ (fun H locs hP hD hS => ?_)
    refine lv_if_ne (tgt := 18) hx hb dX2_write_13 (by decide) (fun c_13 => ?_) (fun c_13 => ?_)
    · refine lv_aload_n hx hb dX2_write_18 rfl (lv_at hl 0 rfl) ?_
      refine va_get (D := D) (ci := 2) (v := .ref aw) (C := RX2) (T := TX2) (N := 7) hx hb hts k_inX2 hown hK hP 0 rfl rfl 0 (by decide) (hts _ kw_75) (fun _ h9 => h9) rfl dX2_write_19 ?_
      refine lv_iload_n hx hb dX2_write_22 rfl (lv_at hl 1 rfl) ?_
      refine lv_sipush (v := 256) hx hb dX2_write_23 (by decide) ?_
      refine lv_imul hx hb dX2_write_26 ?_
      refine lv_iload_n hx hb dX2_write_27 rfl (lv_at hl 2 rfl) ?_
      refine lv_iadd hx hb dX2_write_28 ?_
      refine lv_iload_n hx hb dX2_write_29 rfl (lv_at hl 3 rfl) ?_
      refine va_iast hx hb hK hP hD hS 1 0 rfl rfl (k_place (k_holds c_6)) dX2_write_30 (fun H locs hP hD hS => ?_)
      have hP : va_P D vwCl (wM aM aw ae cA (spX2_spendOne pw ce lf ct).2.1 (spX2_spendOne pw ce lf ct).2.2.1 (spX2_spendOne pw ce lf ct).2.2.2.1 mq (spX2_spendOne pw ce lf ct).2.2.2.2 (upd wd (Int32.toNatClampNeg ((p1 * (256 : Int32)) + p2)) p3) er) H := hP
      have hD : va_D A (wM aM aw ae cA (spX2_spendOne pw ce lf ct).2.1 (spX2_spendOne pw ce lf ct).2.2.1 (spX2_spendOne pw ce lf ct).2.2.2.1 mq (spX2_spendOne pw ce lf ct).2.2.2.2 (upd wd (Int32.toNatClampNeg ((p1 * (256 : Int32)) + p2)) p3) er) := hD
      refine lv_iconst (v := 1) hx hb dX2_write_31 (by decide) ?_
      have hE : spX2_write pw ce lf ct wd p1 p2 p3 = ((1 : Int32), (spX2_spendOne pw ce lf ct).2.1, (spX2_spendOne pw ce lf ct).2.2.1, (spX2_spendOne pw ce lf ct).2.2.2.1, (spX2_spendOne pw ce lf ct).2.2.2.2, (upd wd (Int32.toNatClampNeg ((p1 * (256 : Int32)) + p2)) p3)) := by unfold spX2_write; rw [if_neg c_6, if_neg c_13]
      exact W.zret (v := (1 : Int32)) hx hb hr rfl (fun t ht hW => ⟨⟨(1 : Int32), (), rfl, by rw [hE], by rw [hE, ht]; exact hP, va_K.moved hW.alike hK, by rw [hE]; exact hD⟩, hS.F ht⟩) hS.2.2 dX2_write_32
    · refine lv_iconst (v := 0) hx hb dX2_write_16 (by decide) ?_
      have hE : spX2_write pw ce lf ct wd p1 p2 p3 = ((0 : Int32), (spX2_spendOne pw ce lf ct).2.1, (spX2_spendOne pw ce lf ct).2.2.1, (spX2_spendOne pw ce lf ct).2.2.2.1, (spX2_spendOne pw ce lf ct).2.2.2.2, wd) := by unfold spX2_write; rw [if_neg c_6, if_pos c_13]
      exact W.zret (v := (0 : Int32)) hx hb hr rfl (fun t ht hW => ⟨⟨(0 : Int32), (), rfl, by rw [hE], by rw [hE, ht]; exact hP, va_K.moved hW.alike hK, by rw [hE]; exact hD⟩, hS.F ht⟩) hS.2.2 dX2_write_17
def lpX2_eraseSector_49 : Nat → Int32 → Int32 → Int32 → Int32 → Int32 → (Nat → Int32) → (Nat → Int32) → Int32 → Int32 → Int32 → Int32 → (Int32 × Int32 × Int32 × Int32 × Int32 × (Nat → Int32) × (Nat → Int32))
  | 0, pw1, ce1, lf1, _, ct1, wd1, er1, _, _, _, _ => (0, pw1, ce1, lf1, ct1, wd1, er1)
  | n + 1, pw1, ce1, lf1, mq, ct1, wd1, er1, x1, x2, x3, x4 => (if (256 : Int32) ≤ x4 then (x2, pw1, ce1, lf1, ct1, wd1, er1) else (if (((Int32.toUInt32 x3 >>> (Int32.toUInt32 (x4 - x4 / (32 : Int32) * (32 : Int32)) &&& Int32.toUInt32 31)).toInt32) &&& (1 : Int32)) = 0 then (lpX2_eraseSector_49 n pw1 ce1 lf1 mq ct1 (upd wd1 (Int32.toNatClampNeg ((x1 * (256 : Int32)) + x4)) (-1 : Int32)) er1 x1 x2 x3 (x4 + (1 : Int32))) else (lpX2_eraseSector_49 n pw1 ce1 lf1 mq ct1 wd1 er1 x1 x2 x3 (x4 + (1 : Int32)))))
theorem lpX2_eraseSector_49_e (n : Nat) (pw1 : Int32) (ce1 : Int32) (lf1 : Int32) (mq : Int32) (ct1 : Int32) (wd1 : Nat → Int32) (er1 : Nat → Int32) (x1 : Int32) (x2 : Int32) (x3 : Int32) (x4 : Int32) : lpX2_eraseSector_49 (n + 1) pw1 ce1 lf1 mq ct1 wd1 er1 x1 x2 x3 x4 = (if (256 : Int32) ≤ x4 then (x2, pw1, ce1, lf1, ct1, wd1, er1) else (if (((Int32.toUInt32 x3 >>> (Int32.toUInt32 (x4 - x4 / (32 : Int32) * (32 : Int32)) &&& Int32.toUInt32 31)).toInt32) &&& (1 : Int32)) = 0 then (lpX2_eraseSector_49 n pw1 ce1 lf1 mq ct1 (upd wd1 (Int32.toNatClampNeg ((x1 * (256 : Int32)) + x4)) (-1 : Int32)) er1 x1 x2 x3 (x4 + (1 : Int32))) else (lpX2_eraseSector_49 n pw1 ce1 lf1 mq ct1 wd1 er1 x1 x2 x3 (x4 + (1 : Int32))))) := rfl
def spX2_eraseSector (pw : Int32) (ce : Int32) (lf : Int32) (mq : Int32) (ct : Int32) (wd : Nat → Int32) (er : Nat → Int32) (p1 : Int32) : Int32 × Int32 × Int32 × Int32 × Int32 × (Nat → Int32) × (Nat → Int32) := (if pw = 0 then ((0 : Int32), pw, ce, lf, ct, wd, er) else (if (spX2_holds p1 (0 : Int32)) = 0 then ((0 : Int32), pw, ce, lf, ct, wd, er) else (if (spX2_spendOne pw ce lf ct).1 = 0 then (lpX2_eraseSector_49 257 ((spX2_spendOne pw ce lf ct).2.1) ((spX2_spendOne pw ce lf ct).2.2.1) ((spX2_spendOne pw ce lf ct).2.2.2.1) mq ((spX2_spendOne pw ce lf ct).2.2.2.2) wd (upd er (Int32.toNatClampNeg p1) ((er (Int32.toNatClampNeg p1)) + (1 : Int32))) p1 ((spX2_spendOne pw ce lf ct).1) mq (0 : Int32)) else (lpX2_eraseSector_49 257 ((spX2_spendOne pw ce lf ct).2.1) ((spX2_spendOne pw ce lf ct).2.2.1) ((spX2_spendOne pw ce lf ct).2.2.2.1) mq ((spX2_spendOne pw ce lf ct).2.2.2.2) wd (upd er (Int32.toNatClampNeg p1) ((er (Int32.toNatClampNeg p1)) + (1 : Int32))) p1 ((spX2_spendOne pw ce lf ct).1) (0 : Int32) (0 : Int32)))))
set_option maxHeartbeats 4000000 in
set_option maxRecDepth 100000 in
theorem c_X2_eraseSector (l : Launch) (D : va_G) (aM aw ae : Nat) (cA : ClassId) (pw : Int32) (ce : Int32) (lf : Int32) (mq : Int32) (ct : Int32) (wd : Nat → Int32) (er : Nat → Int32) (p1 : Int32)  : kWi l yX2_eraseSector cX2_eraseSector 5 (some .boolean) { frames := 1, cells := 0, slots := 0, locals := 22 } D [(cA, .int)] [.ref aM, .int p1] (wM aM aw ae cA pw ce lf mq ct wd er) (spX2_eraseSector pw ce lf mq ct wd er p1).1 (wM aM aw ae cA (spX2_eraseSector pw ce lf mq ct wd er p1).2.1 (spX2_eraseSector pw ce lf mq ct wd er p1).2.2.1 (spX2_eraseSector pw ce lf mq ct wd er p1).2.2.2.1 mq (spX2_eraseSector pw ce lf mq ct wd er p1).2.2.2.2.1 (spX2_eraseSector pw ce lf mq ct wd er p1).2.2.2.2.2.1 (spX2_eraseSector pw ce lf mq ct wd er p1).2.2.2.2.2.2) := by
  intro sz
  refine Met.ofW (cc := cX2_eraseSector) (maxL := 5) (ret := (some .boolean)) (by decide) rfl ?_
  intro p e s m args below meth c s₁ B hml hv
  obtain ⟨rfl, hsz, hP, hK, hD0⟩ := hv
  have hx := B.exec
  have hb := B.bytes
  have hr := B.returns
  have hts : ∀ w ∈ kG, w.before _ s = true := fun w h => atoms_spec (ws := kT yX2_eraseSector cX2_eraseSector 5 (some .boolean)) B.pre w (List.mem_cons_of_mem _ h)
  have hown : s.vm.findClass RX2 = some m.cls := findClass_of_methodNamed B.named
  have hlocks := B.notSynchronized
  subst hsz
  have hD := hD0.self (sz := s.heap.size)
  generalize hAe : va_A (wM aM aw ae cA pw ce lf mq ct wd er) s.heap.size = A at hD ⊢
  have hA : ∀ q : Nat, s.heap.size ≤ q → A q := fun q h => by rw [← hAe]; exact Or.inr h
  have hS : va_S A s.heap s.heap [] := va_S.rf
  have hl := lv_entry ([.ref aM, .int p1]) (n := 5) (Nat.le_of_ble_eq_true rfl)
  rw [lg_entry_eq]
  generalize (lg_sl ([.ref aM, .int p1]) ++ List.replicate (5 - (lg_sl ([.ref aM, .int p1])).length) Slot.unset).toArray = ls at hl ⊢
  have hl : lv_has ls 5 [(0, .ref aM), (1, .int p1)] := hl
  have L49 : ∀ (n : Nat) (pw1 : Int32) (ce1 : Int32) (lf1 : Int32) (ct1 : Int32) (wd1 : Nat → Int32) (er1 : Nat → Int32) (x1 : Int32) (x2 : Int32) (x3 : Int32) (x4 : Int32) (H : Heap) (locs : List Loc) (ls : Array Slot), ((∃ k : Nat, x4 = nI k ∧ k ≤ 256 ∧ 256 < k + n) ∧ (¬ spX2_holds x1 0 = 0 ∧ (x2 = 0 ∨ x2 = 1))) → spX2_eraseSector pw ce lf mq ct wd er p1 = lpX2_eraseSector_49 n pw1 ce1 lf1 mq ct1 wd1 er1 x1 x2 x3 x4 → va_P D vwCl (wM aM aw ae cA pw1 ce1 lf1 mq ct1 wd1 er1) H → va_D A (wM aM aw ae cA pw1 ce1 lf1 mq ct1 wd1 er1) → va_S A s.heap H locs → lv_has ls 5 [(0, .ref aM), (1, .int x1), (2, .int x2), (3, .int x3), (4, .int x4)] → W p l e (headSpec (kT yX2_eraseSector cX2_eraseSector 5 (some .boolean)) ({ frames := 1, cells := 0, slots := 0, locals := 22 })).room s m ([.ref aM, .int p1] : List Value).toArray below meth c H locs 0 0 (MQ below (va_Qi (fun r (_ : Unit) => r = (spX2_eraseSector pw ce lf mq ct wd er p1).1) (kPost D A (wM aM aw ae cA (spX2_eraseSector pw ce lf mq ct wd er p1).2.1 (spX2_eraseSector pw ce lf mq ct wd er p1).2.2.1 (spX2_eraseSector pw ce lf mq ct wd er p1).2.2.2.1 mq (spX2_eraseSector pw ce lf mq ct wd er p1).2.2.2.2.1 (spX2_eraseSector pw ce lf mq ct wd er p1).2.2.2.2.2.1 (spX2_eraseSector pw ce lf mq ct wd er p1).2.2.2.2.2.2) [(cA, .int)]) A) ([.ref aM, .int p1] : List Value).toArray s 0 0 A) (F0 m 49 ls []) := by
    intro n
    induction n with
    | zero =>
      intro pw1 ce1 lf1 ct1 wd1 er1 x1 x2 x3 x4 H locs ls hI
      exact absurd hI (by rintro ⟨⟨k, -, h1, h2⟩, -⟩; omega)
    | succ n ih =>
      intro pw1 ce1 lf1 ct1 wd1 er1 x1 x2 x3 x4 H locs ls hI hE hP hD hS hl
      obtain ⟨⟨k, hk, hk1, hk2⟩, hI2⟩ := hI
      refine lv_iload hx hb dX2_eraseSector_49 (lv_at hl 4 rfl) ?_
      refine lv_sipush (v := 256) hx hb dX2_eraseSector_51 (by decide) ?_
      refine lv_icmp_ge (tgt := 89) hx hb dX2_eraseSector_54 (by decide) (fun c_54 => ?_) (fun c_54 => ?_)
      · refine lv_iload_n hx hb dX2_eraseSector_89 rfl (lv_at hl 2 rfl) ?_
        have hE : spX2_eraseSector pw ce lf mq ct wd er p1 = (x2, pw1, ce1, lf1, ct1, wd1, er1) := hE.trans (by rw [lpX2_eraseSector_49_e, if_pos c_54])
        exact W.zret (v := x2) hx hb hr (k_bool hI2.2) (fun t ht hW => ⟨⟨x2, (), rfl, by rw [hE], by rw [hE, ht]; exact hP, va_K.moved hW.alike hK, by rw [hE]; exact hD⟩, hS.F ht⟩) hS.2.2 dX2_eraseSector_90
      · refine lv_iload_n hx hb dX2_eraseSector_57 rfl (lv_at hl 3 rfl) ?_
        refine lv_iload hx hb dX2_eraseSector_58 (lv_at hl 4 rfl) ?_
        refine lv_bipush (v := 32) hx hb dX2_eraseSector_60 (by decide) ?_
        refine lv_irem hx hb dX2_eraseSector_62 (by decide) ?_
        refine lv_iushr (v := (Int32.toUInt32 x3 >>> (Int32.toUInt32 (x4 - x4 / (32 : Int32) * (32 : Int32)) &&& Int32.toUInt32 31)).toInt32) hx hb dX2_eraseSector_63 rfl ?_
        refine lv_iconst (v := 1) hx hb dX2_eraseSector_64 (by decide) ?_
        refine lv_iand hx hb dX2_eraseSector_65 ?_
        refine lv_if_ne (tgt := 83) hx hb dX2_eraseSector_66 (by decide) (fun c_66 => ?_) (fun c_66 => ?_)
        · refine lv_iinc (v := (x4 + (1 : Int32))) (lv' := [(4, .int (x4 + (1 : Int32))), (0, .ref aM), (1, .int x1), (2, .int x2), (3, .int x3)]) hx hb dX2_eraseSector_83 hl (k := 4) rfl rfl (by decide) rfl (fun ls hl => ?_)
          refine lv_goto (tgt := 49) hx hb dX2_eraseSector_86 (by decide) ?_
          exact ih  pw1 ce1 lf1 ct1 wd1 er1 x1 x2 x3 (x4 + (1 : Int32)) _ _ ls (⟨k_step (N := 256) rfl (by decide) hk hk1 hk2 c_54, hI2⟩) (hE.trans (by rw [lpX2_eraseSector_49_e, if_neg c_54, if_neg c_66])) hP hD hS (lv_sub hl [1, 2, 3, 4, 0] rfl)
        · refine lv_aload_n hx hb dX2_eraseSector_69 rfl (lv_at hl 0 rfl) ?_
          refine va_get (D := D) (ci := 2) (v := .ref aw) (C := RX2) (T := TX2) (N := 7) hx hb hts k_inX2 hown hK hP 0 rfl rfl 0 (by decide) (hts _ kw_75) (fun _ h9 => h9) rfl dX2_eraseSector_70 ?_
          refine lv_iload_n hx hb dX2_eraseSector_73 rfl (lv_at hl 1 rfl) ?_
          refine lv_sipush (v := 256) hx hb dX2_eraseSector_74 (by decide) ?_
          refine lv_imul hx hb dX2_eraseSector_77 ?_
          refine lv_iload hx hb dX2_eraseSector_78 (lv_at hl 4 rfl) ?_
          refine lv_iadd hx hb dX2_eraseSector_80 ?_
          refine lv_iconst (v := -1) hx hb dX2_eraseSector_81 (by decide) ?_
          refine va_iast hx hb hK hP hD hS 1 0 rfl rfl (k_place ⟨(k_holds hI2.1).1, by have := k_lt (N := 256) rfl hk hk1 (by decide) c_54; rw [hk, nI_toInt (by omega)]; omega⟩) dX2_eraseSector_82 (fun H locs hP hD hS => ?_)
          have hP : va_P D vwCl (wM aM aw ae cA pw1 ce1 lf1 mq ct1 (upd wd1 (Int32.toNatClampNeg ((x1 * (256 : Int32)) + x4)) (-1 : Int32)) er1) H := hP
          have hD : va_D A (wM aM aw ae cA pw1 ce1 lf1 mq ct1 (upd wd1 (Int32.toNatClampNeg ((x1 * (256 : Int32)) + x4)) (-1 : Int32)) er1) := hD
          refine lv_iinc (v := (x4 + (1 : Int32))) (lv' := [(4, .int (x4 + (1 : Int32))), (0, .ref aM), (1, .int x1), (2, .int x2), (3, .int x3)]) hx hb dX2_eraseSector_83 hl (k := 4) rfl rfl (by decide) rfl (fun ls hl => ?_)
          refine lv_goto (tgt := 49) hx hb dX2_eraseSector_86 (by decide) ?_
          exact ih  pw1 ce1 lf1 ct1 (upd wd1 (Int32.toNatClampNeg ((x1 * (256 : Int32)) + x4)) (-1 : Int32)) er1 x1 x2 x3 (x4 + (1 : Int32)) _ _ ls (⟨k_step (N := 256) rfl (by decide) hk hk1 hk2 c_54, hI2⟩) (hE.trans (by rw [lpX2_eraseSector_49_e, if_neg c_54, if_pos c_66])) hP hD hS (lv_sub hl [1, 2, 3, 4, 0] rfl)
  refine lv_aload_n hx hb dX2_eraseSector_0 rfl (lv_at hl 0 rfl) ?_
  refine va_get (D := D) (ci := 2) (v := .int pw) (C := RX2) (T := TX2) (N := 7) hx hb hts k_inX2 hown hK hP 0 rfl rfl 2 (by decide) (hts _ kw_77) (fun _ h9 => h9) rfl dX2_eraseSector_1 ?_
  refine lv_if_eq (tgt := 16) hx hb dX2_eraseSector_4 (by decide) (fun c_4 => ?_) (fun c_4 => ?_)
  · refine lv_iconst (v := 0) hx hb dX2_eraseSector_16 (by decide) ?_
    have hE : spX2_eraseSector pw ce lf mq ct wd er p1 = ((0 : Int32), pw, ce, lf, ct, wd, er) := by unfold spX2_eraseSector; rw [if_pos c_4]
    exact W.zret (v := (0 : Int32)) hx hb hr rfl (fun t ht hW => ⟨⟨(0 : Int32), (), rfl, by rw [hE], by rw [hE, ht]; exact hP, va_K.moved hW.alike hK, by rw [hE]; exact hD⟩, hS.F ht⟩) hS.2.2 dX2_eraseSector_17
  · refine lv_aload_n hx hb dX2_eraseSector_7 rfl (lv_at hl 0 rfl) ?_
    refine lv_iload_n hx hb dX2_eraseSector_8 rfl (lv_at hl 1 rfl) ?_
    refine lv_iconst (v := 0) hx hb dX2_eraseSector_9 (by decide) ?_
    refine k_rdVi (As := [.int p1, .int (0 : Int32)]) (rest := []) (ci := 2) (q0 := 0) ⟨hx, hb, hml, hown, hts⟩ k_self (c_X2_holds l D aM aw ae cA pw ce lf mq ct wd er p1 (0 : Int32)) kv_X2_26 (hP.sub [0, 1, 2] rfl) (hK.sub [0] rfl) rfl rfl rfl rfl ⟨Nat.le_of_ble_eq_true rfl, Nat.le_of_ble_eq_true rfl⟩ rfl hl.1 rfl (Nat.le_of_ble_eq_true rfl) dX2_eraseSector_10 ⟨Nat.zero_le _, Nat.zero_le _⟩ ?_
    refine lv_if_ne (tgt := 18) hx hb dX2_eraseSector_13 (by decide) (fun c_13 => ?_) (fun c_13 => ?_)
    · refine lv_aload_n hx hb dX2_eraseSector_18 rfl (lv_at hl 0 rfl) ?_
      refine k_wrVi (As := []) (rest := []) (ci := 2) (q0 := 0) (ws' := (wM aM aw ae cA (spX2_spendOne pw ce lf ct).2.1 (spX2_spendOne pw ce lf ct).2.2.1 (spX2_spendOne pw ce lf ct).2.2.2.1 mq (spX2_spendOne pw ce lf ct).2.2.2.2 wd er)) (wr := []) ⟨hx, hb, hml, hown, hts⟩ k_self (c_X2_spendOne l D aM aw ae cA pw ce lf mq ct wd er ) kv_X2_30 hP hD hS hA hK rfl rfl [0, 1, 2] [] [0, 1, 2] rfl (by decide) rfl (by decide) (by decide) rfl (by decide) rfl rfl ⟨Nat.le_of_ble_eq_true rfl, Nat.le_of_ble_eq_true rfl⟩ rfl hl.1 rfl (Nat.le_of_ble_eq_true rfl) dX2_eraseSector_19 ⟨Nat.zero_le _, Nat.zero_le _⟩ (fun H locs hP hD hS => ?_)
      refine lv_istore_n (lv' := [(2, .int (spX2_spendOne pw ce lf ct).1), (0, .ref aM), (1, .int p1)]) hx hb dX2_eraseSector_22 rfl hl (by decide) rfl (fun ls hl => ?_)
      refine lv_aload_n hx hb dX2_eraseSector_23 rfl (lv_at hl 1 rfl) ?_
      refine va_get (D := D) (ci := 2) (v := .ref ae) (C := RX2) (T := TX2) (N := 7) hx hb hts k_inX2 hown hK hP 0 rfl rfl 1 (by decide) (hts _ kw_76) (fun _ h9 => h9) rfl dX2_eraseSector_24 ?_
      refine lv_iload_n hx hb dX2_eraseSector_27 rfl (lv_at hl 2 rfl) ?_
      refine lv_dup2_11 hx hb dX2_eraseSector_28 rfl rfl ?_
      refine va_iald hx hb hK hP 2 0 rfl rfl (k_sect c_13) dX2_eraseSector_29 ?_
      refine lv_iconst (v := 1) hx hb dX2_eraseSector_30 (by decide) ?_
      refine lv_iadd hx hb dX2_eraseSector_31 ?_
      refine va_iast hx hb hK hP hD hS 2 0 rfl rfl (k_sect c_13) dX2_eraseSector_32 (fun H locs hP hD hS => ?_)
      have hP : va_P D vwCl (wM aM aw ae cA (spX2_spendOne pw ce lf ct).2.1 (spX2_spendOne pw ce lf ct).2.2.1 (spX2_spendOne pw ce lf ct).2.2.2.1 mq (spX2_spendOne pw ce lf ct).2.2.2.2 wd (upd er (Int32.toNatClampNeg p1) ((er (Int32.toNatClampNeg p1)) + (1 : Int32)))) H := hP
      have hD : va_D A (wM aM aw ae cA (spX2_spendOne pw ce lf ct).2.1 (spX2_spendOne pw ce lf ct).2.2.1 (spX2_spendOne pw ce lf ct).2.2.2.1 mq (spX2_spendOne pw ce lf ct).2.2.2.2 wd (upd er (Int32.toNatClampNeg p1) ((er (Int32.toNatClampNeg p1)) + (1 : Int32)))) := hD
      refine lv_iload_n hx hb dX2_eraseSector_33 rfl (lv_at hl 0 rfl) ?_
      refine lv_if_eq (tgt := 41) hx hb dX2_eraseSector_34 (by decide) (fun c_34 => ?_) (fun c_34 => ?_)
      · refine lv_aload_n hx hb dX2_eraseSector_41 rfl (lv_at hl 1 rfl) ?_
        refine va_get (D := D) (ci := 2) (v := .int mq) (C := RX2) (T := TX2) (N := 7) hx hb hts k_inX2 hown hK hP 0 rfl rfl 5 (by decide) (hts _ kw_80) (fun _ h9 => h9) rfl dX2_eraseSector_42 ?_
        refine lv_istore_n (lv' := [(3, .int mq), (2, .int (spX2_spendOne pw ce lf ct).1), (0, .ref aM), (1, .int p1)]) hx hb dX2_eraseSector_45 rfl hl (by decide) rfl (fun ls hl => ?_)
        refine lv_iconst (v := 0) hx hb dX2_eraseSector_46 (by decide) ?_
        refine lv_istore (lv' := [(4, .int (0 : Int32)), (3, .int mq), (2, .int (spX2_spendOne pw ce lf ct).1), (0, .ref aM), (1, .int p1)]) hx hb dX2_eraseSector_47 hl (by decide) rfl (fun ls hl => ?_)
        exact L49 257 ((spX2_spendOne pw ce lf ct).2.1) ((spX2_spendOne pw ce lf ct).2.2.1) ((spX2_spendOne pw ce lf ct).2.2.2.1) ((spX2_spendOne pw ce lf ct).2.2.2.2) wd (upd er (Int32.toNatClampNeg p1) ((er (Int32.toNatClampNeg p1)) + (1 : Int32))) p1 ((spX2_spendOne pw ce lf ct).1) mq (0 : Int32) _ _ ls (⟨⟨0, rfl, by decide, by decide⟩, ⟨c_13, k_spend01 _ _ _ _⟩⟩) (by unfold spX2_eraseSector; rw [if_neg c_4, if_neg c_13, if_pos c_34]) hP hD hS (lv_sub hl [3, 4, 2, 1, 0] rfl)
      · refine lv_iconst (v := 0) hx hb dX2_eraseSector_37 (by decide) ?_
        refine lv_goto (tgt := 45) hx hb dX2_eraseSector_38 (by decide) ?_
        refine lv_istore_n (lv' := [(3, .int (0 : Int32)), (2, .int (spX2_spendOne pw ce lf ct).1), (0, .ref aM), (1, .int p1)]) hx hb dX2_eraseSector_45 rfl hl (by decide) rfl (fun ls hl => ?_)
        refine lv_iconst (v := 0) hx hb dX2_eraseSector_46 (by decide) ?_
        refine lv_istore (lv' := [(4, .int (0 : Int32)), (3, .int (0 : Int32)), (2, .int (spX2_spendOne pw ce lf ct).1), (0, .ref aM), (1, .int p1)]) hx hb dX2_eraseSector_47 hl (by decide) rfl (fun ls hl => ?_)
        exact L49 257 ((spX2_spendOne pw ce lf ct).2.1) ((spX2_spendOne pw ce lf ct).2.2.1) ((spX2_spendOne pw ce lf ct).2.2.2.1) ((spX2_spendOne pw ce lf ct).2.2.2.2) wd (upd er (Int32.toNatClampNeg p1) ((er (Int32.toNatClampNeg p1)) + (1 : Int32))) p1 ((spX2_spendOne pw ce lf ct).1) (0 : Int32) (0 : Int32) _ _ ls (⟨⟨0, rfl, by decide, by decide⟩, ⟨c_13, k_spend01 _ _ _ _⟩⟩) (by unfold spX2_eraseSector; rw [if_neg c_4, if_neg c_13, if_neg c_34]) hP hD hS (lv_sub hl [3, 4, 2, 1, 0] rfl)
    · refine lv_iconst (v := 0) hx hb dX2_eraseSector_16 (by decide) ?_
      have hE : spX2_eraseSector pw ce lf mq ct wd er p1 = ((0 : Int32), pw, ce, lf, ct, wd, er) := by unfold spX2_eraseSector; rw [if_neg c_4, if_pos c_13]
      exact W.zret (v := (0 : Int32)) hx hb hr rfl (fun t ht hW => ⟨⟨(0 : Int32), (), rfl, by rw [hE], by rw [hE, ht]; exact hP, va_K.moved hW.alike hK, by rw [hE]; exact hD⟩, hS.F ht⟩) hS.2.2 dX2_eraseSector_17
def lpX2_markOf_7 : Nat → (Nat → Int32) → Int32 → Int32 → Int32 → Int32 → Int32 → Int32
  | 0, _, _, _, _, _, _ => 0
  | n + 1, wd, x1, x2, x3, x4, x5 => (if x3 ≤ x5 then (if (x4 ^^^ (1515870810 : Int32)) = (-1 : Int32) then (0 : Int32) else (x4 ^^^ (1515870810 : Int32))) else (if (256 : Int32) ≤ x5 then (if (x4 ^^^ (1515870810 : Int32)) = (-1 : Int32) then (0 : Int32) else (x4 ^^^ (1515870810 : Int32))) else (lpX2_markOf_7 n wd x1 x2 x3 (((31 : Int32) * x4) + (spX2_read wd x1 (x2 + x5))) (x5 + (1 : Int32)))))
theorem lpX2_markOf_7_e (n : Nat) (wd : Nat → Int32) (x1 : Int32) (x2 : Int32) (x3 : Int32) (x4 : Int32) (x5 : Int32) : lpX2_markOf_7 (n + 1) wd x1 x2 x3 x4 x5 = (if x3 ≤ x5 then (if (x4 ^^^ (1515870810 : Int32)) = (-1 : Int32) then (0 : Int32) else (x4 ^^^ (1515870810 : Int32))) else (if (256 : Int32) ≤ x5 then (if (x4 ^^^ (1515870810 : Int32)) = (-1 : Int32) then (0 : Int32) else (x4 ^^^ (1515870810 : Int32))) else (lpX2_markOf_7 n wd x1 x2 x3 (((31 : Int32) * x4) + (spX2_read wd x1 (x2 + x5))) (x5 + (1 : Int32))))) := rfl
def spX2_markOf (wd : Nat → Int32) (p1 : Int32) (p2 : Int32) (p3 : Int32) : Int32 := (lpX2_markOf_7 257 wd p1 p2 p3 (17 : Int32) (0 : Int32))
set_option maxHeartbeats 4000000 in
set_option maxRecDepth 100000 in
theorem c_X2_markOf (l : Launch) (D : va_G) (aM aw ae : Nat) (cA : ClassId) (pw : Int32) (ce : Int32) (lf : Int32) (mq : Int32) (ct : Int32) (wd : Nat → Int32) (er : Nat → Int32) (p1 : Int32) (p2 : Int32) (p3 : Int32)  : kRi l yX2_markOf cX2_markOf 6 (some .int) { frames := 2, cells := 0, slots := 0, locals := 44 } [.ref aM, .int p1, .int p2, .int p3] (kB D (wM aM aw ae cA pw ce lf mq ct wd er) [(cA, .int)]) (spX2_markOf wd p1 p2 p3) := by
  refine Met.ofW (cc := cX2_markOf) (maxL := 6) (ret := (some .int)) (by decide) rfl ?_
  intro p e s m args below meth c s₁ B hml hv
  obtain ⟨rfl, hP, hK⟩ := hv
  have hx := B.exec
  have hb := B.bytes
  have hr := B.returns
  have hts : ∀ w ∈ kG, w.before _ s = true := fun w h => atoms_spec (ws := kT yX2_markOf cX2_markOf 6 (some .int)) B.pre w (List.mem_cons_of_mem _ h)
  have hown : s.vm.findClass RX2 = some m.cls := findClass_of_methodNamed B.named
  have hlocks := B.notSynchronized
  have hl := lv_entry ([.ref aM, .int p1, .int p2, .int p3]) (n := 6) (Nat.le_of_ble_eq_true rfl)
  rw [lg_entry_eq]
  generalize (lg_sl ([.ref aM, .int p1, .int p2, .int p3]) ++ List.replicate (6 - (lg_sl ([.ref aM, .int p1, .int p2, .int p3])).length) Slot.unset).toArray = ls at hl ⊢
  have hl : lv_has ls 6 [(0, .ref aM), (1, .int p1), (2, .int p2), (3, .int p3)] := hl
  have L7 : ∀ (n : Nat)  (x1 : Int32) (x2 : Int32) (x3 : Int32) (x4 : Int32) (x5 : Int32) (ls : Array Slot), (∃ k : Nat, x5 = nI k ∧ k ≤ 256 ∧ 256 < k + n) → spX2_markOf wd p1 p2 p3 = lpX2_markOf_7 n wd x1 x2 x3 x4 x5 → lv_has ls 6 [(0, .ref aM), (1, .int x1), (2, .int x2), (3, .int x3), (4, .int x4), (5, .int x5)] → W p l e (headSpec (kT yX2_markOf cX2_markOf 6 (some .int)) ({ frames := 2, cells := 0, slots := 0, locals := 44 })).room s m ([.ref aM, .int p1, .int p2, .int p3] : List Value).toArray below meth c s.heap [] 0 0 (MQ below (vp_Si (fun r => r = spX2_markOf wd p1 p2 p3)) ([.ref aM, .int p1, .int p2, .int p3] : List Value).toArray s 0 0 (fun _ => False)) (F0 m 7 ls []) := by
    intro n
    induction n with
    | zero =>
      intro x1 x2 x3 x4 x5 ls hI
      exact absurd hI (by rintro ⟨k, -, h1, h2⟩; omega)
    | succ n ih =>
      intro x1 x2 x3 x4 x5 ls hI hE hl
      obtain ⟨k, hk, hk1, hk2⟩ := hI
      refine lv_iload hx hb dX2_markOf_7 (lv_at hl 5 rfl) ?_
      refine lv_iload_n hx hb dX2_markOf_9 rfl (lv_at hl 3 rfl) ?_
      refine lv_icmp_ge (tgt := 44) hx hb dX2_markOf_10 (by decide) (fun c_10 => ?_) (fun c_10 => ?_)
      · refine lv_iload hx hb dX2_markOf_44 (lv_at hl 4 rfl) ?_
        refine lv_ldc (v := 1515870810) hx hb hown (hts _ kw_153) dX2_markOf_46 ?_
        refine lv_ixor hx hb dX2_markOf_48 ?_
        refine lv_istore (lv' := [(4, .int (x4 ^^^ (1515870810 : Int32))), (0, .ref aM), (1, .int x1), (2, .int x2), (3, .int x3), (5, .int x5)]) hx hb dX2_markOf_49 hl (by decide) rfl (fun ls hl => ?_)
        refine lv_iload hx hb dX2_markOf_51 (lv_at hl 0 rfl) ?_
        refine lv_iconst (v := -1) hx hb dX2_markOf_53 (by decide) ?_
        refine lv_icmp_ne (tgt := 61) hx hb dX2_markOf_54 (by decide) (fun c_54 => ?_) (fun c_54 => ?_)
        · refine lv_iload hx hb dX2_markOf_61 (lv_at hl 0 rfl) ?_
          exact W.iret (v := (x4 ^^^ (1515870810 : Int32))) hx hb hr (fun t ht hW => ⟨(x4 ^^^ (1515870810 : Int32)), rfl, (show _ = _ from (hE.trans (by rw [lpX2_markOf_7_e, if_pos c_10, if_neg c_54]) : spX2_markOf wd p1 p2 p3 = (x4 ^^^ (1515870810 : Int32))).symm), ht⟩) (fun q h => by cases h) dX2_markOf_63
        · refine lv_iconst (v := 0) hx hb dX2_markOf_57 (by decide) ?_
          refine lv_goto (tgt := 63) hx hb dX2_markOf_58 (by decide) ?_
          exact W.iret (v := (0 : Int32)) hx hb hr (fun t ht hW => ⟨(0 : Int32), rfl, (show _ = _ from (hE.trans (by rw [lpX2_markOf_7_e, if_pos c_10, if_pos c_54]) : spX2_markOf wd p1 p2 p3 = (0 : Int32)).symm), ht⟩) (fun q h => by cases h) dX2_markOf_63
      · refine lv_iload hx hb dX2_markOf_13 (lv_at hl 5 rfl) ?_
        refine lv_sipush (v := 256) hx hb dX2_markOf_15 (by decide) ?_
        refine lv_icmp_ge (tgt := 44) hx hb dX2_markOf_18 (by decide) (fun c_18 => ?_) (fun c_18 => ?_)
        · refine lv_iload hx hb dX2_markOf_44 (lv_at hl 4 rfl) ?_
          refine lv_ldc (v := 1515870810) hx hb hown (hts _ kw_153) dX2_markOf_46 ?_
          refine lv_ixor hx hb dX2_markOf_48 ?_
          refine lv_istore (lv' := [(4, .int (x4 ^^^ (1515870810 : Int32))), (0, .ref aM), (1, .int x1), (2, .int x2), (3, .int x3), (5, .int x5)]) hx hb dX2_markOf_49 hl (by decide) rfl (fun ls hl => ?_)
          refine lv_iload hx hb dX2_markOf_51 (lv_at hl 0 rfl) ?_
          refine lv_iconst (v := -1) hx hb dX2_markOf_53 (by decide) ?_
          refine lv_icmp_ne (tgt := 61) hx hb dX2_markOf_54 (by decide) (fun c_54 => ?_) (fun c_54 => ?_)
          · refine lv_iload hx hb dX2_markOf_61 (lv_at hl 0 rfl) ?_
            exact W.iret (v := (x4 ^^^ (1515870810 : Int32))) hx hb hr (fun t ht hW => ⟨(x4 ^^^ (1515870810 : Int32)), rfl, (show _ = _ from (hE.trans (by rw [lpX2_markOf_7_e, if_neg c_10, if_pos c_18, if_neg c_54]) : spX2_markOf wd p1 p2 p3 = (x4 ^^^ (1515870810 : Int32))).symm), ht⟩) (fun q h => by cases h) dX2_markOf_63
          · refine lv_iconst (v := 0) hx hb dX2_markOf_57 (by decide) ?_
            refine lv_goto (tgt := 63) hx hb dX2_markOf_58 (by decide) ?_
            exact W.iret (v := (0 : Int32)) hx hb hr (fun t ht hW => ⟨(0 : Int32), rfl, (show _ = _ from (hE.trans (by rw [lpX2_markOf_7_e, if_neg c_10, if_pos c_18, if_pos c_54]) : spX2_markOf wd p1 p2 p3 = (0 : Int32)).symm), ht⟩) (fun q h => by cases h) dX2_markOf_63
        · refine lv_bipush (v := 31) hx hb dX2_markOf_21 (by decide) ?_
          refine lv_iload hx hb dX2_markOf_23 (lv_at hl 4 rfl) ?_
          refine lv_imul hx hb dX2_markOf_25 ?_
          refine lv_aload_n hx hb dX2_markOf_26 rfl (lv_at hl 0 rfl) ?_
          refine lv_iload_n hx hb dX2_markOf_27 rfl (lv_at hl 1 rfl) ?_
          refine lv_iload_n hx hb dX2_markOf_28 rfl (lv_at hl 2 rfl) ?_
          refine lv_iload hx hb dX2_markOf_29 (lv_at hl 5 rfl) ?_
          refine lv_iadd hx hb dX2_markOf_31 ?_
          refine k_rdVi (As := [.int x1, .int (x2 + x5)]) (rest := [.int ((31 : Int32) * x4)]) (ci := 2) (q0 := 0) ⟨hx, hb, hml, hown, hts⟩ k_self (c_X2_read l D aM aw ae cA pw ce lf mq ct wd er x1 (x2 + x5)) kv_X2_38 (hP.sub [0, 1, 2] rfl) (hK.sub [0] rfl) rfl rfl rfl rfl ⟨Nat.le_of_ble_eq_true rfl, Nat.le_of_ble_eq_true rfl⟩ rfl hl.1 rfl (Nat.le_of_ble_eq_true rfl) dX2_markOf_32 ⟨Nat.zero_le _, Nat.zero_le _⟩ ?_
          refine lv_iadd hx hb dX2_markOf_35 ?_
          refine lv_istore (lv' := [(4, .int (((31 : Int32) * x4) + (spX2_read wd x1 (x2 + x5)))), (0, .ref aM), (1, .int x1), (2, .int x2), (3, .int x3), (5, .int x5)]) hx hb dX2_markOf_36 hl (by decide) rfl (fun ls hl => ?_)
          refine lv_iinc (v := (x5 + (1 : Int32))) (lv' := [(5, .int (x5 + (1 : Int32))), (4, .int (((31 : Int32) * x4) + (spX2_read wd x1 (x2 + x5)))), (0, .ref aM), (1, .int x1), (2, .int x2), (3, .int x3)]) hx hb dX2_markOf_38 hl (k := 5) rfl rfl (by decide) rfl (fun ls hl => ?_)
          refine lv_goto (tgt := 7) hx hb dX2_markOf_41 (by decide) ?_
          exact ih   x1 x2 x3 (((31 : Int32) * x4) + (spX2_read wd x1 (x2 + x5))) (x5 + (1 : Int32)) ls (k_step (N := 256) rfl (by decide) hk hk1 hk2 c_18) (hE.trans (by rw [lpX2_markOf_7_e, if_neg c_10, if_neg c_18])) (lv_sub hl [2, 3, 4, 5, 1, 0] rfl)
  refine lv_bipush (v := 17) hx hb dX2_markOf_0 (by decide) ?_
  refine lv_istore (lv' := [(4, .int (17 : Int32)), (0, .ref aM), (1, .int p1), (2, .int p2), (3, .int p3)]) hx hb dX2_markOf_2 hl (by decide) rfl (fun ls hl => ?_)
  refine lv_iconst (v := 0) hx hb dX2_markOf_4 (by decide) ?_
  refine lv_istore (lv' := [(5, .int (0 : Int32)), (4, .int (17 : Int32)), (0, .ref aM), (1, .int p1), (2, .int p2), (3, .int p3)]) hx hb dX2_markOf_5 hl (by decide) rfl (fun ls hl => ?_)
  exact L7 257  p1 p2 p3 (17 : Int32) (0 : Int32) ls (⟨0, rfl, by decide, by decide⟩) (by unfold spX2_markOf; rfl) (lv_sub hl [2, 3, 4, 5, 1, 0] rfl)
def lpX2_areBlank_3 : Nat → (Nat → Int32) → Int32 → Int32 → Int32 → Int32 → Int32
  | 0, _, _, _, _, _ => 0
  | n + 1, wd, x1, x2, x3, x4 => (if x3 ≤ x4 then (1 : Int32) else (if (256 : Int32) ≤ x4 then (1 : Int32) else (if (spX2_read wd x1 (x2 + x4)) = (-1 : Int32) then (lpX2_areBlank_3 n wd x1 x2 x3 (x4 + (1 : Int32))) else (0 : Int32))))
theorem lpX2_areBlank_3_e (n : Nat) (wd : Nat → Int32) (x1 : Int32) (x2 : Int32) (x3 : Int32) (x4 : Int32) : lpX2_areBlank_3 (n + 1) wd x1 x2 x3 x4 = (if x3 ≤ x4 then (1 : Int32) else (if (256 : Int32) ≤ x4 then (1 : Int32) else (if (spX2_read wd x1 (x2 + x4)) = (-1 : Int32) then (lpX2_areBlank_3 n wd x1 x2 x3 (x4 + (1 : Int32))) else (0 : Int32)))) := rfl
def spX2_areBlank (wd : Nat → Int32) (p1 : Int32) (p2 : Int32) (p3 : Int32) : Int32 := (lpX2_areBlank_3 257 wd p1 p2 p3 (0 : Int32))
set_option maxHeartbeats 4000000 in
set_option maxRecDepth 100000 in
theorem c_X2_areBlank (l : Launch) (D : va_G) (aM aw ae : Nat) (cA : ClassId) (pw : Int32) (ce : Int32) (lf : Int32) (mq : Int32) (ct : Int32) (wd : Nat → Int32) (er : Nat → Int32) (p1 : Int32) (p2 : Int32) (p3 : Int32)  : kRi l yX2_areBlank cX2_areBlank 5 (some .boolean) { frames := 2, cells := 0, slots := 0, locals := 44 } [.ref aM, .int p1, .int p2, .int p3] (kB D (wM aM aw ae cA pw ce lf mq ct wd er) [(cA, .int)]) (spX2_areBlank wd p1 p2 p3) := by
  refine Met.ofW (cc := cX2_areBlank) (maxL := 5) (ret := (some .boolean)) (by decide) rfl ?_
  intro p e s m args below meth c s₁ B hml hv
  obtain ⟨rfl, hP, hK⟩ := hv
  have hx := B.exec
  have hb := B.bytes
  have hr := B.returns
  have hts : ∀ w ∈ kG, w.before _ s = true := fun w h => atoms_spec (ws := kT yX2_areBlank cX2_areBlank 5 (some .boolean)) B.pre w (List.mem_cons_of_mem _ h)
  have hown : s.vm.findClass RX2 = some m.cls := findClass_of_methodNamed B.named
  have hlocks := B.notSynchronized
  have hl := lv_entry ([.ref aM, .int p1, .int p2, .int p3]) (n := 5) (Nat.le_of_ble_eq_true rfl)
  rw [lg_entry_eq]
  generalize (lg_sl ([.ref aM, .int p1, .int p2, .int p3]) ++ List.replicate (5 - (lg_sl ([.ref aM, .int p1, .int p2, .int p3])).length) Slot.unset).toArray = ls at hl ⊢
  have hl : lv_has ls 5 [(0, .ref aM), (1, .int p1), (2, .int p2), (3, .int p3)] := hl
  have L3 : ∀ (n : Nat)  (x1 : Int32) (x2 : Int32) (x3 : Int32) (x4 : Int32) (ls : Array Slot), (∃ k : Nat, x4 = nI k ∧ k ≤ 256 ∧ 256 < k + n) → spX2_areBlank wd p1 p2 p3 = lpX2_areBlank_3 n wd x1 x2 x3 x4 → lv_has ls 5 [(0, .ref aM), (1, .int x1), (2, .int x2), (3, .int x3), (4, .int x4)] → W p l e (headSpec (kT yX2_areBlank cX2_areBlank 5 (some .boolean)) ({ frames := 2, cells := 0, slots := 0, locals := 44 })).room s m ([.ref aM, .int p1, .int p2, .int p3] : List Value).toArray below meth c s.heap [] 0 0 (MQ below (vp_Si (fun r => r = spX2_areBlank wd p1 p2 p3)) ([.ref aM, .int p1, .int p2, .int p3] : List Value).toArray s 0 0 (fun _ => False)) (F0 m 3 ls []) := by
    intro n
    induction n with
    | zero =>
      intro x1 x2 x3 x4 ls hI
      exact absurd hI (by rintro ⟨k, -, h1, h2⟩; omega)
    | succ n ih =>
      intro x1 x2 x3 x4 ls hI hE hl
      obtain ⟨k, hk, hk1, hk2⟩ := hI
      refine lv_iload hx hb dX2_areBlank_3 (lv_at hl 4 rfl) ?_
      refine lv_iload_n hx hb dX2_areBlank_5 rfl (lv_at hl 3 rfl) ?_
      refine lv_icmp_ge (tgt := 38) hx hb dX2_areBlank_6 (by decide) (fun c_6 => ?_) (fun c_6 => ?_)
      · refine lv_iconst (v := 1) hx hb dX2_areBlank_38 (by decide) ?_
        exact W.zret (v := (1 : Int32)) hx hb hr rfl (fun t ht hW => ⟨(1 : Int32), rfl, (show _ = _ from (hE.trans (by rw [lpX2_areBlank_3_e, if_pos c_6]) : spX2_areBlank wd p1 p2 p3 = (1 : Int32)).symm), ht⟩) (fun q h => by cases h) dX2_areBlank_39
      · refine lv_iload hx hb dX2_areBlank_9 (lv_at hl 4 rfl) ?_
        refine lv_sipush (v := 256) hx hb dX2_areBlank_11 (by decide) ?_
        refine lv_icmp_ge (tgt := 38) hx hb dX2_areBlank_14 (by decide) (fun c_14 => ?_) (fun c_14 => ?_)
        · refine lv_iconst (v := 1) hx hb dX2_areBlank_38 (by decide) ?_
          exact W.zret (v := (1 : Int32)) hx hb hr rfl (fun t ht hW => ⟨(1 : Int32), rfl, (show _ = _ from (hE.trans (by rw [lpX2_areBlank_3_e, if_neg c_6, if_pos c_14]) : spX2_areBlank wd p1 p2 p3 = (1 : Int32)).symm), ht⟩) (fun q h => by cases h) dX2_areBlank_39
        · refine lv_aload_n hx hb dX2_areBlank_17 rfl (lv_at hl 0 rfl) ?_
          refine lv_iload_n hx hb dX2_areBlank_18 rfl (lv_at hl 1 rfl) ?_
          refine lv_iload_n hx hb dX2_areBlank_19 rfl (lv_at hl 2 rfl) ?_
          refine lv_iload hx hb dX2_areBlank_20 (lv_at hl 4 rfl) ?_
          refine lv_iadd hx hb dX2_areBlank_22 ?_
          refine k_rdVi (As := [.int x1, .int (x2 + x4)]) (rest := []) (ci := 2) (q0 := 0) ⟨hx, hb, hml, hown, hts⟩ k_self (c_X2_read l D aM aw ae cA pw ce lf mq ct wd er x1 (x2 + x4)) kv_X2_38 (hP.sub [0, 1, 2] rfl) (hK.sub [0] rfl) rfl rfl rfl rfl ⟨Nat.le_of_ble_eq_true rfl, Nat.le_of_ble_eq_true rfl⟩ rfl hl.1 rfl (Nat.le_of_ble_eq_true rfl) dX2_areBlank_23 ⟨Nat.zero_le _, Nat.zero_le _⟩ ?_
          refine lv_iconst (v := -1) hx hb dX2_areBlank_26 (by decide) ?_
          refine lv_icmp_eq (tgt := 32) hx hb dX2_areBlank_27 (by decide) (fun c_27 => ?_) (fun c_27 => ?_)
          · refine lv_iinc (v := (x4 + (1 : Int32))) (lv' := [(4, .int (x4 + (1 : Int32))), (0, .ref aM), (1, .int x1), (2, .int x2), (3, .int x3)]) hx hb dX2_areBlank_32 hl (k := 4) rfl rfl (by decide) rfl (fun ls hl => ?_)
            refine lv_goto (tgt := 3) hx hb dX2_areBlank_35 (by decide) ?_
            exact ih   x1 x2 x3 (x4 + (1 : Int32)) ls (k_step (N := 256) rfl (by decide) hk hk1 hk2 c_14) (hE.trans (by rw [lpX2_areBlank_3_e, if_neg c_6, if_neg c_14, if_pos c_27])) (lv_sub hl [1, 2, 3, 4, 0] rfl)
          · refine lv_iconst (v := 0) hx hb dX2_areBlank_30 (by decide) ?_
            exact W.zret (v := (0 : Int32)) hx hb hr rfl (fun t ht hW => ⟨(0 : Int32), rfl, (show _ = _ from (hE.trans (by rw [lpX2_areBlank_3_e, if_neg c_6, if_neg c_14, if_neg c_27]) : spX2_areBlank wd p1 p2 p3 = (0 : Int32)).symm), ht⟩) (fun q h => by cases h) dX2_areBlank_31
  refine lv_iconst (v := 0) hx hb dX2_areBlank_0 (by decide) ?_
  refine lv_istore (lv' := [(4, .int (0 : Int32)), (0, .ref aM), (1, .int p1), (2, .int p2), (3, .int p3)]) hx hb dX2_areBlank_1 hl (by decide) rfl (fun ls hl => ?_)
  exact L3 257  p1 p2 p3 (0 : Int32) ls (⟨0, rfl, by decide, by decide⟩) (by unfold spX2_areBlank; rfl) (lv_sub hl [1, 2, 3, 4, 0] rfl)
def spX2_erasesOf (er : Nat → Int32) (p1 : Int32) : Int32 := (if (spX2_holds p1 (0 : Int32)) = 0 then (0 : Int32) else (er (Int32.toNatClampNeg p1)))
set_option maxHeartbeats 4000000 in
set_option maxRecDepth 100000 in
theorem c_X2_erasesOf (l : Launch) (D : va_G) (aM aw ae : Nat) (cA : ClassId) (pw : Int32) (ce : Int32) (lf : Int32) (mq : Int32) (ct : Int32) (wd : Nat → Int32) (er : Nat → Int32) (p1 : Int32)  : kRi l yX2_erasesOf cX2_erasesOf 2 (some .int) { frames := 1, cells := 0, slots := 0, locals := 22 } [.ref aM, .int p1] (kB D (wM aM aw ae cA pw ce lf mq ct wd er) [(cA, .int)]) (spX2_erasesOf er p1) := by
  refine Met.ofW (cc := cX2_erasesOf) (maxL := 2) (ret := (some .int)) (by decide) rfl ?_
  intro p e s m args below meth c s₁ B hml hv
  obtain ⟨rfl, hP, hK⟩ := hv
  have hx := B.exec
  have hb := B.bytes
  have hr := B.returns
  have hts : ∀ w ∈ kG, w.before _ s = true := fun w h => atoms_spec (ws := kT yX2_erasesOf cX2_erasesOf 2 (some .int)) B.pre w (List.mem_cons_of_mem _ h)
  have hown : s.vm.findClass RX2 = some m.cls := findClass_of_methodNamed B.named
  have hlocks := B.notSynchronized
  have hl := lv_entry ([.ref aM, .int p1]) (n := 2) (Nat.le_of_ble_eq_true rfl)
  rw [lg_entry_eq]
  generalize (lg_sl ([.ref aM, .int p1]) ++ List.replicate (2 - (lg_sl ([.ref aM, .int p1])).length) Slot.unset).toArray = ls at hl ⊢
  have hl : lv_has ls 2 [(0, .ref aM), (1, .int p1)] := hl
  refine lv_aload_n hx hb dX2_erasesOf_0 rfl (lv_at hl 0 rfl) ?_
  refine lv_iload_n hx hb dX2_erasesOf_1 rfl (lv_at hl 1 rfl) ?_
  refine lv_iconst (v := 0) hx hb dX2_erasesOf_2 (by decide) ?_
  refine k_rdVi (As := [.int p1, .int (0 : Int32)]) (rest := []) (ci := 2) (q0 := 0) ⟨hx, hb, hml, hown, hts⟩ k_self (c_X2_holds l D aM aw ae cA pw ce lf mq ct wd er p1 (0 : Int32)) kv_X2_26 (hP.sub [0, 1, 2] rfl) (hK.sub [0] rfl) rfl rfl rfl rfl ⟨Nat.le_of_ble_eq_true rfl, Nat.le_of_ble_eq_true rfl⟩ rfl hl.1 rfl (Nat.le_of_ble_eq_true rfl) dX2_erasesOf_3 ⟨Nat.zero_le _, Nat.zero_le _⟩ ?_
  refine lv_if_eq (tgt := 18) hx hb dX2_erasesOf_6 (by decide) (fun c_6 => ?_) (fun c_6 => ?_)
  · refine lv_iconst (v := 0) hx hb dX2_erasesOf_18 (by decide) ?_
    exact W.iret (v := (0 : Int32)) hx hb hr (fun t ht hW => ⟨(0 : Int32), rfl, (show _ = _ from (by unfold spX2_erasesOf; rw [if_pos c_6] : spX2_erasesOf er p1 = (0 : Int32)).symm), ht⟩) (fun q h => by cases h) dX2_erasesOf_19
  · refine lv_aload_n hx hb dX2_erasesOf_9 rfl (lv_at hl 0 rfl) ?_
    refine va_get (D := D) (ci := 2) (v := .ref ae) (C := RX2) (T := TX2) (N := 7) hx hb hts k_inX2 hown hK hP 0 rfl rfl 1 (by decide) (hts _ kw_76) (fun _ h9 => h9) rfl dX2_erasesOf_10 ?_
    refine lv_iload_n hx hb dX2_erasesOf_13 rfl (lv_at hl 1 rfl) ?_
    refine va_iald hx hb hK hP 2 0 rfl rfl (k_sect c_6) dX2_erasesOf_14 ?_
    refine lv_goto (tgt := 19) hx hb dX2_erasesOf_15 (by decide) ?_
    exact W.iret (v := (er (Int32.toNatClampNeg p1))) hx hb hr (fun t ht hW => ⟨(er (Int32.toNatClampNeg p1)), rfl, (show _ = _ from (by unfold spX2_erasesOf; rw [if_neg c_6] : spX2_erasesOf er p1 = (er (Int32.toNatClampNeg p1))).symm), ht⟩) (fun q h => by cases h) dX2_erasesOf_19
def lpX2_wearSpread_10 : Nat → (Nat → Int32) → Int32 → Int32 → Int32 → Int32
  | 0, _, _, _, _ => 0
  | n + 1, er, x1, x2, x3 => (if (16 : Int32) ≤ x3 then (x2 - x1) else (lpX2_wearSpread_10 n er (if (spX2_erasesOf er x3) < x1 then (spX2_erasesOf er x3) else x1) (if x2 < (spX2_erasesOf er x3) then (spX2_erasesOf er x3) else x2) (x3 + (1 : Int32))))
theorem lpX2_wearSpread_10_e (n : Nat) (er : Nat → Int32) (x1 : Int32) (x2 : Int32) (x3 : Int32) : lpX2_wearSpread_10 (n + 1) er x1 x2 x3 = (if (16 : Int32) ≤ x3 then (x2 - x1) else (lpX2_wearSpread_10 n er (if (spX2_erasesOf er x3) < x1 then (spX2_erasesOf er x3) else x1) (if x2 < (spX2_erasesOf er x3) then (spX2_erasesOf er x3) else x2) (x3 + (1 : Int32)))) := rfl
def spX2_wearSpread (er : Nat → Int32) : Int32 := (lpX2_wearSpread_10 16 er (spX2_erasesOf er (0 : Int32)) (spX2_erasesOf er (0 : Int32)) (1 : Int32))
set_option maxHeartbeats 4000000 in
set_option maxRecDepth 100000 in
theorem c_X2_wearSpread (l : Launch) (D : va_G) (aM aw ae : Nat) (cA : ClassId) (pw : Int32) (ce : Int32) (lf : Int32) (mq : Int32) (ct : Int32) (wd : Nat → Int32) (er : Nat → Int32)   : kRi l yX2_wearSpread cX2_wearSpread 4 (some .int) { frames := 2, cells := 0, slots := 0, locals := 43 } [.ref aM] (kB D (wM aM aw ae cA pw ce lf mq ct wd er) [(cA, .int)]) (spX2_wearSpread er) := by
  refine Met.ofW (cc := cX2_wearSpread) (maxL := 4) (ret := (some .int)) (by decide) rfl ?_
  intro p e s m args below meth c s₁ B hml hv
  obtain ⟨rfl, hP, hK⟩ := hv
  have hx := B.exec
  have hb := B.bytes
  have hr := B.returns
  have hts : ∀ w ∈ kG, w.before _ s = true := fun w h => atoms_spec (ws := kT yX2_wearSpread cX2_wearSpread 4 (some .int)) B.pre w (List.mem_cons_of_mem _ h)
  have hown : s.vm.findClass RX2 = some m.cls := findClass_of_methodNamed B.named
  have hlocks := B.notSynchronized
  have hl := lv_entry ([.ref aM]) (n := 4) (Nat.le_of_ble_eq_true rfl)
  rw [lg_entry_eq]
  generalize (lg_sl ([.ref aM]) ++ List.replicate (4 - (lg_sl ([.ref aM])).length) Slot.unset).toArray = ls at hl ⊢
  have hl : lv_has ls 4 [(0, .ref aM)] := hl
  have L10 : ∀ (n : Nat)  (x1 : Int32) (x2 : Int32) (x3 : Int32) (ls : Array Slot), (∃ k : Nat, x3 = nI k ∧ k ≤ 16 ∧ 16 < k + n) → spX2_wearSpread er = lpX2_wearSpread_10 n er x1 x2 x3 → lv_has ls 4 [(0, .ref aM), (1, .int x1), (2, .int x2), (3, .int x3)] → W p l e (headSpec (kT yX2_wearSpread cX2_wearSpread 4 (some .int)) ({ frames := 2, cells := 0, slots := 0, locals := 43 })).room s m ([.ref aM] : List Value).toArray below meth c s.heap [] 0 0 (MQ below (vp_Si (fun r => r = spX2_wearSpread er)) ([.ref aM] : List Value).toArray s 0 0 (fun _ => False)) (F0 m 10 ls []) := by
    intro n
    induction n with
    | zero =>
      intro x1 x2 x3 ls hI
      exact absurd hI (by rintro ⟨k, -, h1, h2⟩; omega)
    | succ n ih =>
      intro x1 x2 x3 ls hI hE hl
      obtain ⟨k, hk, hk1, hk2⟩ := hI
      refine lv_iload_n hx hb dX2_wearSpread_10 rfl (lv_at hl 3 rfl) ?_
      refine lv_bipush (v := 16) hx hb dX2_wearSpread_11 (by decide) ?_
      refine lv_icmp_ge (tgt := 42) hx hb dX2_wearSpread_13 (by decide) (fun c_13 => ?_) (fun c_13 => ?_)
      · refine lv_iload_n hx hb dX2_wearSpread_42 rfl (lv_at hl 2 rfl) ?_
        refine lv_iload_n hx hb dX2_wearSpread_43 rfl (lv_at hl 1 rfl) ?_
        refine lv_isub hx hb dX2_wearSpread_44 ?_
        exact W.iret (v := (x2 - x1)) hx hb hr (fun t ht hW => ⟨(x2 - x1), rfl, (show _ = _ from (hE.trans (by rw [lpX2_wearSpread_10_e, if_pos c_13]) : spX2_wearSpread er = (x2 - x1)).symm), ht⟩) (fun q h => by cases h) dX2_wearSpread_45
      · refine lv_iload_n hx hb dX2_wearSpread_16 rfl (lv_at hl 1 rfl) ?_
        refine lv_aload_n hx hb dX2_wearSpread_17 rfl (lv_at hl 0 rfl) ?_
        refine lv_iload_n hx hb dX2_wearSpread_18 rfl (lv_at hl 3 rfl) ?_
        refine k_rdVi (As := [.int x3]) (rest := [.int x1]) (ci := 2) (q0 := 0) ⟨hx, hb, hml, hown, hts⟩ k_self (c_X2_erasesOf l D aM aw ae cA pw ce lf mq ct wd er x3) kv_X2_43 (hP.sub [0, 1, 2] rfl) (hK.sub [0] rfl) rfl rfl rfl rfl ⟨Nat.le_of_ble_eq_true rfl, Nat.le_of_ble_eq_true rfl⟩ rfl hl.1 rfl (Nat.le_of_ble_eq_true rfl) dX2_wearSpread_19 ⟨Nat.zero_le _, Nat.zero_le _⟩ ?_
        refine va_mmin hx hb (hml.trans hl.1.symm) hown (hts _ kw_453) (hts _ kw_47) (hts _ kw_30) (hts _ kw_48) (Nat.le_of_ble_eq_true rfl) (Nat.le_of_ble_eq_true rfl) (Nat.zero_le _) (Nat.zero_le _) dX2_wearSpread_22 ?_
        refine lv_istore_n (lv' := [(1, .int (if (spX2_erasesOf er x3) < x1 then (spX2_erasesOf er x3) else x1)), (0, .ref aM), (2, .int x2), (3, .int x3)]) hx hb dX2_wearSpread_25 rfl hl (by decide) rfl (fun ls hl => ?_)
        refine lv_iload_n hx hb dX2_wearSpread_26 rfl (lv_at hl 2 rfl) ?_
        refine lv_aload_n hx hb dX2_wearSpread_27 rfl (lv_at hl 1 rfl) ?_
        refine lv_iload_n hx hb dX2_wearSpread_28 rfl (lv_at hl 3 rfl) ?_
        refine k_rdVi (As := [.int x3]) (rest := [.int x2]) (ci := 2) (q0 := 0) ⟨hx, hb, hml, hown, hts⟩ k_self (c_X2_erasesOf l D aM aw ae cA pw ce lf mq ct wd er x3) kv_X2_43 (hP.sub [0, 1, 2] rfl) (hK.sub [0] rfl) rfl rfl rfl rfl ⟨Nat.le_of_ble_eq_true rfl, Nat.le_of_ble_eq_true rfl⟩ rfl hl.1 rfl (Nat.le_of_ble_eq_true rfl) dX2_wearSpread_29 ⟨Nat.zero_le _, Nat.zero_le _⟩ ?_
        refine va_mmax hx hb (hml.trans hl.1.symm) hown (hts _ kw_454) (hts _ kw_50) (hts _ kw_30) (hts _ kw_51) (Nat.le_of_ble_eq_true rfl) (Nat.le_of_ble_eq_true rfl) (Nat.zero_le _) (Nat.zero_le _) dX2_wearSpread_32 ?_
        refine lv_istore_n (lv' := [(2, .int (if x2 < (spX2_erasesOf er x3) then (spX2_erasesOf er x3) else x2)), (1, .int (if (spX2_erasesOf er x3) < x1 then (spX2_erasesOf er x3) else x1)), (0, .ref aM), (3, .int x3)]) hx hb dX2_wearSpread_35 rfl hl (by decide) rfl (fun ls hl => ?_)
        refine lv_iinc (v := (x3 + (1 : Int32))) (lv' := [(3, .int (x3 + (1 : Int32))), (2, .int (if x2 < (spX2_erasesOf er x3) then (spX2_erasesOf er x3) else x2)), (1, .int (if (spX2_erasesOf er x3) < x1 then (spX2_erasesOf er x3) else x1)), (0, .ref aM)]) hx hb dX2_wearSpread_36 hl (k := 3) rfl rfl (by decide) rfl (fun ls hl => ?_)
        refine lv_goto (tgt := 10) hx hb dX2_wearSpread_39 (by decide) ?_
        exact ih   (if (spX2_erasesOf er x3) < x1 then (spX2_erasesOf er x3) else x1) (if x2 < (spX2_erasesOf er x3) then (spX2_erasesOf er x3) else x2) (x3 + (1 : Int32)) ls (k_step (N := 16) rfl (by decide) hk hk1 hk2 c_13) (hE.trans (by rw [lpX2_wearSpread_10_e, if_neg c_13])) (lv_sub hl [3, 2, 1, 0] rfl)
  refine lv_aload_n hx hb dX2_wearSpread_0 rfl (lv_at hl 0 rfl) ?_
  refine lv_iconst (v := 0) hx hb dX2_wearSpread_1 (by decide) ?_
  refine k_rdVi (As := [.int (0 : Int32)]) (rest := []) (ci := 2) (q0 := 0) ⟨hx, hb, hml, hown, hts⟩ k_self (c_X2_erasesOf l D aM aw ae cA pw ce lf mq ct wd er (0 : Int32)) kv_X2_43 (hP.sub [0, 1, 2] rfl) (hK.sub [0] rfl) rfl rfl rfl rfl ⟨Nat.le_of_ble_eq_true rfl, Nat.le_of_ble_eq_true rfl⟩ rfl hl.1 rfl (Nat.le_of_ble_eq_true rfl) dX2_wearSpread_2 ⟨Nat.zero_le _, Nat.zero_le _⟩ ?_
  refine lv_istore_n (lv' := [(1, .int (spX2_erasesOf er (0 : Int32))), (0, .ref aM)]) hx hb dX2_wearSpread_5 rfl hl (by decide) rfl (fun ls hl => ?_)
  refine lv_iload_n hx hb dX2_wearSpread_6 rfl (lv_at hl 0 rfl) ?_
  refine lv_istore_n (lv' := [(2, .int (spX2_erasesOf er (0 : Int32))), (1, .int (spX2_erasesOf er (0 : Int32))), (0, .ref aM)]) hx hb dX2_wearSpread_7 rfl hl (by decide) rfl (fun ls hl => ?_)
  refine lv_iconst (v := 1) hx hb dX2_wearSpread_8 (by decide) ?_
  refine lv_istore_n (lv' := [(3, .int (1 : Int32)), (2, .int (spX2_erasesOf er (0 : Int32))), (1, .int (spX2_erasesOf er (0 : Int32))), (0, .ref aM)]) hx hb dX2_wearSpread_9 rfl hl (by decide) rfl (fun ls hl => ?_)
  exact L10 16  (spX2_erasesOf er (0 : Int32)) (spX2_erasesOf er (0 : Int32)) (1 : Int32) ls (⟨1, rfl, by decide, by decide⟩) (by unfold spX2_wearSpread; rfl) (lv_sub hl [3, 2, 1, 0] rfl)
def spX2_expectCut (ce : Int32) (lf : Int32) (mq : Int32) (p1 : Int32) (p2 : Int32) : Int32 × Int32 × Int32 := ((1 : Int32), p1, p2)
set_option maxHeartbeats 4000000 in
set_option maxRecDepth 100000 in
theorem c_X2_expectCut (l : Launch) (D : va_G) (aM aw ae : Nat) (cA : ClassId) (pw : Int32) (ce : Int32) (lf : Int32) (mq : Int32) (ct : Int32) (wd : Nat → Int32) (er : Nat → Int32) (p1 : Int32) (p2 : Int32)  : kWv l yX2_expectCut cX2_expectCut 3 none { frames := 0, cells := 0, slots := 0, locals := 0 } D [(cA, .int)] [.ref aM, .int p1, .int p2] (wM aM aw ae cA pw ce lf mq ct wd er) (wM aM aw ae cA pw (spX2_expectCut ce lf mq p1 p2).1 (spX2_expectCut ce lf mq p1 p2).2.1 (spX2_expectCut ce lf mq p1 p2).2.2 ct wd er) := by
  intro sz
  refine Met.ofW (cc := cX2_expectCut) (maxL := 3) (ret := none) (by decide) rfl ?_
  intro p e s m args below meth c s₁ B hml hv
  obtain ⟨rfl, hsz, hP, hK, hD0⟩ := hv
  have hx := B.exec
  have hb := B.bytes
  have hr := B.returns
  have hts : ∀ w ∈ kG, w.before _ s = true := fun w h => atoms_spec (ws := kT yX2_expectCut cX2_expectCut 3 none) B.pre w (List.mem_cons_of_mem _ h)
  have hown : s.vm.findClass RX2 = some m.cls := findClass_of_methodNamed B.named
  have hlocks := B.notSynchronized
  subst hsz
  have hD := hD0.self (sz := s.heap.size)
  generalize hAe : va_A (wM aM aw ae cA pw ce lf mq ct wd er) s.heap.size = A at hD ⊢
  have hA : ∀ q : Nat, s.heap.size ≤ q → A q := fun q h => by rw [← hAe]; exact Or.inr h
  have hS : va_S A s.heap s.heap [] := va_S.rf
  have hl := lv_entry ([.ref aM, .int p1, .int p2]) (n := 3) (Nat.le_of_ble_eq_true rfl)
  rw [lg_entry_eq]
  generalize (lg_sl ([.ref aM, .int p1, .int p2]) ++ List.replicate (3 - (lg_sl ([.ref aM, .int p1, .int p2])).length) Slot.unset).toArray = ls at hl ⊢
  have hl : lv_has ls 3 [(0, .ref aM), (1, .int p1), (2, .int p2)] := hl
  refine lv_aload_n hx hb dX2_expectCut_0 rfl (lv_at hl 0 rfl) ?_
  refine lv_iconst (v := 1) hx hb dX2_expectCut_1 (by decide) ?_
  refine va_put (D := D) (ci := 2) (v := .int (1 : Int32)) (ty := .boolean) (C := RX2) (T := TX2) (N := 7) hx hb hts k_inX2 tyX2 tyX2_ok nmX2 hown hK hP hD hS 0 rfl rfl 3 (by decide) (hts _ kw_78) (fun _ h9 => h9) rfl (by decide +kernel) rfl rfl (Nat.le_of_ble_eq_true rfl) dX2_expectCut_2 (fun H locs hP hD hS => ?_)
  have hP : va_P D vwCl (wM aM aw ae cA pw (1 : Int32) lf mq ct wd er) H := hP
  have hD : va_D A (wM aM aw ae cA pw (1 : Int32) lf mq ct wd er) := hD
  refine lv_aload_n hx hb dX2_expectCut_5 rfl (lv_at hl 0 rfl) ?_
  refine lv_iload_n hx hb dX2_expectCut_6 rfl (lv_at hl 1 rfl) ?_
  refine va_put (D := D) (ci := 2) (v := .int p1) (ty := .int) (C := RX2) (T := TX2) (N := 7) hx hb hts k_inX2 tyX2 tyX2_ok nmX2 hown hK hP hD hS 0 rfl rfl 4 (by decide) (hts _ kw_79) (fun _ h9 => h9) rfl (by decide +kernel) rfl rfl (Nat.le_of_ble_eq_true rfl) dX2_expectCut_7 (fun H locs hP hD hS => ?_)
  have hP : va_P D vwCl (wM aM aw ae cA pw (1 : Int32) p1 mq ct wd er) H := hP
  have hD : va_D A (wM aM aw ae cA pw (1 : Int32) p1 mq ct wd er) := hD
  refine lv_aload_n hx hb dX2_expectCut_10 rfl (lv_at hl 0 rfl) ?_
  refine lv_iload_n hx hb dX2_expectCut_11 rfl (lv_at hl 2 rfl) ?_
  refine va_put (D := D) (ci := 2) (v := .int p2) (ty := .int) (C := RX2) (T := TX2) (N := 7) hx hb hts k_inX2 tyX2 tyX2_ok nmX2 hown hK hP hD hS 0 rfl rfl 5 (by decide) (hts _ kw_80) (fun _ h9 => h9) rfl (by decide +kernel) rfl rfl (Nat.le_of_ble_eq_true rfl) dX2_expectCut_12 (fun H locs hP hD hS => ?_)
  have hP : va_P D vwCl (wM aM aw ae cA pw (1 : Int32) p1 p2 ct wd er) H := hP
  have hD : va_D A (wM aM aw ae cA pw (1 : Int32) p1 p2 ct wd er) := hD
  have hE : spX2_expectCut ce lf mq p1 p2 = ((1 : Int32), p1, p2) := by unfold spX2_expectCut; rfl
  exact W.vret hx hb hr (fun t ht hW => ⟨⟨(), rfl, trivial, by rw [hE, ht]; exact hP, va_K.moved hW.alike hK, by rw [hE]; exact hD⟩, hS.F ht⟩) hS.2.2 dX2_expectCut_15
def spX2_cutsSuffered (ct : Int32) : Int32 := ct
set_option maxHeartbeats 4000000 in
set_option maxRecDepth 100000 in
theorem c_X2_cutsSuffered (l : Launch) (D : va_G) (aM aw ae : Nat) (cA : ClassId) (pw : Int32) (ce : Int32) (lf : Int32) (mq : Int32) (ct : Int32) (wd : Nat → Int32) (er : Nat → Int32)   : kRi l yX2_cutsSuffered cX2_cutsSuffered 1 (some .int) { frames := 0, cells := 0, slots := 0, locals := 0 } [.ref aM] (kB D (wM aM aw ae cA pw ce lf mq ct wd er) [(cA, .int)]) (spX2_cutsSuffered ct) := by
  refine Met.ofW (cc := cX2_cutsSuffered) (maxL := 1) (ret := (some .int)) (by decide) rfl ?_
  intro p e s m args below meth c s₁ B hml hv
  obtain ⟨rfl, hP, hK⟩ := hv
  have hx := B.exec
  have hb := B.bytes
  have hr := B.returns
  have hts : ∀ w ∈ kG, w.before _ s = true := fun w h => atoms_spec (ws := kT yX2_cutsSuffered cX2_cutsSuffered 1 (some .int)) B.pre w (List.mem_cons_of_mem _ h)
  have hown : s.vm.findClass RX2 = some m.cls := findClass_of_methodNamed B.named
  have hlocks := B.notSynchronized
  have hl := lv_entry ([.ref aM]) (n := 1) (Nat.le_of_ble_eq_true rfl)
  rw [lg_entry_eq]
  generalize (lg_sl ([.ref aM]) ++ List.replicate (1 - (lg_sl ([.ref aM])).length) Slot.unset).toArray = ls at hl ⊢
  have hl : lv_has ls 1 [(0, .ref aM)] := hl
  refine lv_aload_n hx hb dX2_cutsSuffered_0 rfl (lv_at hl 0 rfl) ?_
  refine va_get (D := D) (ci := 2) (v := .int ct) (C := RX2) (T := TX2) (N := 7) hx hb hts k_inX2 hown hK hP 0 rfl rfl 6 (by decide) (hts _ kw_81) (fun _ h9 => h9) rfl dX2_cutsSuffered_1 ?_
  exact W.iret (v := ct) hx hb hr (fun t ht hW => ⟨ct, rfl, (show _ = _ from (by unfold spX2_cutsSuffered; rfl : spX2_cutsSuffered ct = ct).symm), ht⟩) (fun q h => by cases h) dX2_cutsSuffered_4
def spX2_hasPower (pw : Int32) : Int32 := pw
set_option maxHeartbeats 4000000 in
set_option maxRecDepth 100000 in
theorem c_X2_hasPower (l : Launch) (D : va_G) (aM aw ae : Nat) (cA : ClassId) (pw : Int32) (ce : Int32) (lf : Int32) (mq : Int32) (ct : Int32) (wd : Nat → Int32) (er : Nat → Int32)  (hpw : pw = 0 ∨ pw = 1) : kRi l yX2_hasPower cX2_hasPower 1 (some .boolean) { frames := 0, cells := 0, slots := 0, locals := 0 } [.ref aM] (kB D (wM aM aw ae cA pw ce lf mq ct wd er) [(cA, .int)]) (spX2_hasPower pw) := by
  refine Met.ofW (cc := cX2_hasPower) (maxL := 1) (ret := (some .boolean)) (by decide) rfl ?_
  intro p e s m args below meth c s₁ B hml hv
  obtain ⟨rfl, hP, hK⟩ := hv
  have hx := B.exec
  have hb := B.bytes
  have hr := B.returns
  have hts : ∀ w ∈ kG, w.before _ s = true := fun w h => atoms_spec (ws := kT yX2_hasPower cX2_hasPower 1 (some .boolean)) B.pre w (List.mem_cons_of_mem _ h)
  have hown : s.vm.findClass RX2 = some m.cls := findClass_of_methodNamed B.named
  have hlocks := B.notSynchronized
  have hl := lv_entry ([.ref aM]) (n := 1) (Nat.le_of_ble_eq_true rfl)
  rw [lg_entry_eq]
  generalize (lg_sl ([.ref aM]) ++ List.replicate (1 - (lg_sl ([.ref aM])).length) Slot.unset).toArray = ls at hl ⊢
  have hl : lv_has ls 1 [(0, .ref aM)] := hl
  refine lv_aload_n hx hb dX2_hasPower_0 rfl (lv_at hl 0 rfl) ?_
  refine va_get (D := D) (ci := 2) (v := .int pw) (C := RX2) (T := TX2) (N := 7) hx hb hts k_inX2 hown hK hP 0 rfl rfl 2 (by decide) (hts _ kw_77) (fun _ h9 => h9) rfl dX2_hasPower_1 ?_
  exact W.zret (v := pw) hx hb hr (k_bool hpw) (fun t ht hW => ⟨pw, rfl, (show _ = _ from (by unfold spX2_hasPower; rfl : spX2_hasPower pw = pw).symm), ht⟩) (fun q h => by cases h) dX2_hasPower_4
def spX2_restorePower (pw : Int32) : Int32 := (1 : Int32)
set_option maxHeartbeats 4000000 in
set_option maxRecDepth 100000 in
theorem c_X2_restorePower (l : Launch) (D : va_G) (aM aw ae : Nat) (cA : ClassId) (pw : Int32) (ce : Int32) (lf : Int32) (mq : Int32) (ct : Int32) (wd : Nat → Int32) (er : Nat → Int32)   : kWv l yX2_restorePower cX2_restorePower 1 none { frames := 0, cells := 0, slots := 0, locals := 0 } D [(cA, .int)] [.ref aM] (wM aM aw ae cA pw ce lf mq ct wd er) (wM aM aw ae cA (spX2_restorePower pw) ce lf mq ct wd er) := by
  intro sz
  refine Met.ofW (cc := cX2_restorePower) (maxL := 1) (ret := none) (by decide) rfl ?_
  intro p e s m args below meth c s₁ B hml hv
  obtain ⟨rfl, hsz, hP, hK, hD0⟩ := hv
  have hx := B.exec
  have hb := B.bytes
  have hr := B.returns
  have hts : ∀ w ∈ kG, w.before _ s = true := fun w h => atoms_spec (ws := kT yX2_restorePower cX2_restorePower 1 none) B.pre w (List.mem_cons_of_mem _ h)
  have hown : s.vm.findClass RX2 = some m.cls := findClass_of_methodNamed B.named
  have hlocks := B.notSynchronized
  subst hsz
  have hD := hD0.self (sz := s.heap.size)
  generalize hAe : va_A (wM aM aw ae cA pw ce lf mq ct wd er) s.heap.size = A at hD ⊢
  have hA : ∀ q : Nat, s.heap.size ≤ q → A q := fun q h => by rw [← hAe]; exact Or.inr h
  have hS : va_S A s.heap s.heap [] := va_S.rf
  have hl := lv_entry ([.ref aM]) (n := 1) (Nat.le_of_ble_eq_true rfl)
  rw [lg_entry_eq]
  generalize (lg_sl ([.ref aM]) ++ List.replicate (1 - (lg_sl ([.ref aM])).length) Slot.unset).toArray = ls at hl ⊢
  have hl : lv_has ls 1 [(0, .ref aM)] := hl
  refine lv_aload_n hx hb dX2_restorePower_0 rfl (lv_at hl 0 rfl) ?_
  refine lv_iconst (v := 1) hx hb dX2_restorePower_1 (by decide) ?_
  refine va_put (D := D) (ci := 2) (v := .int (1 : Int32)) (ty := .boolean) (C := RX2) (T := TX2) (N := 7) hx hb hts k_inX2 tyX2 tyX2_ok nmX2 hown hK hP hD hS 0 rfl rfl 2 (by decide) (hts _ kw_77) (fun _ h9 => h9) rfl (by decide +kernel) rfl rfl (Nat.le_of_ble_eq_true rfl) dX2_restorePower_2 (fun H locs hP hD hS => ?_)
  have hP : va_P D vwCl (wM aM aw ae cA (1 : Int32) ce lf mq ct wd er) H := hP
  have hD : va_D A (wM aM aw ae cA (1 : Int32) ce lf mq ct wd er) := hD
  have hE : spX2_restorePower pw = (1 : Int32) := by unfold spX2_restorePower; rfl
  exact W.vret hx hb hr (fun t ht hW => ⟨⟨(), rfl, trivial, by rw [hE, ht]; exact hP, va_K.moved hW.alike hK, by rw [hE]; exact hD⟩, hS.F ht⟩) hS.2.2 dX2_restorePower_5
end
