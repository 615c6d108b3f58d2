section
-- names of the classes, fields, methods; decode rows: out of the claim's own printed NAMES text, by wip/gen/names.py
-- ===== PART A: goes FIRST, ahead of the names: the tables' words, and 'selects' of the private methods out of them =====
/-- a private method of a class that the tables say can be made, by its rows of tables_1 -/
def lw_okq (q : MethodName × Nat) : Prop := (q.1.cls ≠ "java/lang/invoke/MethodHandle" ∧ q.1.cls ≠ "java/lang/invoke/VarHandle") ∧ Cond.instantiable q.1.cls q.2 ∈ tables_1 ∧ Cond.privateMethod q.1 ∈ tables_1 ∧ Cond.instanceMethod q.1 ∈ tables_1
theorem lw_p0 : lw_okq (⟨"CroquetLawn$Position", "allowsFree", "()Z"⟩, 8) := ⟨⟨by decide +kernel, by decide +kernel⟩, List.mem_of_getElem? (i := 24) (by decide +kernel), List.mem_of_getElem? (i := 233) (by decide +kernel), List.mem_of_getElem? (i := 234) (by decide +kernel)⟩
theorem lw_p1 : lw_okq (⟨"CroquetLawn$Position", "allowsFresh", "(II)Z"⟩, 8) := ⟨⟨by decide +kernel, by decide +kernel⟩, List.mem_of_getElem? (i := 24) (by decide +kernel), List.mem_of_getElem? (i := 237) (by decide +kernel), List.mem_of_getElem? (i := 238) (by decide +kernel)⟩
theorem lw_p2 : lw_okq (⟨"CroquetLawn$Play", "noteStriker", "(I)V"⟩, 13) := ⟨⟨by decide +kernel, by decide +kernel⟩, List.mem_of_getElem? (i := 18) (by decide +kernel), List.mem_of_getElem? (i := 248) (by decide +kernel), List.mem_of_getElem? (i := 249) (by decide +kernel)⟩
theorem lw_p3 : lw_okq (⟨"CroquetLawn$Position", "bringIn", "(I)V"⟩, 8) := ⟨⟨by decide +kernel, by decide +kernel⟩, List.mem_of_getElem? (i := 24) (by decide +kernel), List.mem_of_getElem? (i := 264) (by decide +kernel), List.mem_of_getElem? (i := 265) (by decide +kernel)⟩
theorem lw_p4 : lw_okq (⟨"CroquetLawn$Position", "roquet", "(I)V"⟩, 8) := ⟨⟨by decide +kernel, by decide +kernel⟩, List.mem_of_getElem? (i := 24) (by decide +kernel), List.mem_of_getElem? (i := 272) (by decide +kernel), List.mem_of_getElem? (i := 273) (by decide +kernel)⟩
theorem lw_p5 : lw_okq (⟨"CroquetLawn$Position", "croquet", "()V"⟩, 8) := ⟨⟨by decide +kernel, by decide +kernel⟩, List.mem_of_getElem? (i := 24) (by decide +kernel), List.mem_of_getElem? (i := 276) (by decide +kernel), List.mem_of_getElem? (i := 277) (by decide +kernel)⟩
theorem lw_p6 : lw_okq (⟨"CroquetLawn$Position", "spendFree", "()V"⟩, 8) := ⟨⟨by decide +kernel, by decide +kernel⟩, List.mem_of_getElem? (i := 24) (by decide +kernel), List.mem_of_getElem? (i := 280) (by decide +kernel), List.mem_of_getElem? (i := 281) (by decide +kernel)⟩
theorem lw_p7 : lw_okq (⟨"CroquetLawn$Play", "has", "(I)Z"⟩, 13) := ⟨⟨by decide +kernel, by decide +kernel⟩, List.mem_of_getElem? (i := 18) (by decide +kernel), List.mem_of_getElem? (i := 292) (by decide +kernel), List.mem_of_getElem? (i := 293) (by decide +kernel)⟩
theorem lw_p8 : lw_okq (⟨"CroquetLawn$Play", "leadTo", "(LCroquetLawn$Position;I)V"⟩, 13) := ⟨⟨by decide +kernel, by decide +kernel⟩, List.mem_of_getElem? (i := 18) (by decide +kernel), List.mem_of_getElem? (i := 305) (by decide +kernel), List.mem_of_getElem? (i := 306) (by decide +kernel)⟩
theorem lw_p9 : lw_okq (⟨"CroquetLawn$Play", "takeAway", "(I)I"⟩, 13) := ⟨⟨by decide +kernel, by decide +kernel⟩, List.mem_of_getElem? (i := 18) (by decide +kernel), List.mem_of_getElem? (i := 331) (by decide +kernel), List.mem_of_getElem? (i := 332) (by decide +kernel)⟩
theorem lw_p10 : lw_okq (⟨"CroquetLawn$Play", "stopTurn", "(I)I"⟩, 13) := ⟨⟨by decide +kernel, by decide +kernel⟩, List.mem_of_getElem? (i := 18) (by decide +kernel), List.mem_of_getElem? (i := 335) (by decide +kernel), List.mem_of_getElem? (i := 336) (by decide +kernel)⟩
theorem lw_p11 : lw_okq (⟨"CroquetLawn$Play", "counts", "(II)Z"⟩, 13) := ⟨⟨by decide +kernel, by decide +kernel⟩, List.mem_of_getElem? (i := 18) (by decide +kernel), List.mem_of_getElem? (i := 347) (by decide +kernel), List.mem_of_getElem? (i := 348) (by decide +kernel)⟩
theorem lw_p12 : lw_okq (⟨"CroquetLawn$Laws", "read", "()I"⟩, 7) := ⟨⟨by decide +kernel, by decide +kernel⟩, List.mem_of_getElem? (i := 96) (by decide +kernel), List.mem_of_getElem? (i := 403) (by decide +kernel), List.mem_of_getElem? (i := 404) (by decide +kernel)⟩
theorem lw_p13 : lw_okq (⟨"CroquetLawn$Laws", "atEnd", "()Z"⟩, 7) := ⟨⟨by decide +kernel, by decide +kernel⟩, List.mem_of_getElem? (i := 96) (by decide +kernel), List.mem_of_getElem? (i := 407) (by decide +kernel), List.mem_of_getElem? (i := 408) (by decide +kernel)⟩
theorem lw_p14 : lw_okq (⟨"CroquetLawn$Laws", "skipBlanks", "()V"⟩, 7) := ⟨⟨by decide +kernel, by decide +kernel⟩, List.mem_of_getElem? (i := 96) (by decide +kernel), List.mem_of_getElem? (i := 411) (by decide +kernel), List.mem_of_getElem? (i := 412) (by decide +kernel)⟩
theorem lw_p15 : lw_okq (⟨"CroquetLawn$Laws", "here", "()I"⟩, 7) := ⟨⟨by decide +kernel, by decide +kernel⟩, List.mem_of_getElem? (i := 96) (by decide +kernel), List.mem_of_getElem? (i := 415) (by decide +kernel), List.mem_of_getElem? (i := 416) (by decide +kernel)⟩
def lw_privs_1 : List (MethodName × Nat) := [(⟨"CroquetLawn$Position", "allowsFree", "()Z"⟩, 8), (⟨"CroquetLawn$Position", "allowsFresh", "(II)Z"⟩, 8), (⟨"CroquetLawn$Play", "noteStriker", "(I)V"⟩, 13), (⟨"CroquetLawn$Position", "bringIn", "(I)V"⟩, 8), (⟨"CroquetLawn$Position", "roquet", "(I)V"⟩, 8), (⟨"CroquetLawn$Position", "croquet", "()V"⟩, 8), (⟨"CroquetLawn$Position", "spendFree", "()V"⟩, 8), (⟨"CroquetLawn$Play", "has", "(I)Z"⟩, 13), (⟨"CroquetLawn$Play", "leadTo", "(LCroquetLawn$Position;I)V"⟩, 13), (⟨"CroquetLawn$Play", "takeAway", "(I)I"⟩, 13), (⟨"CroquetLawn$Play", "stopTurn", "(I)I"⟩, 13), (⟨"CroquetLawn$Play", "counts", "(II)Z"⟩, 13), (⟨"CroquetLawn$Laws", "read", "()I"⟩, 7), (⟨"CroquetLawn$Laws", "atEnd", "()Z"⟩, 7), (⟨"CroquetLawn$Laws", "skipBlanks", "()V"⟩, 7), (⟨"CroquetLawn$Laws", "here", "()I"⟩, 7)]
theorem lw_r1 : ∀ q ∈ lw_privs_1, lw_okq q := List.forall_mem_cons.mpr ⟨lw_p0, List.forall_mem_cons.mpr ⟨lw_p1, List.forall_mem_cons.mpr ⟨lw_p2, List.forall_mem_cons.mpr ⟨lw_p3, List.forall_mem_cons.mpr ⟨lw_p4, List.forall_mem_cons.mpr ⟨lw_p5, List.forall_mem_cons.mpr ⟨lw_p6, List.forall_mem_cons.mpr ⟨lw_p7, List.forall_mem_cons.mpr ⟨lw_p8, List.forall_mem_cons.mpr ⟨lw_p9, List.forall_mem_cons.mpr ⟨lw_p10, List.forall_mem_cons.mpr ⟨lw_p11, List.forall_mem_cons.mpr ⟨lw_p12, List.forall_mem_cons.mpr ⟨lw_p13, List.forall_mem_cons.mpr ⟨lw_p14, List.forall_mem_cons.mpr ⟨lw_p15, fun _ h => absurd h List.not_mem_nil⟩⟩⟩⟩⟩⟩⟩⟩⟩⟩⟩⟩⟩⟩⟩⟩
theorem lw_p16 : lw_okq (⟨"CroquetLawn$Laws", "readClause", "()Z"⟩, 7) := ⟨⟨by decide +kernel, by decide +kernel⟩, List.mem_of_getElem? (i := 96) (by decide +kernel), List.mem_of_getElem? (i := 419) (by decide +kernel), List.mem_of_getElem? (i := 420) (by decide +kernel)⟩
theorem lw_p17 : lw_okq (⟨"CroquetLawn$Laws", "readNumber", "()I"⟩, 7) := ⟨⟨by decide +kernel, by decide +kernel⟩, List.mem_of_getElem? (i := 96) (by decide +kernel), List.mem_of_getElem? (i := 423) (by decide +kernel), List.mem_of_getElem? (i := 424) (by decide +kernel)⟩
theorem lw_p18 : lw_okq (⟨"CroquetLawn$Laws", "adoptDraft", "()V"⟩, 7) := ⟨⟨by decide +kernel, by decide +kernel⟩, List.mem_of_getElem? (i := 96) (by decide +kernel), List.mem_of_getElem? (i := 430) (by decide +kernel), List.mem_of_getElem? (i := 431) (by decide +kernel)⟩
def lw_privs_2 : List (MethodName × Nat) := [(⟨"CroquetLawn$Laws", "readClause", "()Z"⟩, 7), (⟨"CroquetLawn$Laws", "readNumber", "()I"⟩, 7), (⟨"CroquetLawn$Laws", "adoptDraft", "()V"⟩, 7)]
theorem lw_r2 : ∀ q ∈ lw_privs_2, lw_okq q := List.forall_mem_cons.mpr ⟨lw_p16, List.forall_mem_cons.mpr ⟨lw_p17, List.forall_mem_cons.mpr ⟨lw_p18, fun _ h => absurd h List.not_mem_nil⟩⟩⟩
def lw_privs : List (MethodName × Nat) := lw_privs_1 ++ (lw_privs_2)
def lw_tbl : List Cond := k2_sels lw_privs ++ tables_1
theorem lw_privs_ok : ∀ q ∈ lw_privs, lw_okq q := by
  show ∀ q ∈ lw_privs_1 ++ (lw_privs_2), lw_okq q
  exact List.forall_mem_append.mpr ⟨lw_r1, lw_r2⟩

def RX0 : String := "CroquetLawn$Laws"
def TX0 : u_T := fun k => match k with
  | 0 => ("CroquetLawn$Laws", "tape", "[I", true)
  | 1 => ("CroquetLawn$Laws", "length", "I", false)
  | 2 => ("CroquetLawn$Laws", "place", "I", false)
  | 3 => ("CroquetLawn$Laws", "limits", "[I", true)
  | 4 => ("CroquetLawn$Laws", "letters", "[I", true)
  | 5 => ("CroquetLawn$Laws", "draftLimits", "[I", true)
  | _ => ("CroquetLawn$Laws", "draftLetters", "[I", true)
def tyX0 : Nat → FieldType := fun k => match k with
  | 0 => .array .int
  | 1 => .int
  | 2 => .int
  | 3 => .array .int
  | 4 => .array .int
  | 5 => .array .int
  | _ => .array .int
abbrev wsX00 : List Cond := u_ws RX0 TX0 7
theorem nmX0 : ∀ a, a < 7 → ∀ b, b < 7 → a ≠ b → (TX0 a).2.1 ≠ (TX0 b).2.1 := by decide +kernel
theorem tyX0_ok : ∀ k, k < 7 → parseFieldDescriptor (TX0 k).2.2.1 = some (tyX0 k) := by decide +kernel
abbrev cX0_init : ByteArray := prog_2_method_1_code
def yX0_init : MethodName := ⟨RX0, "<init>", "()V"⟩
abbrev cX0_letterFor : ByteArray := prog_2_method_2_code
def yX0_letterFor : MethodName := ⟨RX0, "letterFor", "(II)I"⟩
abbrev cX0_append : ByteArray := prog_2_method_3_code
def yX0_append : MethodName := ⟨RX0, "append", "(JI)I"⟩
abbrev cX0_byteOf : ByteArray := prog_2_method_4_code
def yX0_byteOf : MethodName := ⟨RX0, "byteOf", "(JI)I"⟩
abbrev cX0_takeTape : ByteArray := prog_2_method_5_code
def yX0_takeTape : MethodName := ⟨RX0, "takeTape", "()I"⟩
abbrev cX0_adoptDraft : ByteArray := prog_2_method_6_code
def yX0_adoptDraft : MethodName := ⟨RX0, "adoptDraft", "()V"⟩
abbrev cX0_read : ByteArray := prog_2_method_7_code
def yX0_read : MethodName := ⟨RX0, "read", "()I"⟩
abbrev cX0_readClause : ByteArray := prog_2_method_8_code
def yX0_readClause : MethodName := ⟨RX0, "readClause", "()Z"⟩
abbrev cX0_readNumber : ByteArray := prog_2_method_9_code
def yX0_readNumber : MethodName := ⟨RX0, "readNumber", "()I"⟩
abbrev cX0_skipBlanks : ByteArray := prog_2_method_10_code
def yX0_skipBlanks : MethodName := ⟨RX0, "skipBlanks", "()V"⟩
abbrev cX0_atEnd : ByteArray := prog_2_method_11_code
def yX0_atEnd : MethodName := ⟨RX0, "atEnd", "()Z"⟩
abbrev cX0_here : ByteArray := prog_2_method_12_code
def yX0_here : MethodName := ⟨RX0, "here", "()I"⟩
def RX1 : String := "CroquetLawn$Meeting"
def TX1 : u_T := fun k => match k with
  | 0 => ("CroquetLawn$Meeting", "winners", "[I", true)
  | 1 => ("CroquetLawn$Meeting", "hours", "[I", true)
  | _ => ("CroquetLawn$Meeting", "lawnCount", "I", false)
def tyX1 : Nat → FieldType := fun k => match k with
  | 0 => .array .int
  | 1 => .array .int
  | _ => .int
abbrev wsX10 : List Cond := u_ws RX1 TX1 3
theorem nmX1 : ∀ a, a < 3 → ∀ b, b < 3 → a ≠ b → (TX1 a).2.1 ≠ (TX1 b).2.1 := by decide +kernel
theorem tyX1_ok : ∀ k, k < 3 → parseFieldDescriptor (TX1 k).2.2.1 = some (tyX1 k) := by decide +kernel
abbrev cX1_init : ByteArray := prog_3_method_1_code
def yX1_init : MethodName := ⟨RX1, "<init>", "()V"⟩
def RX2 : String := "CroquetLawn$Play"
def TX2 : u_T := fun k => match k with
  | 0 => ("CroquetLawn$Play", "kinds", "[I", true)
  | 1 => ("CroquetLawn$Play", "aims", "[I", true)
  | 2 => ("CroquetLawn$Play", "strikers", "[I", true)
  | 3 => ("CroquetLawn$Play", "sides", "[I", true)
  | 4 => ("CroquetLawn$Play", "wrongs", "[I", true)
  | 5 => ("CroquetLawn$Play", "rulings", "[I", true)
  | 6 => ("CroquetLawn$Play", "players", "[I", true)
  | 7 => ("CroquetLawn$Play", "now", "LCroquetLawn$Position;", true)
  | 8 => ("CroquetLawn$Play", "past", "LCroquetLawn$Position;", true)
  | 9 => ("CroquetLawn$Play", "on", "Z", false)
  | 10 => ("CroquetLawn$Play", "size", "I", false)
  | 11 => ("CroquetLawn$Play", "free0", "I", false)
  | _ => ("CroquetLawn$Play", "free1", "I", false)
def tyX2 : Nat → FieldType := fun k => match k with
  | 0 => .array .int
  | 1 => .array .int
  | 2 => .array .int
  | 3 => .array .int
  | 4 => .array .int
  | 5 => .array .int
  | 6 => .array .int
  | 7 => .object "CroquetLawn$Position"
  | 8 => .object "CroquetLawn$Position"
  | 9 => .boolean
  | 10 => .int
  | 11 => .int
  | _ => .int
abbrev wsX20 : List Cond := u_ws RX2 TX2 13
theorem nmX2 : ∀ a, a < 13 → ∀ b, b < 13 → a ≠ b → (TX2 a).2.1 ≠ (TX2 b).2.1 := by decide +kernel
theorem tyX2_ok : ∀ k, k < 13 → parseFieldDescriptor (TX2 k).2.2.1 = some (tyX2 k) := by decide +kernel
abbrev cX2_init : ByteArray := prog_4_method_1_code
def yX2_init : MethodName := ⟨RX2, "<init>", "()V"⟩
abbrev cX2_begin : ByteArray := prog_4_method_2_code
def yX2_begin : MethodName := ⟨RX2, "begin", "(IIII)V"⟩
abbrev cX2_take : ByteArray := prog_4_method_6_code
def yX2_take : MethodName := ⟨RX2, "take", "(II)I"⟩
abbrev cX2_begins : ByteArray := prog_4_method_7_code
def yX2_begins : MethodName := ⟨RX2, "begins", "(I)Z"⟩
abbrev cX2_noteStriker : ByteArray := prog_4_method_8_code
def yX2_noteStriker : MethodName := ⟨RX2, "noteStriker", "(I)V"⟩
abbrev cX2_has : ByteArray := prog_4_method_9_code
def yX2_has : MethodName := ⟨RX2, "has", "(I)Z"⟩
abbrev cX2_tell : ByteArray := prog_4_method_10_code
def yX2_tell : MethodName := ⟨RX2, "tell", "(II)I"⟩
abbrev cX2_asOf : ByteArray := prog_4_method_12_code
def yX2_asOf : MethodName := ⟨RX2, "asOf", "(II)I"⟩
abbrev cX2_leadTo : ByteArray := prog_4_method_13_code
def yX2_leadTo : MethodName := ⟨RX2, "leadTo", "(LCroquetLawn$Position;I)V"⟩
abbrev cX2_obey : ByteArray := prog_4_method_14_code
def yX2_obey : MethodName := ⟨RX2, "obey", "(LCroquetLawn$Position;I)V"⟩
abbrev cX2_find : ByteArray := prog_4_method_15_code
def yX2_find : MethodName := ⟨RX2, "find", "(ILCroquetLawn$Laws;)I"⟩
abbrev cX2_takeAway : ByteArray := prog_4_method_16_code
def yX2_takeAway : MethodName := ⟨RX2, "takeAway", "(I)I"⟩
abbrev cX2_stopTurn : ByteArray := prog_4_method_17_code
def yX2_stopTurn : MethodName := ⟨RX2, "stopTurn", "(I)I"⟩
abbrev cX2_total : ByteArray := prog_4_method_18_code
def yX2_total : MethodName := ⟨RX2, "total", "(I)I"⟩
abbrev cX2_counts : ByteArray := prog_4_method_19_code
def yX2_counts : MethodName := ⟨RX2, "counts", "(II)Z"⟩
def RX3 : String := "CroquetLawn$Position"
def TX3 : u_T := fun k => match k with
  | 0 => ("CroquetLawn$Position", "run", "[I", true)
  | 1 => ("CroquetLawn$Position", "freeLeft", "[I", true)
  | 2 => ("CroquetLawn$Position", "side", "I", false)
  | 3 => ("CroquetLawn$Position", "inPlay", "I", false)
  | 4 => ("CroquetLawn$Position", "toGo", "I", false)
  | 5 => ("CroquetLawn$Position", "live", "I", false)
  | 6 => ("CroquetLawn$Position", "mustCroquet", "I", false)
  | _ => ("CroquetLawn$Position", "freeBall", "I", false)
def tyX3 : Nat → FieldType := fun k => match k with
  | 0 => .array .int
  | 1 => .array .int
  | 2 => .int
  | 3 => .int
  | 4 => .int
  | 5 => .int
  | 6 => .int
  | _ => .int
abbrev wsX30 : List Cond := u_ws RX3 TX3 8
theorem nmX3 : ∀ a, a < 8 → ∀ b, b < 8 → a ≠ b → (TX3 a).2.1 ≠ (TX3 b).2.1 := by decide +kernel
theorem tyX3_ok : ∀ k, k < 8 → parseFieldDescriptor (TX3 k).2.2.1 = some (tyX3 k) := by decide +kernel
abbrev cX3_init : ByteArray := prog_5_method_1_code
def yX3_init : MethodName := ⟨RX3, "<init>", "()V"⟩
abbrev cX3_begin : ByteArray := prog_5_method_2_code
def yX3_begin : MethodName := ⟨RX3, "begin", "(II)V"⟩
abbrev cX3_allows : ByteArray := prog_5_method_3_code
def yX3_allows : MethodName := ⟨RX3, "allows", "(II)Z"⟩
abbrev cX3_allowsFree : ByteArray := prog_5_method_4_code
def yX3_allowsFree : MethodName := ⟨RX3, "allowsFree", "()Z"⟩
abbrev cX3_allowsFresh : ByteArray := prog_5_method_5_code
def yX3_allowsFresh : MethodName := ⟨RX3, "allowsFresh", "(II)Z"⟩
abbrev cX3_isWrong : ByteArray := prog_5_method_6_code
def yX3_isWrong : MethodName := ⟨RX3, "isWrong", "(II)Z"⟩
abbrev cX3_lead : ByteArray := prog_5_method_7_code
def yX3_lead : MethodName := ⟨RX3, "lead", "(II)V"⟩
abbrev cX3_bringIn : ByteArray := prog_5_method_8_code
def yX3_bringIn : MethodName := ⟨RX3, "bringIn", "(I)V"⟩
abbrev cX3_roquet : ByteArray := prog_5_method_9_code
def yX3_roquet : MethodName := ⟨RX3, "roquet", "(I)V"⟩
abbrev cX3_croquet : ByteArray := prog_5_method_10_code
def yX3_croquet : MethodName := ⟨RX3, "croquet", "()V"⟩
abbrev cX3_spendFree : ByteArray := prog_5_method_11_code
def yX3_spendFree : MethodName := ⟨RX3, "spendFree", "()V"⟩
abbrev cX3_endTurn : ByteArray := prog_5_method_12_code
def yX3_endTurn : MethodName := ⟨RX3, "endTurn", "()V"⟩
abbrev cX3_stopFor : ByteArray := prog_5_method_13_code
def yX3_stopFor : MethodName := ⟨RX3, "stopFor", "(I)V"⟩
abbrev cX3_isOut : ByteArray := prog_5_method_14_code
def yX3_isOut : MethodName := ⟨RX3, "isOut", "(I)Z"⟩
abbrev cX3_winner : ByteArray := prog_5_method_15_code
def yX3_winner : MethodName := ⟨RX3, "winner", "()I"⟩
abbrev cX3_side : ByteArray := prog_5_method_16_code
def yX3_side : MethodName := ⟨RX3, "side", "()I"⟩
abbrev cX3_inPlay : ByteArray := prog_5_method_17_code
def yX3_inPlay : MethodName := ⟨RX3, "inPlay", "()I"⟩
abbrev cX3_tell : ByteArray := prog_5_method_18_code
def yX3_tell : MethodName := ⟨RX3, "tell", "(I)I"⟩
def RX4 : String := "CroquetLawn$Roster"
def TX4 : u_T := fun k => match k with
  | _ => ("CroquetLawn$Roster", "indexes", "[I", true)
def tyX4 : Nat → FieldType := fun k => match k with
  | _ => .array .int
abbrev wsX40 : List Cond := u_ws RX4 TX4 1
theorem nmX4 : ∀ a, a < 1 → ∀ b, b < 1 → a ≠ b → (TX4 a).2.1 ≠ (TX4 b).2.1 := by decide +kernel
theorem tyX4_ok : ∀ k, k < 1 → parseFieldDescriptor (TX4 k).2.2.1 = some (tyX4 k) := by decide +kernel
abbrev cX4_init : ByteArray := prog_6_method_1_code
def yX4_init : MethodName := ⟨RX4, "<init>", "()V"⟩
abbrev cX4_put : ByteArray := prog_6_method_2_code
def yX4_put : MethodName := ⟨RX4, "put", "(II)I"⟩
abbrev cX4_handicapOf : ByteArray := prog_6_method_3_code
def yX4_handicapOf : MethodName := ⟨RX4, "handicapOf", "(I)I"⟩
abbrev cX4_freeTurnsOfOther : ByteArray := prog_6_method_4_code
def yX4_freeTurnsOfOther : MethodName := ⟨RX4, "freeTurnsOfOther", "(II)I"⟩
def RX5 : String := "CroquetLawn"
def TX5 : u_T := fun k => match k with
  | 0 => ("CroquetLawn", "play", "LCroquetLawn$Play;", true)
  | 1 => ("CroquetLawn", "book", "LCroquetLawn$Laws;", true)
  | 2 => ("CroquetLawn", "roster", "LCroquetLawn$Roster;", true)
  | _ => ("CroquetLawn", "meeting", "LCroquetLawn$Meeting;", true)
def tyX5 : Nat → FieldType := fun k => match k with
  | 0 => .object "CroquetLawn$Play"
  | 1 => .object "CroquetLawn$Laws"
  | 2 => .object "CroquetLawn$Roster"
  | _ => .object "CroquetLawn$Meeting"
abbrev wsX50 : List Cond := u_ws RX5 TX5 4
theorem nmX5 : ∀ a, a < 4 → ∀ b, b < 4 → a ≠ b → (TX5 a).2.1 ≠ (TX5 b).2.1 := by decide +kernel
theorem tyX5_ok : ∀ k, k < 4 → parseFieldDescriptor (TX5 k).2.2.1 = some (tyX5 k) := by decide +kernel
abbrev cX5_init : ByteArray := prog_1_method_1_code
def yX5_init : MethodName := ⟨RX5, "<init>", "()V"⟩
abbrev cX5_game : ByteArray := prog_1_method_2_code
def yX5_game : MethodName := ⟨RX5, "game", "(II)I"⟩
abbrev cX5_stroke : ByteArray := prog_1_method_3_code
def yX5_stroke : MethodName := ⟨RX5, "stroke", "(II)I"⟩
abbrev cX5_told : ByteArray := prog_1_method_4_code
def yX5_told : MethodName := ⟨RX5, "told", "(II)I"⟩
abbrev cX5_state : ByteArray := prog_1_method_6_code
def yX5_state : MethodName := ⟨RX5, "state", "(II)I"⟩
abbrev cX5_found : ByteArray := prog_1_method_7_code
def yX5_found : MethodName := ⟨RX5, "found", "(I)I"⟩
abbrev cX5_type : ByteArray := prog_1_method_8_code
def yX5_type : MethodName := ⟨RX5, "type", "(JI)I"⟩
abbrev cX5_laws : ByteArray := prog_1_method_9_code
def yX5_laws : MethodName := ⟨RX5, "laws", "()I"⟩
abbrev cX5_count : ByteArray := prog_1_method_10_code
def yX5_count : MethodName := ⟨RX5, "count", "(I)I"⟩
abbrev cX5_index : ByteArray := prog_1_method_11_code
def yX5_index : MethodName := ⟨RX5, "index", "(II)I"⟩
abbrev cX5_within : ByteArray := prog_1_method_22_code
def yX5_within : MethodName := ⟨RX5, "within", "(III)Z"⟩
abbrev cX5_isPlayer : ByteArray := prog_1_method_23_code
def yX5_isPlayer : MethodName := ⟨RX5, "isPlayer", "(I)Z"⟩
abbrev cX5_at : ByteArray := prog_1_method_24_code
def yX5_at : MethodName := ⟨RX5, "at", "([II)I"⟩
abbrev cX5_set : ByteArray := prog_1_method_25_code
def yX5_set : MethodName := ⟨RX5, "set", "([III)V"⟩
def RX6 : String := "CroquetLawnModel"
def TX6 : u_T := fun k => match k with
  | _ => ("", "", "", false)
def tyX6 : Nat → FieldType := fun k => match k with
  | _ => .int
abbrev wsX60 : List Cond := u_ws RX6 TX6 0
theorem nmX6 : ∀ a, a < 0 → ∀ b, b < 0 → a ≠ b → (TX6 a).2.1 ≠ (TX6 b).2.1 := by decide +kernel
theorem tyX6_ok : ∀ k, k < 0 → parseFieldDescriptor (TX6 k).2.2.1 = some (tyX6 k) := by decide +kernel
def RJ9 : String := "java/lang/Math"
def TJ9 : u_T := fun k => match k with
  | _ => ("", "", "", false)
def tyJ9 : Nat → FieldType := fun k => match k with
  | _ => .int
abbrev wsJ90 : List Cond := u_ws RJ9 TJ9 0
theorem nmJ9 : ∀ a, a < 0 → ∀ b, b < 0 → a ≠ b → (TJ9 a).2.1 ≠ (TJ9 b).2.1 := by decide +kernel
theorem tyJ9_ok : ∀ k, k < 0 → parseFieldDescriptor (TJ9 k).2.2.1 = some (tyJ9 k) := by decide +kernel
abbrev cJ9_abs_0f7a4 : ByteArray := prog_9_method_59_code
def yJ9_abs_0f7a4 : MethodName := ⟨RJ9, "abs", "(I)I"⟩
abbrev cJ9_max_7cf53 : ByteArray := prog_9_method_65_code
def yJ9_max_7cf53 : MethodName := ⟨RJ9, "max", "(II)I"⟩
abbrev cJ9_min_7cf53 : ByteArray := prog_9_method_69_code
def yJ9_min_7cf53 : MethodName := ⟨RJ9, "min", "(II)I"⟩
def RJ7 : String := "java/util/Arrays"
def TJ7 : u_T := fun k => match k with
  | _ => ("", "", "", false)
def tyJ7 : Nat → FieldType := fun k => match k with
  | _ => .int
abbrev wsJ70 : List Cond := u_ws RJ7 TJ7 0
theorem nmJ7 : ∀ a, a < 0 → ∀ b, b < 0 → a ≠ b → (TJ7 a).2.1 ≠ (TJ7 b).2.1 := by decide +kernel
theorem tyJ7_ok : ∀ k, k < 0 → parseFieldDescriptor (TJ7 k).2.2.1 = some (tyJ7 k) := by decide +kernel
abbrev cJ7_fill_53178 : ByteArray := prog_10_method_103_code
def yJ7_fill_53178 : MethodName := ⟨RJ7, "fill", "([II)V"⟩
def RL : String := "CroquetLawnLaw"
abbrev cL_cell : ByteArray := method_2_code
def yL_cell : MethodName := ⟨RL, "cell", "([II)I"⟩
abbrev cL_some : ByteArray := method_3_code
def yL_some : MethodName := ⟨RL, "some", "(II)I"⟩
abbrev cL_told : ByteArray := method_4_code
def yL_told : MethodName := ⟨RL, "told", "(LCroquetLawn;I)J"⟩
abbrev cL_laws : ByteArray := method_5_code
def yL_laws : MethodName := ⟨RL, "laws", "(LCroquetLawn;IIII)Z"⟩
abbrev cL_law : ByteArray := code
def yL_law : MethodName := ⟨RL, "law", "([I)Z"⟩
abbrev vwCl : List vw_C := [(RX0, TX0, 7), (RX1, TX1, 3), (RX2, TX2, 13), (RX3, TX3, 8), (RX4, TX4, 1), (RX5, TX5, 4)]
end
section
-- names of the classes, fields, methods; decode rows: out of the claim's own printed NAMES text, by wip/gen/names.py
theorem dX0_init_0 : decode cX0_init 0 = .ok (.aload_n 0, 1) := by decide +kernel
theorem dX0_init_1 : decode cX0_init 1 = .ok (.invokespecial 3, 3) := by decide +kernel
theorem dX0_init_4 : decode cX0_init 4 = .ok (.aload_n 0, 1) := by decide +kernel
theorem dX0_init_5 : decode cX0_init 5 = .ok (.bipush 30, 2) := by decide +kernel
theorem dX0_init_7 : decode cX0_init 7 = .ok (.newarray .int, 2) := by decide +kernel
theorem dX0_init_9 : decode cX0_init 9 = .ok (.putfield 11, 3) := by decide +kernel
theorem dX0_init_12 : decode cX0_init 12 = .ok (.aload_n 0, 1) := by decide +kernel
theorem dX0_init_13 : decode cX0_init 13 = .ok (.iconst 2, 1) := by decide +kernel
theorem dX0_init_14 : decode cX0_init 14 = .ok (.newarray .int, 2) := by decide +kernel
theorem dX0_init_16 : decode cX0_init 16 = .ok (.putfield 15, 3) := by decide +kernel
theorem dX0_init_19 : decode cX0_init 19 = .ok (.aload_n 0, 1) := by decide +kernel
theorem dX0_init_20 : decode cX0_init 20 = .ok (.iconst 2, 1) := by decide +kernel
theorem dX0_init_21 : decode cX0_init 21 = .ok (.newarray .int, 2) := by decide +kernel
theorem dX0_init_23 : decode cX0_init 23 = .ok (.putfield 18, 3) := by decide +kernel
theorem dX0_init_26 : decode cX0_init 26 = .ok (.aload_n 0, 1) := by decide +kernel
theorem dX0_init_27 : decode cX0_init 27 = .ok (.iconst 2, 1) := by decide +kernel
theorem dX0_init_28 : decode cX0_init 28 = .ok (.newarray .int, 2) := by decide +kernel
theorem dX0_init_30 : decode cX0_init 30 = .ok (.putfield 21, 3) := by decide +kernel
theorem dX0_init_33 : decode cX0_init 33 = .ok (.aload_n 0, 1) := by decide +kernel
theorem dX0_init_34 : decode cX0_init 34 = .ok (.iconst 2, 1) := by decide +kernel
theorem dX0_init_35 : decode cX0_init 35 = .ok (.newarray .int, 2) := by decide +kernel
theorem dX0_init_37 : decode cX0_init 37 = .ok (.putfield 24, 3) := by decide +kernel
theorem dX0_init_40 : decode cX0_init 40 = .ok (.aload_n 0, 1) := by decide +kernel
theorem dX0_init_41 : decode cX0_init 41 = .ok (.getfield 15, 3) := by decide +kernel
theorem dX0_init_44 : decode cX0_init 44 = .ok (.iconst 0, 1) := by decide +kernel
theorem dX0_init_45 : decode cX0_init 45 = .ok (.iconst 5, 1) := by decide +kernel
theorem dX0_init_46 : decode cX0_init 46 = .ok (.invokestatic 27, 3) := by decide +kernel
theorem dX0_init_49 : decode cX0_init 49 = .ok (.aload_n 0, 1) := by decide +kernel
theorem dX0_init_50 : decode cX0_init 50 = .ok (.getfield 18, 3) := by decide +kernel
theorem dX0_init_53 : decode cX0_init 53 = .ok (.iconst 0, 1) := by decide +kernel
theorem dX0_init_54 : decode cX0_init 54 = .ok (.bipush 82, 2) := by decide +kernel
theorem dX0_init_56 : decode cX0_init 56 = .ok (.invokestatic 27, 3) := by decide +kernel
theorem dX0_init_59 : decode cX0_init 59 = .ok (.aload_n 0, 1) := by decide +kernel
theorem dX0_init_60 : decode cX0_init 60 = .ok (.getfield 15, 3) := by decide +kernel
theorem dX0_init_63 : decode cX0_init 63 = .ok (.iconst 1, 1) := by decide +kernel
theorem dX0_init_64 : decode cX0_init 64 = .ok (.iconst 2, 1) := by decide +kernel
theorem dX0_init_65 : decode cX0_init 65 = .ok (.invokestatic 27, 3) := by decide +kernel
theorem dX0_init_68 : decode cX0_init 68 = .ok (.aload_n 0, 1) := by decide +kernel
theorem dX0_init_69 : decode cX0_init 69 = .ok (.getfield 18, 3) := by decide +kernel
theorem dX0_init_72 : decode cX0_init 72 = .ok (.iconst 1, 1) := by decide +kernel
theorem dX0_init_73 : decode cX0_init 73 = .ok (.bipush 78, 2) := by decide +kernel
theorem dX0_init_75 : decode cX0_init 75 = .ok (.invokestatic 27, 3) := by decide +kernel
theorem dX0_init_78 : decode cX0_init 78 = .ok (.return_, 1) := by decide +kernel
theorem dX0_letterFor_0 : decode cX0_letterFor 0 = .ok (.iload_n 1, 1) := by decide +kernel
theorem dX0_letterFor_1 : decode cX0_letterFor 1 = .ok (.ifCond .ne 7, 3) := by decide +kernel
theorem dX0_letterFor_4 : decode cX0_letterFor 4 = .ok (.iconst 0, 1) := by decide +kernel
theorem dX0_letterFor_5 : decode cX0_letterFor 5 = .ok (.goto 4, 3) := by decide +kernel
theorem dX0_letterFor_8 : decode cX0_letterFor 8 = .ok (.iconst 1, 1) := by decide +kernel
theorem dX0_letterFor_9 : decode cX0_letterFor 9 = .ok (.istore_n 3, 1) := by decide +kernel
theorem dX0_letterFor_10 : decode cX0_letterFor 10 = .ok (.iload_n 2, 1) := by decide +kernel
theorem dX0_letterFor_11 : decode cX0_letterFor 11 = .ok (.aload_n 0, 1) := by decide +kernel
theorem dX0_letterFor_12 : decode cX0_letterFor 12 = .ok (.getfield 15, 3) := by decide +kernel
theorem dX0_letterFor_15 : decode cX0_letterFor 15 = .ok (.iload_n 3, 1) := by decide +kernel
theorem dX0_letterFor_16 : decode cX0_letterFor 16 = .ok (.invokestatic 31, 3) := by decide +kernel
theorem dX0_letterFor_19 : decode cX0_letterFor 19 = .ok (.if_icmp .gt 14, 3) := by decide +kernel
theorem dX0_letterFor_22 : decode cX0_letterFor 22 = .ok (.aload_n 0, 1) := by decide +kernel
theorem dX0_letterFor_23 : decode cX0_letterFor 23 = .ok (.getfield 18, 3) := by decide +kernel
theorem dX0_letterFor_26 : decode cX0_letterFor 26 = .ok (.iload_n 3, 1) := by decide +kernel
theorem dX0_letterFor_27 : decode cX0_letterFor 27 = .ok (.invokestatic 31, 3) := by decide +kernel
theorem dX0_letterFor_30 : decode cX0_letterFor 30 = .ok (.goto 5, 3) := by decide +kernel
theorem dX0_letterFor_33 : decode cX0_letterFor 33 = .ok (.bipush (-4), 2) := by decide +kernel
theorem dX0_letterFor_35 : decode cX0_letterFor 35 = .ok (.ireturn, 1) := by decide +kernel
theorem dX0_append_0 : decode cX0_append 0 = .ok (.iload_n 3, 1) := by decide +kernel
theorem dX0_append_1 : decode cX0_append 1 = .ok (.iconst 1, 1) := by decide +kernel
theorem dX0_append_2 : decode cX0_append 2 = .ok (.bipush 8, 2) := by decide +kernel
theorem dX0_append_4 : decode cX0_append 4 = .ok (.invokestatic 35, 3) := by decide +kernel
theorem dX0_append_7 : decode cX0_append 7 = .ok (.ifCond .ne 5, 3) := by decide +kernel
theorem dX0_append_10 : decode cX0_append 10 = .ok (.iconst (-1), 1) := by decide +kernel
theorem dX0_append_11 : decode cX0_append 11 = .ok (.ireturn, 1) := by decide +kernel
theorem dX0_append_12 : decode cX0_append 12 = .ok (.iconst 0, 1) := by decide +kernel
theorem dX0_append_13 : decode cX0_append 13 = .ok (.istore 4, 2) := by decide +kernel
theorem dX0_append_15 : decode cX0_append 15 = .ok (.iload 4, 2) := by decide +kernel
theorem dX0_append_17 : decode cX0_append 17 = .ok (.iload_n 3, 1) := by decide +kernel
theorem dX0_append_18 : decode cX0_append 18 = .ok (.if_icmp .ge 27, 3) := by decide +kernel
theorem dX0_append_21 : decode cX0_append 21 = .ok (.lload_n 1, 1) := by decide +kernel
theorem dX0_append_22 : decode cX0_append 22 = .ok (.iload 4, 2) := by decide +kernel
theorem dX0_append_24 : decode cX0_append 24 = .ok (.invokestatic 39, 3) := by decide +kernel
theorem dX0_append_27 : decode cX0_append 27 = .ok (.bipush 32, 2) := by decide +kernel
theorem dX0_append_29 : decode cX0_append 29 = .ok (.bipush 126, 2) := by decide +kernel
theorem dX0_append_31 : decode cX0_append 31 = .ok (.invokestatic 35, 3) := by decide +kernel
theorem dX0_append_34 : decode cX0_append 34 = .ok (.ifCond .ne 5, 3) := by decide +kernel
theorem dX0_append_37 : decode cX0_append 37 = .ok (.iconst (-1), 1) := by decide +kernel
theorem dX0_append_38 : decode cX0_append 38 = .ok (.ireturn, 1) := by decide +kernel
theorem dX0_append_39 : decode cX0_append 39 = .ok (.iinc 4 1, 3) := by decide +kernel
theorem dX0_append_42 : decode cX0_append 42 = .ok (.goto (-27), 3) := by decide +kernel
theorem dX0_append_45 : decode cX0_append 45 = .ok (.aload_n 0, 1) := by decide +kernel
theorem dX0_append_46 : decode cX0_append 46 = .ok (.getfield 43, 3) := by decide +kernel
theorem dX0_append_49 : decode cX0_append 49 = .ok (.iload_n 3, 1) := by decide +kernel
theorem dX0_append_50 : decode cX0_append 50 = .ok (.iadd, 1) := by decide +kernel
theorem dX0_append_51 : decode cX0_append 51 = .ok (.bipush 30, 2) := by decide +kernel
theorem dX0_append_53 : decode cX0_append 53 = .ok (.if_icmp .le 6, 3) := by decide +kernel
theorem dX0_append_56 : decode cX0_append 56 = .ok (.bipush (-3), 2) := by decide +kernel
theorem dX0_append_58 : decode cX0_append 58 = .ok (.ireturn, 1) := by decide +kernel
theorem dX0_append_59 : decode cX0_append 59 = .ok (.iload_n 3, 1) := by decide +kernel
theorem dX0_append_60 : decode cX0_append 60 = .ok (.iconst 1, 1) := by decide +kernel
theorem dX0_append_61 : decode cX0_append 61 = .ok (.isub, 1) := by decide +kernel
theorem dX0_append_62 : decode cX0_append 62 = .ok (.istore 4, 2) := by decide +kernel
theorem dX0_append_64 : decode cX0_append 64 = .ok (.iload 4, 2) := by decide +kernel
theorem dX0_append_66 : decode cX0_append 66 = .ok (.ifCond .lt 36, 3) := by decide +kernel
theorem dX0_append_69 : decode cX0_append 69 = .ok (.aload_n 0, 1) := by decide +kernel
theorem dX0_append_70 : decode cX0_append 70 = .ok (.getfield 11, 3) := by decide +kernel
theorem dX0_append_73 : decode cX0_append 73 = .ok (.aload_n 0, 1) := by decide +kernel
theorem dX0_append_74 : decode cX0_append 74 = .ok (.getfield 43, 3) := by decide +kernel
theorem dX0_append_77 : decode cX0_append 77 = .ok (.lload_n 1, 1) := by decide +kernel
theorem dX0_append_78 : decode cX0_append 78 = .ok (.iload 4, 2) := by decide +kernel
theorem dX0_append_80 : decode cX0_append 80 = .ok (.invokestatic 39, 3) := by decide +kernel
theorem dX0_append_83 : decode cX0_append 83 = .ok (.invokestatic 27, 3) := by decide +kernel
theorem dX0_append_86 : decode cX0_append 86 = .ok (.aload_n 0, 1) := by decide +kernel
theorem dX0_append_87 : decode cX0_append 87 = .ok (.dup, 1) := by decide +kernel
theorem dX0_append_88 : decode cX0_append 88 = .ok (.getfield 43, 3) := by decide +kernel
theorem dX0_append_91 : decode cX0_append 91 = .ok (.iconst 1, 1) := by decide +kernel
theorem dX0_append_92 : decode cX0_append 92 = .ok (.iadd, 1) := by decide +kernel
theorem dX0_append_93 : decode cX0_append 93 = .ok (.putfield 43, 3) := by decide +kernel
theorem dX0_append_96 : decode cX0_append 96 = .ok (.iinc 4 (-1), 3) := by decide +kernel
theorem dX0_append_99 : decode cX0_append 99 = .ok (.goto (-35), 3) := by decide +kernel
theorem dX0_append_102 : decode cX0_append 102 = .ok (.aload_n 0, 1) := by decide +kernel
theorem dX0_append_103 : decode cX0_append 103 = .ok (.getfield 43, 3) := by decide +kernel
theorem dX0_append_106 : decode cX0_append 106 = .ok (.ireturn, 1) := by decide +kernel
theorem dX0_byteOf_0 : decode cX0_byteOf 0 = .ok (.lload_n 0, 1) := by decide +kernel
theorem dX0_byteOf_1 : decode cX0_byteOf 1 = .ok (.bipush 8, 2) := by decide +kernel
theorem dX0_byteOf_3 : decode cX0_byteOf 3 = .ok (.iload_n 2, 1) := by decide +kernel
theorem dX0_byteOf_4 : decode cX0_byteOf 4 = .ok (.imul, 1) := by decide +kernel
theorem dX0_byteOf_5 : decode cX0_byteOf 5 = .ok (.lushr, 1) := by decide +kernel
theorem dX0_byteOf_6 : decode cX0_byteOf 6 = .ok (.ldc2_w 47, 3) := by decide +kernel
theorem dX0_byteOf_9 : decode cX0_byteOf 9 = .ok (.land, 1) := by decide +kernel
theorem dX0_byteOf_10 : decode cX0_byteOf 10 = .ok (.l2i, 1) := by decide +kernel
theorem dX0_byteOf_11 : decode cX0_byteOf 11 = .ok (.ireturn, 1) := by decide +kernel
theorem dX0_takeTape_0 : decode cX0_takeTape 0 = .ok (.aload_n 0, 1) := by decide +kernel
theorem dX0_takeTape_1 : decode cX0_takeTape 1 = .ok (.iconst 0, 1) := by decide +kernel
theorem dX0_takeTape_2 : decode cX0_takeTape 2 = .ok (.putfield 49, 3) := by decide +kernel
theorem dX0_takeTape_5 : decode cX0_takeTape 5 = .ok (.aload_n 0, 1) := by decide +kernel
theorem dX0_takeTape_6 : decode cX0_takeTape 6 = .ok (.getfield 24, 3) := by decide +kernel
theorem dX0_takeTape_9 : decode cX0_takeTape 9 = .ok (.bipush (-4), 2) := by decide +kernel
theorem dX0_takeTape_11 : decode cX0_takeTape 11 = .ok (.invokestatic 52, 3) := by decide +kernel
theorem dX0_takeTape_14 : decode cX0_takeTape 14 = .ok (.aload_n 0, 1) := by decide +kernel
theorem dX0_takeTape_15 : decode cX0_takeTape 15 = .ok (.invokevirtual 58, 3) := by decide +kernel
theorem dX0_takeTape_18 : decode cX0_takeTape 18 = .ok (.istore_n 1, 1) := by decide +kernel
theorem dX0_takeTape_19 : decode cX0_takeTape 19 = .ok (.iload_n 1, 1) := by decide +kernel
theorem dX0_takeTape_20 : decode cX0_takeTape 20 = .ok (.ifCond .lt 7, 3) := by decide +kernel
theorem dX0_takeTape_23 : decode cX0_takeTape 23 = .ok (.aload_n 0, 1) := by decide +kernel
theorem dX0_takeTape_24 : decode cX0_takeTape 24 = .ok (.invokevirtual 62, 3) := by decide +kernel
theorem dX0_takeTape_27 : decode cX0_takeTape 27 = .ok (.aload_n 0, 1) := by decide +kernel
theorem dX0_takeTape_28 : decode cX0_takeTape 28 = .ok (.iconst 0, 1) := by decide +kernel
theorem dX0_takeTape_29 : decode cX0_takeTape 29 = .ok (.putfield 43, 3) := by decide +kernel
theorem dX0_takeTape_32 : decode cX0_takeTape 32 = .ok (.iload_n 1, 1) := by decide +kernel
theorem dX0_takeTape_33 : decode cX0_takeTape 33 = .ok (.ireturn, 1) := by decide +kernel
theorem dX0_adoptDraft_0 : decode cX0_adoptDraft 0 = .ok (.iconst 0, 1) := by decide +kernel
theorem dX0_adoptDraft_1 : decode cX0_adoptDraft 1 = .ok (.istore_n 1, 1) := by decide +kernel
theorem dX0_adoptDraft_2 : decode cX0_adoptDraft 2 = .ok (.iload_n 1, 1) := by decide +kernel
theorem dX0_adoptDraft_3 : decode cX0_adoptDraft 3 = .ok (.iconst 2, 1) := by decide +kernel
theorem dX0_adoptDraft_4 : decode cX0_adoptDraft 4 = .ok (.if_icmp .ge 41, 3) := by decide +kernel
theorem dX0_adoptDraft_7 : decode cX0_adoptDraft 7 = .ok (.aload_n 0, 1) := by decide +kernel
theorem dX0_adoptDraft_8 : decode cX0_adoptDraft 8 = .ok (.getfield 15, 3) := by decide +kernel
theorem dX0_adoptDraft_11 : decode cX0_adoptDraft 11 = .ok (.iload_n 1, 1) := by decide +kernel
theorem dX0_adoptDraft_12 : decode cX0_adoptDraft 12 = .ok (.aload_n 0, 1) := by decide +kernel
theorem dX0_adoptDraft_13 : decode cX0_adoptDraft 13 = .ok (.getfield 21, 3) := by decide +kernel
theorem dX0_adoptDraft_16 : decode cX0_adoptDraft 16 = .ok (.iload_n 1, 1) := by decide +kernel
theorem dX0_adoptDraft_17 : decode cX0_adoptDraft 17 = .ok (.invokestatic 31, 3) := by decide +kernel
theorem dX0_adoptDraft_20 : decode cX0_adoptDraft 20 = .ok (.invokestatic 27, 3) := by decide +kernel
theorem dX0_adoptDraft_23 : decode cX0_adoptDraft 23 = .ok (.aload_n 0, 1) := by decide +kernel
theorem dX0_adoptDraft_24 : decode cX0_adoptDraft 24 = .ok (.getfield 18, 3) := by decide +kernel
theorem dX0_adoptDraft_27 : decode cX0_adoptDraft 27 = .ok (.iload_n 1, 1) := by decide +kernel
theorem dX0_adoptDraft_28 : decode cX0_adoptDraft 28 = .ok (.aload_n 0, 1) := by decide +kernel
theorem dX0_adoptDraft_29 : decode cX0_adoptDraft 29 = .ok (.getfield 24, 3) := by decide +kernel
theorem dX0_adoptDraft_32 : decode cX0_adoptDraft 32 = .ok (.iload_n 1, 1) := by decide +kernel
theorem dX0_adoptDraft_33 : decode cX0_adoptDraft 33 = .ok (.invokestatic 31, 3) := by decide +kernel
theorem dX0_adoptDraft_36 : decode cX0_adoptDraft 36 = .ok (.invokestatic 27, 3) := by decide +kernel
theorem dX0_adoptDraft_39 : decode cX0_adoptDraft 39 = .ok (.iinc 1 1, 3) := by decide +kernel
theorem dX0_adoptDraft_42 : decode cX0_adoptDraft 42 = .ok (.goto (-40), 3) := by decide +kernel
theorem dX0_adoptDraft_45 : decode cX0_adoptDraft 45 = .ok (.return_, 1) := by decide +kernel
theorem dX0_read_0 : decode cX0_read 0 = .ok (.aload_n 0, 1) := by decide +kernel
theorem dX0_read_1 : decode cX0_read 1 = .ok (.invokevirtual 65, 3) := by decide +kernel
theorem dX0_read_4 : decode cX0_read 4 = .ok (.ifCond .eq 5, 3) := by decide +kernel
theorem dX0_read_7 : decode cX0_read 7 = .ok (.iconst 0, 1) := by decide +kernel
theorem dX0_read_8 : decode cX0_read 8 = .ok (.ireturn, 1) := by decide +kernel
theorem dX0_read_9 : decode cX0_read 9 = .ok (.aload_n 0, 1) := by decide +kernel
theorem dX0_read_10 : decode cX0_read 10 = .ok (.invokevirtual 69, 3) := by decide +kernel
theorem dX0_read_13 : decode cX0_read 13 = .ok (.ifCond .ne 11, 3) := by decide +kernel
theorem dX0_read_16 : decode cX0_read 16 = .ok (.bipush (-20), 2) := by decide +kernel
theorem dX0_read_18 : decode cX0_read 18 = .ok (.aload_n 0, 1) := by decide +kernel
theorem dX0_read_19 : decode cX0_read 19 = .ok (.getfield 49, 3) := by decide +kernel
theorem dX0_read_22 : decode cX0_read 22 = .ok (.isub, 1) := by decide +kernel
theorem dX0_read_23 : decode cX0_read 23 = .ok (.ireturn, 1) := by decide +kernel
theorem dX0_read_24 : decode cX0_read 24 = .ok (.aload_n 0, 1) := by decide +kernel
theorem dX0_read_25 : decode cX0_read 25 = .ok (.invokevirtual 65, 3) := by decide +kernel
theorem dX0_read_28 : decode cX0_read 28 = .ok (.ifCond .eq 5, 3) := by decide +kernel
theorem dX0_read_31 : decode cX0_read 31 = .ok (.iconst 1, 1) := by decide +kernel
theorem dX0_read_32 : decode cX0_read 32 = .ok (.ireturn, 1) := by decide +kernel
theorem dX0_read_33 : decode cX0_read 33 = .ok (.aload_n 0, 1) := by decide +kernel
theorem dX0_read_34 : decode cX0_read 34 = .ok (.invokevirtual 72, 3) := by decide +kernel
theorem dX0_read_37 : decode cX0_read 37 = .ok (.bipush 59, 2) := by decide +kernel
theorem dX0_read_39 : decode cX0_read 39 = .ok (.if_icmp .eq 11, 3) := by decide +kernel
theorem dX0_read_42 : decode cX0_read 42 = .ok (.bipush (-20), 2) := by decide +kernel
theorem dX0_read_44 : decode cX0_read 44 = .ok (.aload_n 0, 1) := by decide +kernel
theorem dX0_read_45 : decode cX0_read 45 = .ok (.getfield 49, 3) := by decide +kernel
theorem dX0_read_48 : decode cX0_read 48 = .ok (.isub, 1) := by decide +kernel
theorem dX0_read_49 : decode cX0_read 49 = .ok (.ireturn, 1) := by decide +kernel
theorem dX0_read_50 : decode cX0_read 50 = .ok (.aload_n 0, 1) := by decide +kernel
theorem dX0_read_51 : decode cX0_read 51 = .ok (.dup, 1) := by decide +kernel
theorem dX0_read_52 : decode cX0_read 52 = .ok (.getfield 49, 3) := by decide +kernel
theorem dX0_read_55 : decode cX0_read 55 = .ok (.iconst 1, 1) := by decide +kernel
theorem dX0_read_56 : decode cX0_read 56 = .ok (.iadd, 1) := by decide +kernel
theorem dX0_read_57 : decode cX0_read 57 = .ok (.putfield 49, 3) := by decide +kernel
theorem dX0_read_60 : decode cX0_read 60 = .ok (.aload_n 0, 1) := by decide +kernel
theorem dX0_read_61 : decode cX0_read 61 = .ok (.invokevirtual 69, 3) := by decide +kernel
theorem dX0_read_64 : decode cX0_read 64 = .ok (.ifCond .eq 14, 3) := by decide +kernel
theorem dX0_read_67 : decode cX0_read 67 = .ok (.aload_n 0, 1) := by decide +kernel
theorem dX0_read_68 : decode cX0_read 68 = .ok (.invokevirtual 65, 3) := by decide +kernel
theorem dX0_read_71 : decode cX0_read 71 = .ok (.ifCond .eq 7, 3) := by decide +kernel
theorem dX0_read_74 : decode cX0_read 74 = .ok (.iconst 2, 1) := by decide +kernel
theorem dX0_read_75 : decode cX0_read 75 = .ok (.goto 10, 3) := by decide +kernel
theorem dX0_read_78 : decode cX0_read 78 = .ok (.bipush (-20), 2) := by decide +kernel
theorem dX0_read_80 : decode cX0_read 80 = .ok (.aload_n 0, 1) := by decide +kernel
theorem dX0_read_81 : decode cX0_read 81 = .ok (.getfield 49, 3) := by decide +kernel
theorem dX0_read_84 : decode cX0_read 84 = .ok (.isub, 1) := by decide +kernel
theorem dX0_read_85 : decode cX0_read 85 = .ok (.ireturn, 1) := by decide +kernel
theorem dX0_readClause_0 : decode cX0_readClause 0 = .ok (.aload_n 0, 1) := by decide +kernel
theorem dX0_readClause_1 : decode cX0_readClause 1 = .ok (.invokevirtual 75, 3) := by decide +kernel
theorem dX0_readClause_4 : decode cX0_readClause 4 = .ok (.aload_n 0, 1) := by decide +kernel
theorem dX0_readClause_5 : decode cX0_readClause 5 = .ok (.invokevirtual 72, 3) := by decide +kernel
theorem dX0_readClause_8 : decode cX0_readClause 8 = .ok (.istore_n 1, 1) := by decide +kernel
theorem dX0_readClause_9 : decode cX0_readClause 9 = .ok (.iload_n 1, 1) := by decide +kernel
theorem dX0_readClause_10 : decode cX0_readClause 10 = .ok (.bipush 112, 2) := by decide +kernel
theorem dX0_readClause_12 : decode cX0_readClause 12 = .ok (.if_icmp .eq 11, 3) := by decide +kernel
theorem dX0_readClause_15 : decode cX0_readClause 15 = .ok (.iload_n 1, 1) := by decide +kernel
theorem dX0_readClause_16 : decode cX0_readClause 16 = .ok (.bipush 114, 2) := by decide +kernel
theorem dX0_readClause_18 : decode cX0_readClause 18 = .ok (.if_icmp .eq 5, 3) := by decide +kernel
theorem dX0_readClause_21 : decode cX0_readClause 21 = .ok (.iconst 0, 1) := by decide +kernel
theorem dX0_readClause_22 : decode cX0_readClause 22 = .ok (.ireturn, 1) := by decide +kernel
theorem dX0_readClause_23 : decode cX0_readClause 23 = .ok (.aload_n 0, 1) := by decide +kernel
theorem dX0_readClause_24 : decode cX0_readClause 24 = .ok (.dup, 1) := by decide +kernel
theorem dX0_readClause_25 : decode cX0_readClause 25 = .ok (.getfield 49, 3) := by decide +kernel
theorem dX0_readClause_28 : decode cX0_readClause 28 = .ok (.iconst 1, 1) := by decide +kernel
theorem dX0_readClause_29 : decode cX0_readClause 29 = .ok (.iadd, 1) := by decide +kernel
theorem dX0_readClause_30 : decode cX0_readClause 30 = .ok (.putfield 49, 3) := by decide +kernel
theorem dX0_readClause_33 : decode cX0_readClause 33 = .ok (.aload_n 0, 1) := by decide +kernel
theorem dX0_readClause_34 : decode cX0_readClause 34 = .ok (.invokevirtual 75, 3) := by decide +kernel
theorem dX0_readClause_37 : decode cX0_readClause 37 = .ok (.aload_n 0, 1) := by decide +kernel
theorem dX0_readClause_38 : decode cX0_readClause 38 = .ok (.invokevirtual 78, 3) := by decide +kernel
theorem dX0_readClause_41 : decode cX0_readClause 41 = .ok (.istore_n 2, 1) := by decide +kernel
theorem dX0_readClause_42 : decode cX0_readClause 42 = .ok (.iload_n 2, 1) := by decide +kernel
theorem dX0_readClause_43 : decode cX0_readClause 43 = .ok (.bipush (-4), 2) := by decide +kernel
theorem dX0_readClause_45 : decode cX0_readClause 45 = .ok (.if_icmp .ne 5, 3) := by decide +kernel
theorem dX0_readClause_48 : decode cX0_readClause 48 = .ok (.iconst 0, 1) := by decide +kernel
theorem dX0_readClause_49 : decode cX0_readClause 49 = .ok (.ireturn, 1) := by decide +kernel
theorem dX0_readClause_50 : decode cX0_readClause 50 = .ok (.aload_n 0, 1) := by decide +kernel
theorem dX0_readClause_51 : decode cX0_readClause 51 = .ok (.invokevirtual 75, 3) := by decide +kernel
theorem dX0_readClause_54 : decode cX0_readClause 54 = .ok (.aload_n 0, 1) := by decide +kernel
theorem dX0_readClause_55 : decode cX0_readClause 55 = .ok (.invokevirtual 72, 3) := by decide +kernel
theorem dX0_readClause_58 : decode cX0_readClause 58 = .ok (.istore_n 3, 1) := by decide +kernel
theorem dX0_readClause_59 : decode cX0_readClause 59 = .ok (.iload_n 3, 1) := by decide +kernel
theorem dX0_readClause_60 : decode cX0_readClause 60 = .ok (.bipush 82, 2) := by decide +kernel
theorem dX0_readClause_62 : decode cX0_readClause 62 = .ok (.if_icmp .eq 11, 3) := by decide +kernel
theorem dX0_readClause_65 : decode cX0_readClause 65 = .ok (.iload_n 3, 1) := by decide +kernel
theorem dX0_readClause_66 : decode cX0_readClause 66 = .ok (.bipush 78, 2) := by decide +kernel
theorem dX0_readClause_68 : decode cX0_readClause 68 = .ok (.if_icmp .eq 5, 3) := by decide +kernel
theorem dX0_readClause_71 : decode cX0_readClause 71 = .ok (.iconst 0, 1) := by decide +kernel
theorem dX0_readClause_72 : decode cX0_readClause 72 = .ok (.ireturn, 1) := by decide +kernel
theorem dX0_readClause_73 : decode cX0_readClause 73 = .ok (.aload_n 0, 1) := by decide +kernel
theorem dX0_readClause_74 : decode cX0_readClause 74 = .ok (.dup, 1) := by decide +kernel
theorem dX0_readClause_75 : decode cX0_readClause 75 = .ok (.getfield 49, 3) := by decide +kernel
theorem dX0_readClause_78 : decode cX0_readClause 78 = .ok (.iconst 1, 1) := by decide +kernel
theorem dX0_readClause_79 : decode cX0_readClause 79 = .ok (.iadd, 1) := by decide +kernel
theorem dX0_readClause_80 : decode cX0_readClause 80 = .ok (.putfield 49, 3) := by decide +kernel
theorem dX0_readClause_83 : decode cX0_readClause 83 = .ok (.aload_n 0, 1) := by decide +kernel
theorem dX0_readClause_84 : decode cX0_readClause 84 = .ok (.getfield 21, 3) := by decide +kernel
theorem dX0_readClause_87 : decode cX0_readClause 87 = .ok (.iload_n 1, 1) := by decide +kernel
theorem dX0_readClause_88 : decode cX0_readClause 88 = .ok (.bipush 112, 2) := by decide +kernel
theorem dX0_readClause_90 : decode cX0_readClause 90 = .ok (.if_icmp .ne 7, 3) := by decide +kernel
theorem dX0_readClause_93 : decode cX0_readClause 93 = .ok (.iconst 0, 1) := by decide +kernel
theorem dX0_readClause_94 : decode cX0_readClause 94 = .ok (.goto 4, 3) := by decide +kernel
theorem dX0_readClause_97 : decode cX0_readClause 97 = .ok (.iconst 1, 1) := by decide +kernel
theorem dX0_readClause_98 : decode cX0_readClause 98 = .ok (.iload_n 2, 1) := by decide +kernel
theorem dX0_readClause_99 : decode cX0_readClause 99 = .ok (.invokestatic 27, 3) := by decide +kernel
theorem dX0_readClause_102 : decode cX0_readClause 102 = .ok (.aload_n 0, 1) := by decide +kernel
theorem dX0_readClause_103 : decode cX0_readClause 103 = .ok (.getfield 24, 3) := by decide +kernel
theorem dX0_readClause_106 : decode cX0_readClause 106 = .ok (.iload_n 1, 1) := by decide +kernel
theorem dX0_readClause_107 : decode cX0_readClause 107 = .ok (.bipush 112, 2) := by decide +kernel
theorem dX0_readClause_109 : decode cX0_readClause 109 = .ok (.if_icmp .ne 7, 3) := by decide +kernel
theorem dX0_readClause_112 : decode cX0_readClause 112 = .ok (.iconst 0, 1) := by decide +kernel
theorem dX0_readClause_113 : decode cX0_readClause 113 = .ok (.goto 4, 3) := by decide +kernel
theorem dX0_readClause_116 : decode cX0_readClause 116 = .ok (.iconst 1, 1) := by decide +kernel
theorem dX0_readClause_117 : decode cX0_readClause 117 = .ok (.iload_n 3, 1) := by decide +kernel
theorem dX0_readClause_118 : decode cX0_readClause 118 = .ok (.invokestatic 27, 3) := by decide +kernel
theorem dX0_readClause_121 : decode cX0_readClause 121 = .ok (.iconst 1, 1) := by decide +kernel
theorem dX0_readClause_122 : decode cX0_readClause 122 = .ok (.ireturn, 1) := by decide +kernel
theorem dX0_readNumber_0 : decode cX0_readNumber 0 = .ok (.aload_n 0, 1) := by decide +kernel
theorem dX0_readNumber_1 : decode cX0_readNumber 1 = .ok (.getfield 49, 3) := by decide +kernel
theorem dX0_readNumber_4 : decode cX0_readNumber 4 = .ok (.istore_n 1, 1) := by decide +kernel
theorem dX0_readNumber_5 : decode cX0_readNumber 5 = .ok (.iconst 0, 1) := by decide +kernel
theorem dX0_readNumber_6 : decode cX0_readNumber 6 = .ok (.istore_n 2, 1) := by decide +kernel
theorem dX0_readNumber_7 : decode cX0_readNumber 7 = .ok (.aload_n 0, 1) := by decide +kernel
theorem dX0_readNumber_8 : decode cX0_readNumber 8 = .ok (.getfield 49, 3) := by decide +kernel
theorem dX0_readNumber_11 : decode cX0_readNumber 11 = .ok (.aload_n 0, 1) := by decide +kernel
theorem dX0_readNumber_12 : decode cX0_readNumber 12 = .ok (.getfield 43, 3) := by decide +kernel
theorem dX0_readNumber_15 : decode cX0_readNumber 15 = .ok (.if_icmp .ge 48, 3) := by decide +kernel
theorem dX0_readNumber_18 : decode cX0_readNumber 18 = .ok (.aload_n 0, 1) := by decide +kernel
theorem dX0_readNumber_19 : decode cX0_readNumber 19 = .ok (.invokevirtual 72, 3) := by decide +kernel
theorem dX0_readNumber_22 : decode cX0_readNumber 22 = .ok (.bipush 48, 2) := by decide +kernel
theorem dX0_readNumber_24 : decode cX0_readNumber 24 = .ok (.bipush 57, 2) := by decide +kernel
theorem dX0_readNumber_26 : decode cX0_readNumber 26 = .ok (.invokestatic 35, 3) := by decide +kernel
theorem dX0_readNumber_29 : decode cX0_readNumber 29 = .ok (.ifCond .eq 34, 3) := by decide +kernel
theorem dX0_readNumber_32 : decode cX0_readNumber 32 = .ok (.bipush 100, 2) := by decide +kernel
theorem dX0_readNumber_34 : decode cX0_readNumber 34 = .ok (.iload_n 2, 1) := by decide +kernel
theorem dX0_readNumber_35 : decode cX0_readNumber 35 = .ok (.bipush 10, 2) := by decide +kernel
theorem dX0_readNumber_37 : decode cX0_readNumber 37 = .ok (.imul, 1) := by decide +kernel
theorem dX0_readNumber_38 : decode cX0_readNumber 38 = .ok (.aload_n 0, 1) := by decide +kernel
theorem dX0_readNumber_39 : decode cX0_readNumber 39 = .ok (.invokevirtual 72, 3) := by decide +kernel
theorem dX0_readNumber_42 : decode cX0_readNumber 42 = .ok (.iadd, 1) := by decide +kernel
theorem dX0_readNumber_43 : decode cX0_readNumber 43 = .ok (.bipush 48, 2) := by decide +kernel
theorem dX0_readNumber_45 : decode cX0_readNumber 45 = .ok (.isub, 1) := by decide +kernel
theorem dX0_readNumber_46 : decode cX0_readNumber 46 = .ok (.invokestatic 81, 3) := by decide +kernel
theorem dX0_readNumber_49 : decode cX0_readNumber 49 = .ok (.istore_n 2, 1) := by decide +kernel
theorem dX0_readNumber_50 : decode cX0_readNumber 50 = .ok (.aload_n 0, 1) := by decide +kernel
theorem dX0_readNumber_51 : decode cX0_readNumber 51 = .ok (.dup, 1) := by decide +kernel
theorem dX0_readNumber_52 : decode cX0_readNumber 52 = .ok (.getfield 49, 3) := by decide +kernel
theorem dX0_readNumber_55 : decode cX0_readNumber 55 = .ok (.iconst 1, 1) := by decide +kernel
theorem dX0_readNumber_56 : decode cX0_readNumber 56 = .ok (.iadd, 1) := by decide +kernel
theorem dX0_readNumber_57 : decode cX0_readNumber 57 = .ok (.putfield 49, 3) := by decide +kernel
theorem dX0_readNumber_60 : decode cX0_readNumber 60 = .ok (.goto (-53), 3) := by decide +kernel
theorem dX0_readNumber_63 : decode cX0_readNumber 63 = .ok (.aload_n 0, 1) := by decide +kernel
theorem dX0_readNumber_64 : decode cX0_readNumber 64 = .ok (.getfield 49, 3) := by decide +kernel
theorem dX0_readNumber_67 : decode cX0_readNumber 67 = .ok (.iload_n 1, 1) := by decide +kernel
theorem dX0_readNumber_68 : decode cX0_readNumber 68 = .ok (.if_icmp .ne 6, 3) := by decide +kernel
theorem dX0_readNumber_71 : decode cX0_readNumber 71 = .ok (.bipush (-4), 2) := by decide +kernel
theorem dX0_readNumber_73 : decode cX0_readNumber 73 = .ok (.ireturn, 1) := by decide +kernel
theorem dX0_readNumber_74 : decode cX0_readNumber 74 = .ok (.iload_n 2, 1) := by decide +kernel
theorem dX0_readNumber_75 : decode cX0_readNumber 75 = .ok (.bipush 99, 2) := by decide +kernel
theorem dX0_readNumber_77 : decode cX0_readNumber 77 = .ok (.if_icmp .le 11, 3) := by decide +kernel
theorem dX0_readNumber_80 : decode cX0_readNumber 80 = .ok (.aload_n 0, 1) := by decide +kernel
theorem dX0_readNumber_81 : decode cX0_readNumber 81 = .ok (.iload_n 1, 1) := by decide +kernel
theorem dX0_readNumber_82 : decode cX0_readNumber 82 = .ok (.putfield 49, 3) := by decide +kernel
theorem dX0_readNumber_85 : decode cX0_readNumber 85 = .ok (.bipush (-4), 2) := by decide +kernel
theorem dX0_readNumber_87 : decode cX0_readNumber 87 = .ok (.ireturn, 1) := by decide +kernel
theorem dX0_readNumber_88 : decode cX0_readNumber 88 = .ok (.iload_n 2, 1) := by decide +kernel
theorem dX0_readNumber_89 : decode cX0_readNumber 89 = .ok (.ireturn, 1) := by decide +kernel
theorem dX0_skipBlanks_0 : decode cX0_skipBlanks 0 = .ok (.aload_n 0, 1) := by decide +kernel
theorem dX0_skipBlanks_1 : decode cX0_skipBlanks 1 = .ok (.getfield 49, 3) := by decide +kernel
theorem dX0_skipBlanks_4 : decode cX0_skipBlanks 4 = .ok (.aload_n 0, 1) := by decide +kernel
theorem dX0_skipBlanks_5 : decode cX0_skipBlanks 5 = .ok (.getfield 43, 3) := by decide +kernel
theorem dX0_skipBlanks_8 : decode cX0_skipBlanks 8 = .ok (.if_icmp .ge 25, 3) := by decide +kernel
theorem dX0_skipBlanks_11 : decode cX0_skipBlanks 11 = .ok (.aload_n 0, 1) := by decide +kernel
theorem dX0_skipBlanks_12 : decode cX0_skipBlanks 12 = .ok (.invokevirtual 72, 3) := by decide +kernel
theorem dX0_skipBlanks_15 : decode cX0_skipBlanks 15 = .ok (.bipush 32, 2) := by decide +kernel
theorem dX0_skipBlanks_17 : decode cX0_skipBlanks 17 = .ok (.if_icmp .ne 16, 3) := by decide +kernel
theorem dX0_skipBlanks_20 : decode cX0_skipBlanks 20 = .ok (.aload_n 0, 1) := by decide +kernel
theorem dX0_skipBlanks_21 : decode cX0_skipBlanks 21 = .ok (.dup, 1) := by decide +kernel
theorem dX0_skipBlanks_22 : decode cX0_skipBlanks 22 = .ok (.getfield 49, 3) := by decide +kernel
theorem dX0_skipBlanks_25 : decode cX0_skipBlanks 25 = .ok (.iconst 1, 1) := by decide +kernel
theorem dX0_skipBlanks_26 : decode cX0_skipBlanks 26 = .ok (.iadd, 1) := by decide +kernel
theorem dX0_skipBlanks_27 : decode cX0_skipBlanks 27 = .ok (.putfield 49, 3) := by decide +kernel
theorem dX0_skipBlanks_30 : decode cX0_skipBlanks 30 = .ok (.goto (-30), 3) := by decide +kernel
theorem dX0_skipBlanks_33 : decode cX0_skipBlanks 33 = .ok (.return_, 1) := by decide +kernel
theorem dX0_atEnd_0 : decode cX0_atEnd 0 = .ok (.aload_n 0, 1) := by decide +kernel
theorem dX0_atEnd_1 : decode cX0_atEnd 1 = .ok (.invokevirtual 75, 3) := by decide +kernel
theorem dX0_atEnd_4 : decode cX0_atEnd 4 = .ok (.aload_n 0, 1) := by decide +kernel
theorem dX0_atEnd_5 : decode cX0_atEnd 5 = .ok (.getfield 49, 3) := by decide +kernel
theorem dX0_atEnd_8 : decode cX0_atEnd 8 = .ok (.aload_n 0, 1) := by decide +kernel
theorem dX0_atEnd_9 : decode cX0_atEnd 9 = .ok (.getfield 43, 3) := by decide +kernel
theorem dX0_atEnd_12 : decode cX0_atEnd 12 = .ok (.if_icmp .lt 7, 3) := by decide +kernel
theorem dX0_atEnd_15 : decode cX0_atEnd 15 = .ok (.iconst 1, 1) := by decide +kernel
theorem dX0_atEnd_16 : decode cX0_atEnd 16 = .ok (.goto 4, 3) := by decide +kernel
theorem dX0_atEnd_19 : decode cX0_atEnd 19 = .ok (.iconst 0, 1) := by decide +kernel
theorem dX0_atEnd_20 : decode cX0_atEnd 20 = .ok (.ireturn, 1) := by decide +kernel
theorem dX0_here_0 : decode cX0_here 0 = .ok (.aload_n 0, 1) := by decide +kernel
theorem dX0_here_1 : decode cX0_here 1 = .ok (.getfield 49, 3) := by decide +kernel
theorem dX0_here_4 : decode cX0_here 4 = .ok (.aload_n 0, 1) := by decide +kernel
theorem dX0_here_5 : decode cX0_here 5 = .ok (.getfield 43, 3) := by decide +kernel
theorem dX0_here_8 : decode cX0_here 8 = .ok (.if_icmp .ge 17, 3) := by decide +kernel
theorem dX0_here_11 : decode cX0_here 11 = .ok (.aload_n 0, 1) := by decide +kernel
theorem dX0_here_12 : decode cX0_here 12 = .ok (.getfield 11, 3) := by decide +kernel
theorem dX0_here_15 : decode cX0_here 15 = .ok (.aload_n 0, 1) := by decide +kernel
theorem dX0_here_16 : decode cX0_here 16 = .ok (.getfield 49, 3) := by decide +kernel
theorem dX0_here_19 : decode cX0_here 19 = .ok (.invokestatic 31, 3) := by decide +kernel
theorem dX0_here_22 : decode cX0_here 22 = .ok (.goto 5, 3) := by decide +kernel
theorem dX0_here_25 : decode cX0_here 25 = .ok (.bipush (-4), 2) := by decide +kernel
theorem dX0_here_27 : decode cX0_here 27 = .ok (.ireturn, 1) := by decide +kernel
theorem dX1_init_0 : decode cX1_init 0 = .ok (.aload_n 0, 1) := by decide +kernel
theorem dX1_init_1 : decode cX1_init 1 = .ok (.invokespecial 3, 3) := by decide +kernel
theorem dX1_init_4 : decode cX1_init 4 = .ok (.aload_n 0, 1) := by decide +kernel
theorem dX1_init_5 : decode cX1_init 5 = .ok (.bipush 15, 2) := by decide +kernel
theorem dX1_init_7 : decode cX1_init 7 = .ok (.newarray .int, 2) := by decide +kernel
theorem dX1_init_9 : decode cX1_init 9 = .ok (.putfield 11, 3) := by decide +kernel
theorem dX1_init_12 : decode cX1_init 12 = .ok (.aload_n 0, 1) := by decide +kernel
theorem dX1_init_13 : decode cX1_init 13 = .ok (.bipush 15, 2) := by decide +kernel
theorem dX1_init_15 : decode cX1_init 15 = .ok (.newarray .int, 2) := by decide +kernel
theorem dX1_init_17 : decode cX1_init 17 = .ok (.putfield 15, 3) := by decide +kernel
theorem dX1_init_20 : decode cX1_init 20 = .ok (.aload_n 0, 1) := by decide +kernel
theorem dX1_init_21 : decode cX1_init 21 = .ok (.iconst 2, 1) := by decide +kernel
theorem dX1_init_22 : decode cX1_init 22 = .ok (.putfield 18, 3) := by decide +kernel
theorem dX1_init_25 : decode cX1_init 25 = .ok (.aload_n 0, 1) := by decide +kernel
theorem dX1_init_26 : decode cX1_init 26 = .ok (.getfield 11, 3) := by decide +kernel
theorem dX1_init_29 : decode cX1_init 29 = .ok (.bipush (-4), 2) := by decide +kernel
theorem dX1_init_31 : decode cX1_init 31 = .ok (.invokestatic 22, 3) := by decide +kernel
theorem dX1_init_34 : decode cX1_init 34 = .ok (.aload_n 0, 1) := by decide +kernel
theorem dX1_init_35 : decode cX1_init 35 = .ok (.getfield 15, 3) := by decide +kernel
theorem dX1_init_38 : decode cX1_init 38 = .ok (.bipush (-4), 2) := by decide +kernel
theorem dX1_init_40 : decode cX1_init 40 = .ok (.invokestatic 22, 3) := by decide +kernel
theorem dX1_init_43 : decode cX1_init 43 = .ok (.return_, 1) := by decide +kernel
theorem dX2_init_0 : decode cX2_init 0 = .ok (.aload_n 0, 1) := by decide +kernel
theorem dX2_init_1 : decode cX2_init 1 = .ok (.invokespecial 3, 3) := by decide +kernel
theorem dX2_init_4 : decode cX2_init 4 = .ok (.aload_n 0, 1) := by decide +kernel
theorem dX2_init_5 : decode cX2_init 5 = .ok (.sipush 150, 3) := by decide +kernel
theorem dX2_init_8 : decode cX2_init 8 = .ok (.newarray .int, 2) := by decide +kernel
theorem dX2_init_10 : decode cX2_init 10 = .ok (.putfield 9, 3) := by decide +kernel
theorem dX2_init_13 : decode cX2_init 13 = .ok (.aload_n 0, 1) := by decide +kernel
theorem dX2_init_14 : decode cX2_init 14 = .ok (.sipush 150, 3) := by decide +kernel
theorem dX2_init_17 : decode cX2_init 17 = .ok (.newarray .int, 2) := by decide +kernel
theorem dX2_init_19 : decode cX2_init 19 = .ok (.putfield 15, 3) := by decide +kernel
theorem dX2_init_22 : decode cX2_init 22 = .ok (.aload_n 0, 1) := by decide +kernel
theorem dX2_init_23 : decode cX2_init 23 = .ok (.sipush 150, 3) := by decide +kernel
theorem dX2_init_26 : decode cX2_init 26 = .ok (.newarray .int, 2) := by decide +kernel
theorem dX2_init_28 : decode cX2_init 28 = .ok (.putfield 18, 3) := by decide +kernel
theorem dX2_init_31 : decode cX2_init 31 = .ok (.aload_n 0, 1) := by decide +kernel
theorem dX2_init_32 : decode cX2_init 32 = .ok (.sipush 150, 3) := by decide +kernel
theorem dX2_init_35 : decode cX2_init 35 = .ok (.newarray .int, 2) := by decide +kernel
theorem dX2_init_37 : decode cX2_init 37 = .ok (.putfield 21, 3) := by decide +kernel
theorem dX2_init_40 : decode cX2_init 40 = .ok (.aload_n 0, 1) := by decide +kernel
theorem dX2_init_41 : decode cX2_init 41 = .ok (.sipush 150, 3) := by decide +kernel
theorem dX2_init_44 : decode cX2_init 44 = .ok (.newarray .int, 2) := by decide +kernel
theorem dX2_init_46 : decode cX2_init 46 = .ok (.putfield 24, 3) := by decide +kernel
theorem dX2_init_49 : decode cX2_init 49 = .ok (.aload_n 0, 1) := by decide +kernel
theorem dX2_init_50 : decode cX2_init 50 = .ok (.sipush 151, 3) := by decide +kernel
theorem dX2_init_53 : decode cX2_init 53 = .ok (.newarray .int, 2) := by decide +kernel
theorem dX2_init_55 : decode cX2_init 55 = .ok (.putfield 27, 3) := by decide +kernel
theorem dX2_init_58 : decode cX2_init 58 = .ok (.aload_n 0, 1) := by decide +kernel
theorem dX2_init_59 : decode cX2_init 59 = .ok (.iconst 2, 1) := by decide +kernel
theorem dX2_init_60 : decode cX2_init 60 = .ok (.newarray .int, 2) := by decide +kernel
theorem dX2_init_62 : decode cX2_init 62 = .ok (.putfield 30, 3) := by decide +kernel
theorem dX2_init_65 : decode cX2_init 65 = .ok (.aload_n 0, 1) := by decide +kernel
theorem dX2_init_66 : decode cX2_init 66 = .ok (.new 33, 3) := by decide +kernel
theorem dX2_init_69 : decode cX2_init 69 = .ok (.dup, 1) := by decide +kernel
theorem dX2_init_70 : decode cX2_init 70 = .ok (.invokespecial 35, 3) := by decide +kernel
theorem dX2_init_73 : decode cX2_init 73 = .ok (.putfield 36, 3) := by decide +kernel
theorem dX2_init_76 : decode cX2_init 76 = .ok (.aload_n 0, 1) := by decide +kernel
theorem dX2_init_77 : decode cX2_init 77 = .ok (.new 33, 3) := by decide +kernel
theorem dX2_init_80 : decode cX2_init 80 = .ok (.dup, 1) := by decide +kernel
theorem dX2_init_81 : decode cX2_init 81 = .ok (.invokespecial 35, 3) := by decide +kernel
theorem dX2_init_84 : decode cX2_init 84 = .ok (.putfield 40, 3) := by decide +kernel
theorem dX2_init_87 : decode cX2_init 87 = .ok (.return_, 1) := by decide +kernel
theorem dX2_begin_0 : decode cX2_begin 0 = .ok (.aload_n 0, 1) := by decide +kernel
theorem dX2_begin_1 : decode cX2_begin 1 = .ok (.getfield 30, 3) := by decide +kernel
theorem dX2_begin_4 : decode cX2_begin 4 = .ok (.iconst 0, 1) := by decide +kernel
theorem dX2_begin_5 : decode cX2_begin 5 = .ok (.iload_n 1, 1) := by decide +kernel
theorem dX2_begin_6 : decode cX2_begin 6 = .ok (.invokestatic 43, 3) := by decide +kernel
theorem dX2_begin_9 : decode cX2_begin 9 = .ok (.aload_n 0, 1) := by decide +kernel
theorem dX2_begin_10 : decode cX2_begin 10 = .ok (.getfield 30, 3) := by decide +kernel
theorem dX2_begin_13 : decode cX2_begin 13 = .ok (.iconst 1, 1) := by decide +kernel
theorem dX2_begin_14 : decode cX2_begin 14 = .ok (.iload_n 2, 1) := by decide +kernel
theorem dX2_begin_15 : decode cX2_begin 15 = .ok (.invokestatic 43, 3) := by decide +kernel
theorem dX2_begin_18 : decode cX2_begin 18 = .ok (.aload_n 0, 1) := by decide +kernel
theorem dX2_begin_19 : decode cX2_begin 19 = .ok (.iload_n 3, 1) := by decide +kernel
theorem dX2_begin_20 : decode cX2_begin 20 = .ok (.putfield 47, 3) := by decide +kernel
theorem dX2_begin_23 : decode cX2_begin 23 = .ok (.aload_n 0, 1) := by decide +kernel
theorem dX2_begin_24 : decode cX2_begin 24 = .ok (.iload 4, 2) := by decide +kernel
theorem dX2_begin_26 : decode cX2_begin 26 = .ok (.putfield 51, 3) := by decide +kernel
theorem dX2_begin_29 : decode cX2_begin 29 = .ok (.aload_n 0, 1) := by decide +kernel
theorem dX2_begin_30 : decode cX2_begin 30 = .ok (.iconst 1, 1) := by decide +kernel
theorem dX2_begin_31 : decode cX2_begin 31 = .ok (.putfield 54, 3) := by decide +kernel
theorem dX2_begin_34 : decode cX2_begin 34 = .ok (.aload_n 0, 1) := by decide +kernel
theorem dX2_begin_35 : decode cX2_begin 35 = .ok (.iconst 0, 1) := by decide +kernel
theorem dX2_begin_36 : decode cX2_begin 36 = .ok (.putfield 58, 3) := by decide +kernel
theorem dX2_begin_39 : decode cX2_begin 39 = .ok (.aload_n 0, 1) := by decide +kernel
theorem dX2_begin_40 : decode cX2_begin 40 = .ok (.getfield 27, 3) := by decide +kernel
theorem dX2_begin_43 : decode cX2_begin 43 = .ok (.iconst 0, 1) := by decide +kernel
theorem dX2_begin_44 : decode cX2_begin 44 = .ok (.iconst 0, 1) := by decide +kernel
theorem dX2_begin_45 : decode cX2_begin 45 = .ok (.invokestatic 43, 3) := by decide +kernel
theorem dX2_begin_48 : decode cX2_begin 48 = .ok (.aload_n 0, 1) := by decide +kernel
theorem dX2_begin_49 : decode cX2_begin 49 = .ok (.getfield 36, 3) := by decide +kernel
theorem dX2_begin_52 : decode cX2_begin 52 = .ok (.aload_n 0, 1) := by decide +kernel
theorem dX2_begin_53 : decode cX2_begin 53 = .ok (.getfield 47, 3) := by decide +kernel
theorem dX2_begin_56 : decode cX2_begin 56 = .ok (.aload_n 0, 1) := by decide +kernel
theorem dX2_begin_57 : decode cX2_begin 57 = .ok (.getfield 51, 3) := by decide +kernel
theorem dX2_begin_60 : decode cX2_begin 60 = .ok (.invokevirtual 61, 3) := by decide +kernel
theorem dX2_begin_63 : decode cX2_begin 63 = .ok (.return_, 1) := by decide +kernel
theorem dX2_take_0 : decode cX2_take 0 = .ok (.aload_n 0, 1) := by decide +kernel
theorem dX2_take_1 : decode cX2_take 1 = .ok (.getfield 54, 3) := by decide +kernel
theorem dX2_take_4 : decode cX2_take 4 = .ok (.ifCond .eq 15, 3) := by decide +kernel
theorem dX2_take_7 : decode cX2_take 7 = .ok (.aload_n 0, 1) := by decide +kernel
theorem dX2_take_8 : decode cX2_take 8 = .ok (.getfield 36, 3) := by decide +kernel
theorem dX2_take_11 : decode cX2_take 11 = .ok (.iload_n 1, 1) := by decide +kernel
theorem dX2_take_12 : decode cX2_take 12 = .ok (.iload_n 2, 1) := by decide +kernel
theorem dX2_take_13 : decode cX2_take 13 = .ok (.invokevirtual 73, 3) := by decide +kernel
theorem dX2_take_16 : decode cX2_take 16 = .ok (.ifCond .ne 6, 3) := by decide +kernel
theorem dX2_take_19 : decode cX2_take 19 = .ok (.bipush (-2), 2) := by decide +kernel
theorem dX2_take_21 : decode cX2_take 21 = .ok (.ireturn, 1) := by decide +kernel
theorem dX2_take_22 : decode cX2_take 22 = .ok (.aload_n 0, 1) := by decide +kernel
theorem dX2_take_23 : decode cX2_take 23 = .ok (.getfield 58, 3) := by decide +kernel
theorem dX2_take_26 : decode cX2_take 26 = .ok (.sipush 150, 3) := by decide +kernel
theorem dX2_take_29 : decode cX2_take 29 = .ok (.if_icmp .lt 6, 3) := by decide +kernel
theorem dX2_take_32 : decode cX2_take 32 = .ok (.bipush (-3), 2) := by decide +kernel
theorem dX2_take_34 : decode cX2_take 34 = .ok (.ireturn, 1) := by decide +kernel
theorem dX2_take_35 : decode cX2_take 35 = .ok (.aload_n 0, 1) := by decide +kernel
theorem dX2_take_36 : decode cX2_take 36 = .ok (.getfield 58, 3) := by decide +kernel
theorem dX2_take_39 : decode cX2_take 39 = .ok (.istore_n 3, 1) := by decide +kernel
theorem dX2_take_40 : decode cX2_take 40 = .ok (.aload_n 0, 1) := by decide +kernel
theorem dX2_take_41 : decode cX2_take 41 = .ok (.getfield 9, 3) := by decide +kernel
theorem dX2_take_44 : decode cX2_take 44 = .ok (.iload_n 3, 1) := by decide +kernel
theorem dX2_take_45 : decode cX2_take 45 = .ok (.iload_n 1, 1) := by decide +kernel
theorem dX2_take_46 : decode cX2_take 46 = .ok (.invokestatic 43, 3) := by decide +kernel
theorem dX2_take_49 : decode cX2_take 49 = .ok (.aload_n 0, 1) := by decide +kernel
theorem dX2_take_50 : decode cX2_take 50 = .ok (.getfield 15, 3) := by decide +kernel
theorem dX2_take_53 : decode cX2_take 53 = .ok (.iload_n 3, 1) := by decide +kernel
theorem dX2_take_54 : decode cX2_take 54 = .ok (.iload_n 2, 1) := by decide +kernel
theorem dX2_take_55 : decode cX2_take 55 = .ok (.invokestatic 43, 3) := by decide +kernel
theorem dX2_take_58 : decode cX2_take 58 = .ok (.aload_n 0, 1) := by decide +kernel
theorem dX2_take_59 : decode cX2_take 59 = .ok (.getfield 24, 3) := by decide +kernel
theorem dX2_take_62 : decode cX2_take 62 = .ok (.iload_n 3, 1) := by decide +kernel
theorem dX2_take_63 : decode cX2_take 63 = .ok (.aload_n 0, 1) := by decide +kernel
theorem dX2_take_64 : decode cX2_take 64 = .ok (.getfield 36, 3) := by decide +kernel
theorem dX2_take_67 : decode cX2_take 67 = .ok (.iload_n 1, 1) := by decide +kernel
theorem dX2_take_68 : decode cX2_take 68 = .ok (.iload_n 2, 1) := by decide +kernel
theorem dX2_take_69 : decode cX2_take 69 = .ok (.invokevirtual 77, 3) := by decide +kernel
theorem dX2_take_72 : decode cX2_take 72 = .ok (.ifCond .eq 7, 3) := by decide +kernel
theorem dX2_take_75 : decode cX2_take 75 = .ok (.iconst 1, 1) := by decide +kernel
theorem dX2_take_76 : decode cX2_take 76 = .ok (.goto 4, 3) := by decide +kernel
theorem dX2_take_79 : decode cX2_take 79 = .ok (.iconst 0, 1) := by decide +kernel
theorem dX2_take_80 : decode cX2_take 80 = .ok (.invokestatic 43, 3) := by decide +kernel
theorem dX2_take_83 : decode cX2_take 83 = .ok (.iload_n 1, 1) := by decide +kernel
theorem dX2_take_84 : decode cX2_take 84 = .ok (.invokestatic 80, 3) := by decide +kernel
theorem dX2_take_87 : decode cX2_take 87 = .ok (.ifCond .ne 8, 3) := by decide +kernel
theorem dX2_take_90 : decode cX2_take 90 = .ok (.aload_n 0, 1) := by decide +kernel
theorem dX2_take_91 : decode cX2_take 91 = .ok (.iload_n 3, 1) := by decide +kernel
theorem dX2_take_92 : decode cX2_take 92 = .ok (.invokevirtual 84, 3) := by decide +kernel
theorem dX2_take_95 : decode cX2_take 95 = .ok (.aload_n 0, 1) := by decide +kernel
theorem dX2_take_96 : decode cX2_take 96 = .ok (.getfield 36, 3) := by decide +kernel
theorem dX2_take_99 : decode cX2_take 99 = .ok (.iload_n 1, 1) := by decide +kernel
theorem dX2_take_100 : decode cX2_take 100 = .ok (.iload_n 2, 1) := by decide +kernel
theorem dX2_take_101 : decode cX2_take 101 = .ok (.invokevirtual 88, 3) := by decide +kernel
theorem dX2_take_104 : decode cX2_take 104 = .ok (.iload_n 1, 1) := by decide +kernel
theorem dX2_take_105 : decode cX2_take 105 = .ok (.invokestatic 80, 3) := by decide +kernel
theorem dX2_take_108 : decode cX2_take 108 = .ok (.ifCond .eq 8, 3) := by decide +kernel
theorem dX2_take_111 : decode cX2_take 111 = .ok (.aload_n 0, 1) := by decide +kernel
theorem dX2_take_112 : decode cX2_take 112 = .ok (.iload_n 3, 1) := by decide +kernel
theorem dX2_take_113 : decode cX2_take 113 = .ok (.invokevirtual 84, 3) := by decide +kernel
theorem dX2_take_116 : decode cX2_take 116 = .ok (.aload_n 0, 1) := by decide +kernel
theorem dX2_take_117 : decode cX2_take 117 = .ok (.iload_n 3, 1) := by decide +kernel
theorem dX2_take_118 : decode cX2_take 118 = .ok (.iconst 1, 1) := by decide +kernel
theorem dX2_take_119 : decode cX2_take 119 = .ok (.iadd, 1) := by decide +kernel
theorem dX2_take_120 : decode cX2_take 120 = .ok (.putfield 58, 3) := by decide +kernel
theorem dX2_take_123 : decode cX2_take 123 = .ok (.aload_n 0, 1) := by decide +kernel
theorem dX2_take_124 : decode cX2_take 124 = .ok (.getfield 27, 3) := by decide +kernel
theorem dX2_take_127 : decode cX2_take 127 = .ok (.aload_n 0, 1) := by decide +kernel
theorem dX2_take_128 : decode cX2_take 128 = .ok (.getfield 58, 3) := by decide +kernel
theorem dX2_take_131 : decode cX2_take 131 = .ok (.iconst 0, 1) := by decide +kernel
theorem dX2_take_132 : decode cX2_take 132 = .ok (.invokestatic 43, 3) := by decide +kernel
theorem dX2_take_135 : decode cX2_take 135 = .ok (.iload_n 3, 1) := by decide +kernel
theorem dX2_take_136 : decode cX2_take 136 = .ok (.ireturn, 1) := by decide +kernel
theorem dX2_begins_0 : decode cX2_begins 0 = .ok (.iload_n 0, 1) := by decide +kernel
theorem dX2_begins_1 : decode cX2_begins 1 = .ok (.ifCond .eq 9, 3) := by decide +kernel
theorem dX2_begins_4 : decode cX2_begins 4 = .ok (.iload_n 0, 1) := by decide +kernel
theorem dX2_begins_5 : decode cX2_begins 5 = .ok (.bipush 6, 2) := by decide +kernel
theorem dX2_begins_7 : decode cX2_begins 7 = .ok (.if_icmp .ne 7, 3) := by decide +kernel
theorem dX2_begins_10 : decode cX2_begins 10 = .ok (.iconst 1, 1) := by decide +kernel
theorem dX2_begins_11 : decode cX2_begins 11 = .ok (.goto 4, 3) := by decide +kernel
theorem dX2_begins_14 : decode cX2_begins 14 = .ok (.iconst 0, 1) := by decide +kernel
theorem dX2_begins_15 : decode cX2_begins 15 = .ok (.ireturn, 1) := by decide +kernel
theorem dX2_noteStriker_0 : decode cX2_noteStriker 0 = .ok (.aload_n 0, 1) := by decide +kernel
theorem dX2_noteStriker_1 : decode cX2_noteStriker 1 = .ok (.getfield 18, 3) := by decide +kernel
theorem dX2_noteStriker_4 : decode cX2_noteStriker 4 = .ok (.iload_n 1, 1) := by decide +kernel
theorem dX2_noteStriker_5 : decode cX2_noteStriker 5 = .ok (.aload_n 0, 1) := by decide +kernel
theorem dX2_noteStriker_6 : decode cX2_noteStriker 6 = .ok (.getfield 36, 3) := by decide +kernel
theorem dX2_noteStriker_9 : decode cX2_noteStriker 9 = .ok (.invokevirtual 91, 3) := by decide +kernel
theorem dX2_noteStriker_12 : decode cX2_noteStriker 12 = .ok (.invokestatic 43, 3) := by decide +kernel
theorem dX2_noteStriker_15 : decode cX2_noteStriker 15 = .ok (.aload_n 0, 1) := by decide +kernel
theorem dX2_noteStriker_16 : decode cX2_noteStriker 16 = .ok (.getfield 21, 3) := by decide +kernel
theorem dX2_noteStriker_19 : decode cX2_noteStriker 19 = .ok (.iload_n 1, 1) := by decide +kernel
theorem dX2_noteStriker_20 : decode cX2_noteStriker 20 = .ok (.aload_n 0, 1) := by decide +kernel
theorem dX2_noteStriker_21 : decode cX2_noteStriker 21 = .ok (.getfield 36, 3) := by decide +kernel
theorem dX2_noteStriker_24 : decode cX2_noteStriker 24 = .ok (.invokevirtual 94, 3) := by decide +kernel
theorem dX2_noteStriker_27 : decode cX2_noteStriker 27 = .ok (.invokestatic 43, 3) := by decide +kernel
theorem dX2_noteStriker_30 : decode cX2_noteStriker 30 = .ok (.return_, 1) := by decide +kernel
theorem dX2_has_0 : decode cX2_has 0 = .ok (.iload_n 1, 1) := by decide +kernel
theorem dX2_has_1 : decode cX2_has 1 = .ok (.ifCond .lt 15, 3) := by decide +kernel
theorem dX2_has_4 : decode cX2_has 4 = .ok (.iload_n 1, 1) := by decide +kernel
theorem dX2_has_5 : decode cX2_has 5 = .ok (.aload_n 0, 1) := by decide +kernel
theorem dX2_has_6 : decode cX2_has 6 = .ok (.getfield 58, 3) := by decide +kernel
theorem dX2_has_9 : decode cX2_has 9 = .ok (.if_icmp .ge 7, 3) := by decide +kernel
theorem dX2_has_12 : decode cX2_has 12 = .ok (.iconst 1, 1) := by decide +kernel
theorem dX2_has_13 : decode cX2_has 13 = .ok (.goto 4, 3) := by decide +kernel
theorem dX2_has_16 : decode cX2_has 16 = .ok (.iconst 0, 1) := by decide +kernel
theorem dX2_has_17 : decode cX2_has 17 = .ok (.ireturn, 1) := by decide +kernel
theorem dX2_tell_0 : decode cX2_tell 0 = .ok (.aload_n 0, 1) := by decide +kernel
theorem dX2_tell_1 : decode cX2_tell 1 = .ok (.iload_n 1, 1) := by decide +kernel
theorem dX2_tell_2 : decode cX2_tell 2 = .ok (.invokevirtual 97, 3) := by decide +kernel
theorem dX2_tell_5 : decode cX2_tell 5 = .ok (.ifCond .ne 6, 3) := by decide +kernel
theorem dX2_tell_8 : decode cX2_tell 8 = .ok (.bipush (-4), 2) := by decide +kernel
theorem dX2_tell_10 : decode cX2_tell 10 = .ok (.ireturn, 1) := by decide +kernel
theorem dX2_tell_11 : decode cX2_tell 11 = .ok (.iload_n 2, 1) := by decide +kernel
theorem dX2_tell_12 : decode cX2_tell 12 = .ok (.tableswitch 55 0 2 #[28, 37, 46], 28) := by decide +kernel
theorem dX2_tell_40 : decode cX2_tell 40 = .ok (.aload_n 0, 1) := by decide +kernel
theorem dX2_tell_41 : decode cX2_tell 41 = .ok (.getfield 9, 3) := by decide +kernel
theorem dX2_tell_44 : decode cX2_tell 44 = .ok (.iload_n 1, 1) := by decide +kernel
theorem dX2_tell_45 : decode cX2_tell 45 = .ok (.invokestatic 69, 3) := by decide +kernel
theorem dX2_tell_48 : decode cX2_tell 48 = .ok (.ireturn, 1) := by decide +kernel
theorem dX2_tell_49 : decode cX2_tell 49 = .ok (.aload_n 0, 1) := by decide +kernel
theorem dX2_tell_50 : decode cX2_tell 50 = .ok (.getfield 18, 3) := by decide +kernel
theorem dX2_tell_53 : decode cX2_tell 53 = .ok (.iload_n 1, 1) := by decide +kernel
theorem dX2_tell_54 : decode cX2_tell 54 = .ok (.invokestatic 69, 3) := by decide +kernel
theorem dX2_tell_57 : decode cX2_tell 57 = .ok (.ireturn, 1) := by decide +kernel
theorem dX2_tell_58 : decode cX2_tell 58 = .ok (.aload_n 0, 1) := by decide +kernel
theorem dX2_tell_59 : decode cX2_tell 59 = .ok (.getfield 21, 3) := by decide +kernel
theorem dX2_tell_62 : decode cX2_tell 62 = .ok (.iload_n 1, 1) := by decide +kernel
theorem dX2_tell_63 : decode cX2_tell 63 = .ok (.invokestatic 69, 3) := by decide +kernel
theorem dX2_tell_66 : decode cX2_tell 66 = .ok (.ireturn, 1) := by decide +kernel
theorem dX2_tell_67 : decode cX2_tell 67 = .ok (.aload_n 0, 1) := by decide +kernel
theorem dX2_tell_68 : decode cX2_tell 68 = .ok (.getfield 24, 3) := by decide +kernel
theorem dX2_tell_71 : decode cX2_tell 71 = .ok (.iload_n 1, 1) := by decide +kernel
theorem dX2_tell_72 : decode cX2_tell 72 = .ok (.invokestatic 69, 3) := by decide +kernel
theorem dX2_tell_75 : decode cX2_tell 75 = .ok (.ireturn, 1) := by decide +kernel
theorem dX2_asOf_0 : decode cX2_asOf 0 = .ok (.aload_n 0, 1) := by decide +kernel
theorem dX2_asOf_1 : decode cX2_asOf 1 = .ok (.getfield 54, 3) := by decide +kernel
theorem dX2_asOf_4 : decode cX2_asOf 4 = .ok (.ifCond .eq 15, 3) := by decide +kernel
theorem dX2_asOf_7 : decode cX2_asOf 7 = .ok (.iload_n 1, 1) := by decide +kernel
theorem dX2_asOf_8 : decode cX2_asOf 8 = .ok (.ifCond .lt 11, 3) := by decide +kernel
theorem dX2_asOf_11 : decode cX2_asOf 11 = .ok (.iload_n 1, 1) := by decide +kernel
theorem dX2_asOf_12 : decode cX2_asOf 12 = .ok (.aload_n 0, 1) := by decide +kernel
theorem dX2_asOf_13 : decode cX2_asOf 13 = .ok (.getfield 58, 3) := by decide +kernel
theorem dX2_asOf_16 : decode cX2_asOf 16 = .ok (.if_icmp .le 5, 3) := by decide +kernel
theorem dX2_asOf_19 : decode cX2_asOf 19 = .ok (.iconst (-1), 1) := by decide +kernel
theorem dX2_asOf_20 : decode cX2_asOf 20 = .ok (.ireturn, 1) := by decide +kernel
theorem dX2_asOf_21 : decode cX2_asOf 21 = .ok (.aload_n 0, 1) := by decide +kernel
theorem dX2_asOf_22 : decode cX2_asOf 22 = .ok (.aload_n 0, 1) := by decide +kernel
theorem dX2_asOf_23 : decode cX2_asOf 23 = .ok (.getfield 40, 3) := by decide +kernel
theorem dX2_asOf_26 : decode cX2_asOf 26 = .ok (.iload_n 1, 1) := by decide +kernel
theorem dX2_asOf_27 : decode cX2_asOf 27 = .ok (.invokevirtual 100, 3) := by decide +kernel
theorem dX2_asOf_30 : decode cX2_asOf 30 = .ok (.aload_n 0, 1) := by decide +kernel
theorem dX2_asOf_31 : decode cX2_asOf 31 = .ok (.getfield 40, 3) := by decide +kernel
theorem dX2_asOf_34 : decode cX2_asOf 34 = .ok (.iload_n 2, 1) := by decide +kernel
theorem dX2_asOf_35 : decode cX2_asOf 35 = .ok (.invokevirtual 104, 3) := by decide +kernel
theorem dX2_asOf_38 : decode cX2_asOf 38 = .ok (.ireturn, 1) := by decide +kernel
theorem dX2_leadTo_0 : decode cX2_leadTo 0 = .ok (.aload_n 1, 1) := by decide +kernel
theorem dX2_leadTo_1 : decode cX2_leadTo 1 = .ok (.aload_n 0, 1) := by decide +kernel
theorem dX2_leadTo_2 : decode cX2_leadTo 2 = .ok (.getfield 47, 3) := by decide +kernel
theorem dX2_leadTo_5 : decode cX2_leadTo 5 = .ok (.aload_n 0, 1) := by decide +kernel
theorem dX2_leadTo_6 : decode cX2_leadTo 6 = .ok (.getfield 51, 3) := by decide +kernel
theorem dX2_leadTo_9 : decode cX2_leadTo 9 = .ok (.invokevirtual 61, 3) := by decide +kernel
theorem dX2_leadTo_12 : decode cX2_leadTo 12 = .ok (.aload_n 1, 1) := by decide +kernel
theorem dX2_leadTo_13 : decode cX2_leadTo 13 = .ok (.aload_n 0, 1) := by decide +kernel
theorem dX2_leadTo_14 : decode cX2_leadTo 14 = .ok (.getfield 27, 3) := by decide +kernel
theorem dX2_leadTo_17 : decode cX2_leadTo 17 = .ok (.iconst 0, 1) := by decide +kernel
theorem dX2_leadTo_18 : decode cX2_leadTo 18 = .ok (.invokestatic 69, 3) := by decide +kernel
theorem dX2_leadTo_21 : decode cX2_leadTo 21 = .ok (.invokestatic 108, 3) := by decide +kernel
theorem dX2_leadTo_24 : decode cX2_leadTo 24 = .ok (.iconst 0, 1) := by decide +kernel
theorem dX2_leadTo_25 : decode cX2_leadTo 25 = .ok (.istore_n 3, 1) := by decide +kernel
theorem dX2_leadTo_26 : decode cX2_leadTo 26 = .ok (.iload_n 3, 1) := by decide +kernel
theorem dX2_leadTo_27 : decode cX2_leadTo 27 = .ok (.iload_n 2, 1) := by decide +kernel
theorem dX2_leadTo_28 : decode cX2_leadTo 28 = .ok (.if_icmp .ge 51, 3) := by decide +kernel
theorem dX2_leadTo_31 : decode cX2_leadTo 31 = .ok (.iload_n 3, 1) := by decide +kernel
theorem dX2_leadTo_32 : decode cX2_leadTo 32 = .ok (.aload_n 0, 1) := by decide +kernel
theorem dX2_leadTo_33 : decode cX2_leadTo 33 = .ok (.getfield 58, 3) := by decide +kernel
theorem dX2_leadTo_36 : decode cX2_leadTo 36 = .ok (.if_icmp .ge 43, 3) := by decide +kernel
theorem dX2_leadTo_39 : decode cX2_leadTo 39 = .ok (.aload_n 1, 1) := by decide +kernel
theorem dX2_leadTo_40 : decode cX2_leadTo 40 = .ok (.aload_n 0, 1) := by decide +kernel
theorem dX2_leadTo_41 : decode cX2_leadTo 41 = .ok (.getfield 9, 3) := by decide +kernel
theorem dX2_leadTo_44 : decode cX2_leadTo 44 = .ok (.iload_n 3, 1) := by decide +kernel
theorem dX2_leadTo_45 : decode cX2_leadTo 45 = .ok (.invokestatic 69, 3) := by decide +kernel
theorem dX2_leadTo_48 : decode cX2_leadTo 48 = .ok (.aload_n 0, 1) := by decide +kernel
theorem dX2_leadTo_49 : decode cX2_leadTo 49 = .ok (.getfield 15, 3) := by decide +kernel
theorem dX2_leadTo_52 : decode cX2_leadTo 52 = .ok (.iload_n 3, 1) := by decide +kernel
theorem dX2_leadTo_53 : decode cX2_leadTo 53 = .ok (.invokestatic 69, 3) := by decide +kernel
theorem dX2_leadTo_56 : decode cX2_leadTo 56 = .ok (.invokevirtual 88, 3) := by decide +kernel
theorem dX2_leadTo_59 : decode cX2_leadTo 59 = .ok (.aload_n 1, 1) := by decide +kernel
theorem dX2_leadTo_60 : decode cX2_leadTo 60 = .ok (.aload_n 0, 1) := by decide +kernel
theorem dX2_leadTo_61 : decode cX2_leadTo 61 = .ok (.getfield 27, 3) := by decide +kernel
theorem dX2_leadTo_64 : decode cX2_leadTo 64 = .ok (.iload_n 3, 1) := by decide +kernel
theorem dX2_leadTo_65 : decode cX2_leadTo 65 = .ok (.iconst 1, 1) := by decide +kernel
theorem dX2_leadTo_66 : decode cX2_leadTo 66 = .ok (.iadd, 1) := by decide +kernel
theorem dX2_leadTo_67 : decode cX2_leadTo 67 = .ok (.invokestatic 69, 3) := by decide +kernel
theorem dX2_leadTo_70 : decode cX2_leadTo 70 = .ok (.invokestatic 108, 3) := by decide +kernel
theorem dX2_leadTo_73 : decode cX2_leadTo 73 = .ok (.iinc 3 1, 3) := by decide +kernel
theorem dX2_leadTo_76 : decode cX2_leadTo 76 = .ok (.goto (-50), 3) := by decide +kernel
theorem dX2_leadTo_79 : decode cX2_leadTo 79 = .ok (.return_, 1) := by decide +kernel
theorem dX2_obey_0 : decode cX2_obey 0 = .ok (.iload_n 1, 1) := by decide +kernel
theorem dX2_obey_1 : decode cX2_obey 1 = .ok (.iconst 1, 1) := by decide +kernel
theorem dX2_obey_2 : decode cX2_obey 2 = .ok (.if_icmp .ne 10, 3) := by decide +kernel
theorem dX2_obey_5 : decode cX2_obey 5 = .ok (.aload_n 0, 1) := by decide +kernel
theorem dX2_obey_6 : decode cX2_obey 6 = .ok (.invokevirtual 111, 3) := by decide +kernel
theorem dX2_obey_9 : decode cX2_obey 9 = .ok (.goto 15, 3) := by decide +kernel
theorem dX2_obey_12 : decode cX2_obey 12 = .ok (.iload_n 1, 1) := by decide +kernel
theorem dX2_obey_13 : decode cX2_obey 13 = .ok (.iconst 2, 1) := by decide +kernel
theorem dX2_obey_14 : decode cX2_obey 14 = .ok (.if_icmp .lt 10, 3) := by decide +kernel
theorem dX2_obey_17 : decode cX2_obey 17 = .ok (.aload_n 0, 1) := by decide +kernel
theorem dX2_obey_18 : decode cX2_obey 18 = .ok (.iload_n 1, 1) := by decide +kernel
theorem dX2_obey_19 : decode cX2_obey 19 = .ok (.iconst 2, 1) := by decide +kernel
theorem dX2_obey_20 : decode cX2_obey 20 = .ok (.isub, 1) := by decide +kernel
theorem dX2_obey_21 : decode cX2_obey 21 = .ok (.invokevirtual 114, 3) := by decide +kernel
theorem dX2_obey_24 : decode cX2_obey 24 = .ok (.return_, 1) := by decide +kernel
theorem dX2_find_0 : decode cX2_find 0 = .ok (.aload_n 0, 1) := by decide +kernel
theorem dX2_find_1 : decode cX2_find 1 = .ok (.iload_n 1, 1) := by decide +kernel
theorem dX2_find_2 : decode cX2_find 2 = .ok (.invokevirtual 97, 3) := by decide +kernel
theorem dX2_find_5 : decode cX2_find 5 = .ok (.ifCond .ne 5, 3) := by decide +kernel
theorem dX2_find_8 : decode cX2_find 8 = .ok (.iconst (-1), 1) := by decide +kernel
theorem dX2_find_9 : decode cX2_find 9 = .ok (.ireturn, 1) := by decide +kernel
theorem dX2_find_10 : decode cX2_find 10 = .ok (.aload_n 0, 1) := by decide +kernel
theorem dX2_find_11 : decode cX2_find 11 = .ok (.getfield 24, 3) := by decide +kernel
theorem dX2_find_14 : decode cX2_find 14 = .ok (.iload_n 1, 1) := by decide +kernel
theorem dX2_find_15 : decode cX2_find 15 = .ok (.invokestatic 69, 3) := by decide +kernel
theorem dX2_find_18 : decode cX2_find 18 = .ok (.ifCond .ne 6, 3) := by decide +kernel
theorem dX2_find_21 : decode cX2_find 21 = .ok (.bipush (-2), 2) := by decide +kernel
theorem dX2_find_23 : decode cX2_find 23 = .ok (.ireturn, 1) := by decide +kernel
theorem dX2_find_24 : decode cX2_find 24 = .ok (.aload_n 2, 1) := by decide +kernel
theorem dX2_find_25 : decode cX2_find 25 = .ok (.aload_n 0, 1) := by decide +kernel
theorem dX2_find_26 : decode cX2_find 26 = .ok (.getfield 9, 3) := by decide +kernel
theorem dX2_find_29 : decode cX2_find 29 = .ok (.iload_n 1, 1) := by decide +kernel
theorem dX2_find_30 : decode cX2_find 30 = .ok (.invokestatic 69, 3) := by decide +kernel
theorem dX2_find_33 : decode cX2_find 33 = .ok (.aload_n 0, 1) := by decide +kernel
theorem dX2_find_34 : decode cX2_find 34 = .ok (.getfield 58, 3) := by decide +kernel
theorem dX2_find_37 : decode cX2_find 37 = .ok (.iconst 1, 1) := by decide +kernel
theorem dX2_find_38 : decode cX2_find 38 = .ok (.isub, 1) := by decide +kernel
theorem dX2_find_39 : decode cX2_find 39 = .ok (.iload_n 1, 1) := by decide +kernel
theorem dX2_find_40 : decode cX2_find 40 = .ok (.isub, 1) := by decide +kernel
theorem dX2_find_41 : decode cX2_find 41 = .ok (.invokevirtual 117, 3) := by decide +kernel
theorem dX2_find_44 : decode cX2_find 44 = .ok (.istore_n 3, 1) := by decide +kernel
theorem dX2_find_45 : decode cX2_find 45 = .ok (.iload_n 3, 1) := by decide +kernel
theorem dX2_find_46 : decode cX2_find 46 = .ok (.bipush (-4), 2) := by decide +kernel
theorem dX2_find_48 : decode cX2_find 48 = .ok (.if_icmp .ne 6, 3) := by decide +kernel
theorem dX2_find_51 : decode cX2_find 51 = .ok (.bipush (-2), 2) := by decide +kernel
theorem dX2_find_53 : decode cX2_find 53 = .ok (.ireturn, 1) := by decide +kernel
theorem dX2_find_54 : decode cX2_find 54 = .ok (.iload_n 3, 1) := by decide +kernel
theorem dX2_find_55 : decode cX2_find 55 = .ok (.bipush 82, 2) := by decide +kernel
theorem dX2_find_57 : decode cX2_find 57 = .ok (.if_icmp .ne 11, 3) := by decide +kernel
theorem dX2_find_60 : decode cX2_find 60 = .ok (.aload_n 0, 1) := by decide +kernel
theorem dX2_find_61 : decode cX2_find 61 = .ok (.iload_n 1, 1) := by decide +kernel
theorem dX2_find_62 : decode cX2_find 62 = .ok (.invokevirtual 123, 3) := by decide +kernel
theorem dX2_find_65 : decode cX2_find 65 = .ok (.goto 8, 3) := by decide +kernel
theorem dX2_find_68 : decode cX2_find 68 = .ok (.aload_n 0, 1) := by decide +kernel
theorem dX2_find_69 : decode cX2_find 69 = .ok (.iload_n 1, 1) := by decide +kernel
theorem dX2_find_70 : decode cX2_find 70 = .ok (.invokevirtual 126, 3) := by decide +kernel
theorem dX2_find_73 : decode cX2_find 73 = .ok (.ireturn, 1) := by decide +kernel
theorem dX2_takeAway_0 : decode cX2_takeAway 0 = .ok (.aload_n 0, 1) := by decide +kernel
theorem dX2_takeAway_1 : decode cX2_takeAway 1 = .ok (.getfield 27, 3) := by decide +kernel
theorem dX2_takeAway_4 : decode cX2_takeAway 4 = .ok (.iload_n 1, 1) := by decide +kernel
theorem dX2_takeAway_5 : decode cX2_takeAway 5 = .ok (.iconst 3, 1) := by decide +kernel
theorem dX2_takeAway_6 : decode cX2_takeAway 6 = .ok (.aload_n 0, 1) := by decide +kernel
theorem dX2_takeAway_7 : decode cX2_takeAway 7 = .ok (.getfield 21, 3) := by decide +kernel
theorem dX2_takeAway_10 : decode cX2_takeAway 10 = .ok (.iload_n 1, 1) := by decide +kernel
theorem dX2_takeAway_11 : decode cX2_takeAway 11 = .ok (.invokestatic 69, 3) := by decide +kernel
theorem dX2_takeAway_14 : decode cX2_takeAway 14 = .ok (.isub, 1) := by decide +kernel
theorem dX2_takeAway_15 : decode cX2_takeAway 15 = .ok (.invokestatic 43, 3) := by decide +kernel
theorem dX2_takeAway_18 : decode cX2_takeAway 18 = .ok (.aload_n 0, 1) := by decide +kernel
theorem dX2_takeAway_19 : decode cX2_takeAway 19 = .ok (.iload_n 1, 1) := by decide +kernel
theorem dX2_takeAway_20 : decode cX2_takeAway 20 = .ok (.putfield 58, 3) := by decide +kernel
theorem dX2_takeAway_23 : decode cX2_takeAway 23 = .ok (.aload_n 0, 1) := by decide +kernel
theorem dX2_takeAway_24 : decode cX2_takeAway 24 = .ok (.aload_n 0, 1) := by decide +kernel
theorem dX2_takeAway_25 : decode cX2_takeAway 25 = .ok (.getfield 36, 3) := by decide +kernel
theorem dX2_takeAway_28 : decode cX2_takeAway 28 = .ok (.aload_n 0, 1) := by decide +kernel
theorem dX2_takeAway_29 : decode cX2_takeAway 29 = .ok (.getfield 58, 3) := by decide +kernel
theorem dX2_takeAway_32 : decode cX2_takeAway 32 = .ok (.invokevirtual 100, 3) := by decide +kernel
theorem dX2_takeAway_35 : decode cX2_takeAway 35 = .ok (.iconst 1, 1) := by decide +kernel
theorem dX2_takeAway_36 : decode cX2_takeAway 36 = .ok (.ireturn, 1) := by decide +kernel
theorem dX2_stopTurn_0 : decode cX2_stopTurn 0 = .ok (.aload_n 0, 1) := by decide +kernel
theorem dX2_stopTurn_1 : decode cX2_stopTurn 1 = .ok (.getfield 24, 3) := by decide +kernel
theorem dX2_stopTurn_4 : decode cX2_stopTurn 4 = .ok (.iload_n 1, 1) := by decide +kernel
theorem dX2_stopTurn_5 : decode cX2_stopTurn 5 = .ok (.iconst 0, 1) := by decide +kernel
theorem dX2_stopTurn_6 : decode cX2_stopTurn 6 = .ok (.invokestatic 43, 3) := by decide +kernel
theorem dX2_stopTurn_9 : decode cX2_stopTurn 9 = .ok (.aload_n 0, 1) := by decide +kernel
theorem dX2_stopTurn_10 : decode cX2_stopTurn 10 = .ok (.getfield 36, 3) := by decide +kernel
theorem dX2_stopTurn_13 : decode cX2_stopTurn 13 = .ok (.invokevirtual 91, 3) := by decide +kernel
theorem dX2_stopTurn_16 : decode cX2_stopTurn 16 = .ok (.bipush (-4), 2) := by decide +kernel
theorem dX2_stopTurn_18 : decode cX2_stopTurn 18 = .ok (.if_icmp .eq 22, 3) := by decide +kernel
theorem dX2_stopTurn_21 : decode cX2_stopTurn 21 = .ok (.aload_n 0, 1) := by decide +kernel
theorem dX2_stopTurn_22 : decode cX2_stopTurn 22 = .ok (.getfield 27, 3) := by decide +kernel
theorem dX2_stopTurn_25 : decode cX2_stopTurn 25 = .ok (.aload_n 0, 1) := by decide +kernel
theorem dX2_stopTurn_26 : decode cX2_stopTurn 26 = .ok (.getfield 58, 3) := by decide +kernel
theorem dX2_stopTurn_29 : decode cX2_stopTurn 29 = .ok (.iconst 1, 1) := by decide +kernel
theorem dX2_stopTurn_30 : decode cX2_stopTurn 30 = .ok (.invokestatic 43, 3) := by decide +kernel
theorem dX2_stopTurn_33 : decode cX2_stopTurn 33 = .ok (.aload_n 0, 1) := by decide +kernel
theorem dX2_stopTurn_34 : decode cX2_stopTurn 34 = .ok (.getfield 36, 3) := by decide +kernel
theorem dX2_stopTurn_37 : decode cX2_stopTurn 37 = .ok (.invokevirtual 111, 3) := by decide +kernel
theorem dX2_stopTurn_40 : decode cX2_stopTurn 40 = .ok (.iconst 2, 1) := by decide +kernel
theorem dX2_stopTurn_41 : decode cX2_stopTurn 41 = .ok (.ireturn, 1) := by decide +kernel
theorem dX2_total_0 : decode cX2_total 0 = .ok (.iconst 0, 1) := by decide +kernel
theorem dX2_total_1 : decode cX2_total 1 = .ok (.istore_n 2, 1) := by decide +kernel
theorem dX2_total_2 : decode cX2_total 2 = .ok (.iconst 0, 1) := by decide +kernel
theorem dX2_total_3 : decode cX2_total 3 = .ok (.istore_n 3, 1) := by decide +kernel
theorem dX2_total_4 : decode cX2_total 4 = .ok (.iload_n 3, 1) := by decide +kernel
theorem dX2_total_5 : decode cX2_total 5 = .ok (.aload_n 0, 1) := by decide +kernel
theorem dX2_total_6 : decode cX2_total 6 = .ok (.getfield 58, 3) := by decide +kernel
theorem dX2_total_9 : decode cX2_total 9 = .ok (.if_icmp .ge 28, 3) := by decide +kernel
theorem dX2_total_12 : decode cX2_total 12 = .ok (.iload_n 3, 1) := by decide +kernel
theorem dX2_total_13 : decode cX2_total 13 = .ok (.sipush 150, 3) := by decide +kernel
theorem dX2_total_16 : decode cX2_total 16 = .ok (.if_icmp .ge 21, 3) := by decide +kernel
theorem dX2_total_19 : decode cX2_total 19 = .ok (.aload_n 0, 1) := by decide +kernel
theorem dX2_total_20 : decode cX2_total 20 = .ok (.iload_n 3, 1) := by decide +kernel
theorem dX2_total_21 : decode cX2_total 21 = .ok (.iload_n 1, 1) := by decide +kernel
theorem dX2_total_22 : decode cX2_total 22 = .ok (.invokevirtual 129, 3) := by decide +kernel
theorem dX2_total_25 : decode cX2_total 25 = .ok (.ifCond .eq 6, 3) := by decide +kernel
theorem dX2_total_28 : decode cX2_total 28 = .ok (.iinc 2 1, 3) := by decide +kernel
theorem dX2_total_31 : decode cX2_total 31 = .ok (.iinc 3 1, 3) := by decide +kernel
theorem dX2_total_34 : decode cX2_total 34 = .ok (.goto (-30), 3) := by decide +kernel
theorem dX2_total_37 : decode cX2_total 37 = .ok (.iload_n 2, 1) := by decide +kernel
theorem dX2_total_38 : decode cX2_total 38 = .ok (.ireturn, 1) := by decide +kernel
theorem dX2_counts_0 : decode cX2_counts 0 = .ok (.iload_n 2, 1) := by decide +kernel
theorem dX2_counts_1 : decode cX2_counts 1 = .ok (.ifCond .ne 5, 3) := by decide +kernel
theorem dX2_counts_4 : decode cX2_counts 4 = .ok (.iconst 1, 1) := by decide +kernel
theorem dX2_counts_5 : decode cX2_counts 5 = .ok (.ireturn, 1) := by decide +kernel
theorem dX2_counts_6 : decode cX2_counts 6 = .ok (.iload_n 2, 1) := by decide +kernel
theorem dX2_counts_7 : decode cX2_counts 7 = .ok (.iconst 1, 1) := by decide +kernel
theorem dX2_counts_8 : decode cX2_counts 8 = .ok (.if_icmp .ne 23, 3) := by decide +kernel
theorem dX2_counts_11 : decode cX2_counts 11 = .ok (.aload_n 0, 1) := by decide +kernel
theorem dX2_counts_12 : decode cX2_counts 12 = .ok (.getfield 24, 3) := by decide +kernel
theorem dX2_counts_15 : decode cX2_counts 15 = .ok (.iload_n 1, 1) := by decide +kernel
theorem dX2_counts_16 : decode cX2_counts 16 = .ok (.invokestatic 69, 3) := by decide +kernel
theorem dX2_counts_19 : decode cX2_counts 19 = .ok (.iconst 1, 1) := by decide +kernel
theorem dX2_counts_20 : decode cX2_counts 20 = .ok (.if_icmp .ne 7, 3) := by decide +kernel
theorem dX2_counts_23 : decode cX2_counts 23 = .ok (.iconst 1, 1) := by decide +kernel
theorem dX2_counts_24 : decode cX2_counts 24 = .ok (.goto 18, 3) := by decide +kernel
theorem dX2_counts_27 : decode cX2_counts 27 = .ok (.iconst 0, 1) := by decide +kernel
theorem dX2_counts_28 : decode cX2_counts 28 = .ok (.goto 14, 3) := by decide +kernel
theorem dX2_counts_31 : decode cX2_counts 31 = .ok (.aload_n 0, 1) := by decide +kernel
theorem dX2_counts_32 : decode cX2_counts 32 = .ok (.getfield 9, 3) := by decide +kernel
theorem dX2_counts_35 : decode cX2_counts 35 = .ok (.iload_n 1, 1) := by decide +kernel
theorem dX2_counts_36 : decode cX2_counts 36 = .ok (.invokestatic 69, 3) := by decide +kernel
theorem dX2_counts_39 : decode cX2_counts 39 = .ok (.invokestatic 80, 3) := by decide +kernel
theorem dX2_counts_42 : decode cX2_counts 42 = .ok (.ireturn, 1) := by decide +kernel
theorem dX3_init_0 : decode cX3_init 0 = .ok (.aload_n 0, 1) := by decide +kernel
theorem dX3_init_1 : decode cX3_init 1 = .ok (.invokespecial 3, 3) := by decide +kernel
theorem dX3_init_4 : decode cX3_init 4 = .ok (.aload_n 0, 1) := by decide +kernel
theorem dX3_init_5 : decode cX3_init 5 = .ok (.iconst 4, 1) := by decide +kernel
theorem dX3_init_6 : decode cX3_init 6 = .ok (.newarray .int, 2) := by decide +kernel
theorem dX3_init_8 : decode cX3_init 8 = .ok (.putfield 9, 3) := by decide +kernel
theorem dX3_init_11 : decode cX3_init 11 = .ok (.aload_n 0, 1) := by decide +kernel
theorem dX3_init_12 : decode cX3_init 12 = .ok (.iconst 2, 1) := by decide +kernel
theorem dX3_init_13 : decode cX3_init 13 = .ok (.newarray .int, 2) := by decide +kernel
theorem dX3_init_15 : decode cX3_init 15 = .ok (.putfield 15, 3) := by decide +kernel
theorem dX3_init_18 : decode cX3_init 18 = .ok (.return_, 1) := by decide +kernel
theorem dX3_begin_0 : decode cX3_begin 0 = .ok (.aload_n 0, 1) := by decide +kernel
theorem dX3_begin_1 : decode cX3_begin 1 = .ok (.getfield 9, 3) := by decide +kernel
theorem dX3_begin_4 : decode cX3_begin 4 = .ok (.iconst 0, 1) := by decide +kernel
theorem dX3_begin_5 : decode cX3_begin 5 = .ok (.invokestatic 18, 3) := by decide +kernel
theorem dX3_begin_8 : decode cX3_begin 8 = .ok (.aload_n 0, 1) := by decide +kernel
theorem dX3_begin_9 : decode cX3_begin 9 = .ok (.getfield 15, 3) := by decide +kernel
theorem dX3_begin_12 : decode cX3_begin 12 = .ok (.iconst 0, 1) := by decide +kernel
theorem dX3_begin_13 : decode cX3_begin 13 = .ok (.iload_n 1, 1) := by decide +kernel
theorem dX3_begin_14 : decode cX3_begin 14 = .ok (.invokestatic 24, 3) := by decide +kernel
theorem dX3_begin_17 : decode cX3_begin 17 = .ok (.aload_n 0, 1) := by decide +kernel
theorem dX3_begin_18 : decode cX3_begin 18 = .ok (.getfield 15, 3) := by decide +kernel
theorem dX3_begin_21 : decode cX3_begin 21 = .ok (.iconst 1, 1) := by decide +kernel
theorem dX3_begin_22 : decode cX3_begin 22 = .ok (.iload_n 2, 1) := by decide +kernel
theorem dX3_begin_23 : decode cX3_begin 23 = .ok (.invokestatic 24, 3) := by decide +kernel
theorem dX3_begin_26 : decode cX3_begin 26 = .ok (.aload_n 0, 1) := by decide +kernel
theorem dX3_begin_27 : decode cX3_begin 27 = .ok (.iconst 0, 1) := by decide +kernel
theorem dX3_begin_28 : decode cX3_begin 28 = .ok (.invokevirtual 28, 3) := by decide +kernel
theorem dX3_begin_31 : decode cX3_begin 31 = .ok (.return_, 1) := by decide +kernel
theorem dX3_allows_0 : decode cX3_allows 0 = .ok (.aload_n 0, 1) := by decide +kernel
theorem dX3_allows_1 : decode cX3_allows 1 = .ok (.invokevirtual 32, 3) := by decide +kernel
theorem dX3_allows_4 : decode cX3_allows 4 = .ok (.bipush (-4), 2) := by decide +kernel
theorem dX3_allows_6 : decode cX3_allows 6 = .ok (.if_icmp .eq 5, 3) := by decide +kernel
theorem dX3_allows_9 : decode cX3_allows 9 = .ok (.iconst 0, 1) := by decide +kernel
theorem dX3_allows_10 : decode cX3_allows 10 = .ok (.ireturn, 1) := by decide +kernel
theorem dX3_allows_11 : decode cX3_allows 11 = .ok (.iload_n 1, 1) := by decide +kernel
theorem dX3_allows_12 : decode cX3_allows 12 = .ok (.ifCond .ne 26, 3) := by decide +kernel
theorem dX3_allows_15 : decode cX3_allows 15 = .ok (.aload_n 0, 1) := by decide +kernel
theorem dX3_allows_16 : decode cX3_allows 16 = .ok (.getfield 36, 3) := by decide +kernel
theorem dX3_allows_19 : decode cX3_allows 19 = .ok (.bipush (-4), 2) := by decide +kernel
theorem dX3_allows_21 : decode cX3_allows 21 = .ok (.if_icmp .ne 15, 3) := by decide +kernel
theorem dX3_allows_24 : decode cX3_allows 24 = .ok (.aload_n 0, 1) := by decide +kernel
theorem dX3_allows_25 : decode cX3_allows 25 = .ok (.iload_n 2, 1) := by decide +kernel
theorem dX3_allows_26 : decode cX3_allows 26 = .ok (.invokevirtual 40, 3) := by decide +kernel
theorem dX3_allows_29 : decode cX3_allows 29 = .ok (.ifCond .ne 7, 3) := by decide +kernel
theorem dX3_allows_32 : decode cX3_allows 32 = .ok (.iconst 1, 1) := by decide +kernel
theorem dX3_allows_33 : decode cX3_allows 33 = .ok (.goto 4, 3) := by decide +kernel
theorem dX3_allows_36 : decode cX3_allows 36 = .ok (.iconst 0, 1) := by decide +kernel
theorem dX3_allows_37 : decode cX3_allows 37 = .ok (.ireturn, 1) := by decide +kernel
theorem dX3_allows_38 : decode cX3_allows 38 = .ok (.iload_n 1, 1) := by decide +kernel
theorem dX3_allows_39 : decode cX3_allows 39 = .ok (.bipush 6, 2) := by decide +kernel
theorem dX3_allows_41 : decode cX3_allows 41 = .ok (.if_icmp .ne 25, 3) := by decide +kernel
theorem dX3_allows_44 : decode cX3_allows 44 = .ok (.aload_n 0, 1) := by decide +kernel
theorem dX3_allows_45 : decode cX3_allows 45 = .ok (.getfield 36, 3) := by decide +kernel
theorem dX3_allows_48 : decode cX3_allows 48 = .ok (.bipush (-4), 2) := by decide +kernel
theorem dX3_allows_50 : decode cX3_allows 50 = .ok (.if_icmp .ne 14, 3) := by decide +kernel
theorem dX3_allows_53 : decode cX3_allows 53 = .ok (.aload_n 0, 1) := by decide +kernel
theorem dX3_allows_54 : decode cX3_allows 54 = .ok (.invokevirtual 44, 3) := by decide +kernel
theorem dX3_allows_57 : decode cX3_allows 57 = .ok (.ifCond .eq 7, 3) := by decide +kernel
theorem dX3_allows_60 : decode cX3_allows 60 = .ok (.iconst 1, 1) := by decide +kernel
theorem dX3_allows_61 : decode cX3_allows 61 = .ok (.goto 4, 3) := by decide +kernel
theorem dX3_allows_64 : decode cX3_allows 64 = .ok (.iconst 0, 1) := by decide +kernel
theorem dX3_allows_65 : decode cX3_allows 65 = .ok (.ireturn, 1) := by decide +kernel
theorem dX3_allows_66 : decode cX3_allows 66 = .ok (.aload_n 0, 1) := by decide +kernel
theorem dX3_allows_67 : decode cX3_allows 67 = .ok (.getfield 36, 3) := by decide +kernel
theorem dX3_allows_70 : decode cX3_allows 70 = .ok (.bipush (-4), 2) := by decide +kernel
theorem dX3_allows_72 : decode cX3_allows 72 = .ok (.if_icmp .ne 5, 3) := by decide +kernel
theorem dX3_allows_75 : decode cX3_allows 75 = .ok (.iconst 0, 1) := by decide +kernel
theorem dX3_allows_76 : decode cX3_allows 76 = .ok (.ireturn, 1) := by decide +kernel
theorem dX3_allows_77 : decode cX3_allows 77 = .ok (.iload_n 1, 1) := by decide +kernel
theorem dX3_allows_78 : decode cX3_allows 78 = .ok (.iconst 4, 1) := by decide +kernel
theorem dX3_allows_79 : decode cX3_allows 79 = .ok (.if_icmp .ne 20, 3) := by decide +kernel
theorem dX3_allows_82 : decode cX3_allows 82 = .ok (.aload_n 0, 1) := by decide +kernel
theorem dX3_allows_83 : decode cX3_allows 83 = .ok (.getfield 48, 3) := by decide +kernel
theorem dX3_allows_86 : decode cX3_allows 86 = .ok (.bipush (-4), 2) := by decide +kernel
theorem dX3_allows_88 : decode cX3_allows 88 = .ok (.if_icmp .eq 7, 3) := by decide +kernel
theorem dX3_allows_91 : decode cX3_allows 91 = .ok (.iconst 1, 1) := by decide +kernel
theorem dX3_allows_92 : decode cX3_allows 92 = .ok (.goto 30, 3) := by decide +kernel
theorem dX3_allows_95 : decode cX3_allows 95 = .ok (.iconst 0, 1) := by decide +kernel
theorem dX3_allows_96 : decode cX3_allows 96 = .ok (.goto 26, 3) := by decide +kernel
theorem dX3_allows_99 : decode cX3_allows 99 = .ok (.aload_n 0, 1) := by decide +kernel
theorem dX3_allows_100 : decode cX3_allows 100 = .ok (.getfield 48, 3) := by decide +kernel
theorem dX3_allows_103 : decode cX3_allows 103 = .ok (.bipush (-4), 2) := by decide +kernel
theorem dX3_allows_105 : decode cX3_allows 105 = .ok (.if_icmp .ne 16, 3) := by decide +kernel
theorem dX3_allows_108 : decode cX3_allows 108 = .ok (.aload_n 0, 1) := by decide +kernel
theorem dX3_allows_109 : decode cX3_allows 109 = .ok (.iload_n 1, 1) := by decide +kernel
theorem dX3_allows_110 : decode cX3_allows 110 = .ok (.iload_n 2, 1) := by decide +kernel
theorem dX3_allows_111 : decode cX3_allows 111 = .ok (.invokevirtual 51, 3) := by decide +kernel
theorem dX3_allows_114 : decode cX3_allows 114 = .ok (.ifCond .eq 7, 3) := by decide +kernel
theorem dX3_allows_117 : decode cX3_allows 117 = .ok (.iconst 1, 1) := by decide +kernel
theorem dX3_allows_118 : decode cX3_allows 118 = .ok (.goto 4, 3) := by decide +kernel
theorem dX3_allows_121 : decode cX3_allows 121 = .ok (.iconst 0, 1) := by decide +kernel
theorem dX3_allows_122 : decode cX3_allows 122 = .ok (.ireturn, 1) := by decide +kernel
theorem dX3_allowsFree_0 : decode cX3_allowsFree 0 = .ok (.aload_n 0, 1) := by decide +kernel
theorem dX3_allowsFree_1 : decode cX3_allowsFree 1 = .ok (.getfield 55, 3) := by decide +kernel
theorem dX3_allowsFree_4 : decode cX3_allowsFree 4 = .ok (.bipush (-4), 2) := by decide +kernel
theorem dX3_allowsFree_6 : decode cX3_allowsFree 6 = .ok (.if_icmp .eq 34, 3) := by decide +kernel
theorem dX3_allowsFree_9 : decode cX3_allowsFree 9 = .ok (.aload_n 0, 1) := by decide +kernel
theorem dX3_allowsFree_10 : decode cX3_allowsFree 10 = .ok (.aload_n 0, 1) := by decide +kernel
theorem dX3_allowsFree_11 : decode cX3_allowsFree 11 = .ok (.getfield 55, 3) := by decide +kernel
theorem dX3_allowsFree_14 : decode cX3_allowsFree 14 = .ok (.invokevirtual 40, 3) := by decide +kernel
theorem dX3_allowsFree_17 : decode cX3_allowsFree 17 = .ok (.ifCond .ne 23, 3) := by decide +kernel
theorem dX3_allowsFree_20 : decode cX3_allowsFree 20 = .ok (.aload_n 0, 1) := by decide +kernel
theorem dX3_allowsFree_21 : decode cX3_allowsFree 21 = .ok (.getfield 15, 3) := by decide +kernel
theorem dX3_allowsFree_24 : decode cX3_allowsFree 24 = .ok (.iconst 1, 1) := by decide +kernel
theorem dX3_allowsFree_25 : decode cX3_allowsFree 25 = .ok (.aload_n 0, 1) := by decide +kernel
theorem dX3_allowsFree_26 : decode cX3_allowsFree 26 = .ok (.getfield 58, 3) := by decide +kernel
theorem dX3_allowsFree_29 : decode cX3_allowsFree 29 = .ok (.isub, 1) := by decide +kernel
theorem dX3_allowsFree_30 : decode cX3_allowsFree 30 = .ok (.invokestatic 61, 3) := by decide +kernel
theorem dX3_allowsFree_33 : decode cX3_allowsFree 33 = .ok (.ifCond .le 7, 3) := by decide +kernel
theorem dX3_allowsFree_36 : decode cX3_allowsFree 36 = .ok (.iconst 1, 1) := by decide +kernel
theorem dX3_allowsFree_37 : decode cX3_allowsFree 37 = .ok (.goto 4, 3) := by decide +kernel
theorem dX3_allowsFree_40 : decode cX3_allowsFree 40 = .ok (.iconst 0, 1) := by decide +kernel
theorem dX3_allowsFree_41 : decode cX3_allowsFree 41 = .ok (.ireturn, 1) := by decide +kernel
theorem dX3_allowsFresh_0 : decode cX3_allowsFresh 0 = .ok (.iload_n 1, 1) := by decide +kernel
theorem dX3_allowsFresh_1 : decode cX3_allowsFresh 1 = .ok (.tableswitch 97 2 5 #[31, 75, 97, 53], 31) := by decide +kernel
theorem dX3_allowsFresh_32 : decode cX3_allowsFresh 32 = .ok (.aload_n 0, 1) := by decide +kernel
theorem dX3_allowsFresh_33 : decode cX3_allowsFresh 33 = .ok (.getfield 9, 3) := by decide +kernel
theorem dX3_allowsFresh_36 : decode cX3_allowsFresh 36 = .ok (.aload_n 0, 1) := by decide +kernel
theorem dX3_allowsFresh_37 : decode cX3_allowsFresh 37 = .ok (.getfield 36, 3) := by decide +kernel
theorem dX3_allowsFresh_40 : decode cX3_allowsFresh 40 = .ok (.invokestatic 61, 3) := by decide +kernel
theorem dX3_allowsFresh_43 : decode cX3_allowsFresh 43 = .ok (.bipush 6, 2) := by decide +kernel
theorem dX3_allowsFresh_45 : decode cX3_allowsFresh 45 = .ok (.if_icmp .ge 7, 3) := by decide +kernel
theorem dX3_allowsFresh_48 : decode cX3_allowsFresh 48 = .ok (.iconst 1, 1) := by decide +kernel
theorem dX3_allowsFresh_49 : decode cX3_allowsFresh 49 = .ok (.goto 4, 3) := by decide +kernel
theorem dX3_allowsFresh_52 : decode cX3_allowsFresh 52 = .ok (.iconst 0, 1) := by decide +kernel
theorem dX3_allowsFresh_53 : decode cX3_allowsFresh 53 = .ok (.ireturn, 1) := by decide +kernel
theorem dX3_allowsFresh_54 : decode cX3_allowsFresh 54 = .ok (.aload_n 0, 1) := by decide +kernel
theorem dX3_allowsFresh_55 : decode cX3_allowsFresh 55 = .ok (.getfield 9, 3) := by decide +kernel
theorem dX3_allowsFresh_58 : decode cX3_allowsFresh 58 = .ok (.aload_n 0, 1) := by decide +kernel
theorem dX3_allowsFresh_59 : decode cX3_allowsFresh 59 = .ok (.getfield 36, 3) := by decide +kernel
theorem dX3_allowsFresh_62 : decode cX3_allowsFresh 62 = .ok (.invokestatic 61, 3) := by decide +kernel
theorem dX3_allowsFresh_65 : decode cX3_allowsFresh 65 = .ok (.bipush 6, 2) := by decide +kernel
theorem dX3_allowsFresh_67 : decode cX3_allowsFresh 67 = .ok (.if_icmp .ne 7, 3) := by decide +kernel
theorem dX3_allowsFresh_70 : decode cX3_allowsFresh 70 = .ok (.iconst 1, 1) := by decide +kernel
theorem dX3_allowsFresh_71 : decode cX3_allowsFresh 71 = .ok (.goto 4, 3) := by decide +kernel
theorem dX3_allowsFresh_74 : decode cX3_allowsFresh 74 = .ok (.iconst 0, 1) := by decide +kernel
theorem dX3_allowsFresh_75 : decode cX3_allowsFresh 75 = .ok (.ireturn, 1) := by decide +kernel
theorem dX3_allowsFresh_76 : decode cX3_allowsFresh 76 = .ok (.iload_n 2, 1) := by decide +kernel
theorem dX3_allowsFresh_77 : decode cX3_allowsFresh 77 = .ok (.aload_n 0, 1) := by decide +kernel
theorem dX3_allowsFresh_78 : decode cX3_allowsFresh 78 = .ok (.getfield 36, 3) := by decide +kernel
theorem dX3_allowsFresh_81 : decode cX3_allowsFresh 81 = .ok (.if_icmp .eq 15, 3) := by decide +kernel
theorem dX3_allowsFresh_84 : decode cX3_allowsFresh 84 = .ok (.aload_n 0, 1) := by decide +kernel
theorem dX3_allowsFresh_85 : decode cX3_allowsFresh 85 = .ok (.iload_n 2, 1) := by decide +kernel
theorem dX3_allowsFresh_86 : decode cX3_allowsFresh 86 = .ok (.invokevirtual 40, 3) := by decide +kernel
theorem dX3_allowsFresh_89 : decode cX3_allowsFresh 89 = .ok (.ifCond .ne 7, 3) := by decide +kernel
theorem dX3_allowsFresh_92 : decode cX3_allowsFresh 92 = .ok (.iconst 1, 1) := by decide +kernel
theorem dX3_allowsFresh_93 : decode cX3_allowsFresh 93 = .ok (.goto 4, 3) := by decide +kernel
theorem dX3_allowsFresh_96 : decode cX3_allowsFresh 96 = .ok (.iconst 0, 1) := by decide +kernel
theorem dX3_allowsFresh_97 : decode cX3_allowsFresh 97 = .ok (.ireturn, 1) := by decide +kernel
theorem dX3_allowsFresh_98 : decode cX3_allowsFresh 98 = .ok (.iconst 1, 1) := by decide +kernel
theorem dX3_allowsFresh_99 : decode cX3_allowsFresh 99 = .ok (.ireturn, 1) := by decide +kernel
theorem dX3_isWrong_0 : decode cX3_isWrong 0 = .ok (.iload_n 1, 1) := by decide +kernel
theorem dX3_isWrong_1 : decode cX3_isWrong 1 = .ok (.ifCond .ne 19, 3) := by decide +kernel
theorem dX3_isWrong_4 : decode cX3_isWrong 4 = .ok (.iload_n 2, 1) := by decide +kernel
theorem dX3_isWrong_5 : decode cX3_isWrong 5 = .ok (.iconst 2, 1) := by decide +kernel
theorem dX3_isWrong_6 : decode cX3_isWrong 6 = .ok (.irem, 1) := by decide +kernel
theorem dX3_isWrong_7 : decode cX3_isWrong 7 = .ok (.aload_n 0, 1) := by decide +kernel
theorem dX3_isWrong_8 : decode cX3_isWrong 8 = .ok (.getfield 58, 3) := by decide +kernel
theorem dX3_isWrong_11 : decode cX3_isWrong 11 = .ok (.if_icmp .eq 7, 3) := by decide +kernel
theorem dX3_isWrong_14 : decode cX3_isWrong 14 = .ok (.iconst 1, 1) := by decide +kernel
theorem dX3_isWrong_15 : decode cX3_isWrong 15 = .ok (.goto 4, 3) := by decide +kernel
theorem dX3_isWrong_18 : decode cX3_isWrong 18 = .ok (.iconst 0, 1) := by decide +kernel
theorem dX3_isWrong_19 : decode cX3_isWrong 19 = .ok (.ireturn, 1) := by decide +kernel
theorem dX3_isWrong_20 : decode cX3_isWrong 20 = .ok (.iload_n 1, 1) := by decide +kernel
theorem dX3_isWrong_21 : decode cX3_isWrong 21 = .ok (.iconst 3, 1) := by decide +kernel
theorem dX3_isWrong_22 : decode cX3_isWrong 22 = .ok (.if_icmp .ne 18, 3) := by decide +kernel
theorem dX3_isWrong_25 : decode cX3_isWrong 25 = .ok (.aload_n 0, 1) := by decide +kernel
theorem dX3_isWrong_26 : decode cX3_isWrong 26 = .ok (.getfield 65, 3) := by decide +kernel
theorem dX3_isWrong_29 : decode cX3_isWrong 29 = .ok (.iload_n 2, 1) := by decide +kernel
theorem dX3_isWrong_30 : decode cX3_isWrong 30 = .ok (.ishr, 1) := by decide +kernel
theorem dX3_isWrong_31 : decode cX3_isWrong 31 = .ok (.iconst 1, 1) := by decide +kernel
theorem dX3_isWrong_32 : decode cX3_isWrong 32 = .ok (.iand, 1) := by decide +kernel
theorem dX3_isWrong_33 : decode cX3_isWrong 33 = .ok (.ifCond .ne 7, 3) := by decide +kernel
theorem dX3_isWrong_36 : decode cX3_isWrong 36 = .ok (.iconst 1, 1) := by decide +kernel
theorem dX3_isWrong_37 : decode cX3_isWrong 37 = .ok (.goto 4, 3) := by decide +kernel
theorem dX3_isWrong_40 : decode cX3_isWrong 40 = .ok (.iconst 0, 1) := by decide +kernel
theorem dX3_isWrong_41 : decode cX3_isWrong 41 = .ok (.ireturn, 1) := by decide +kernel
theorem dX3_lead_0 : decode cX3_lead 0 = .ok (.iload_n 1, 1) := by decide +kernel
theorem dX3_lead_1 : decode cX3_lead 1 = .ok (.tableswitch 124 0 5 #[39, 47, 54, 89, 97, 104], 39) := by decide +kernel
theorem dX3_lead_40 : decode cX3_lead 40 = .ok (.aload_n 0, 1) := by decide +kernel
theorem dX3_lead_41 : decode cX3_lead 41 = .ok (.iload_n 2, 1) := by decide +kernel
theorem dX3_lead_42 : decode cX3_lead 42 = .ok (.invokevirtual 68, 3) := by decide +kernel
theorem dX3_lead_45 : decode cX3_lead 45 = .ok (.goto 92, 3) := by decide +kernel
theorem dX3_lead_48 : decode cX3_lead 48 = .ok (.aload_n 0, 1) := by decide +kernel
theorem dX3_lead_49 : decode cX3_lead 49 = .ok (.invokevirtual 71, 3) := by decide +kernel
theorem dX3_lead_52 : decode cX3_lead 52 = .ok (.goto 85, 3) := by decide +kernel
theorem dX3_lead_55 : decode cX3_lead 55 = .ok (.aload_n 0, 1) := by decide +kernel
theorem dX3_lead_56 : decode cX3_lead 56 = .ok (.getfield 9, 3) := by decide +kernel
theorem dX3_lead_59 : decode cX3_lead 59 = .ok (.aload_n 0, 1) := by decide +kernel
theorem dX3_lead_60 : decode cX3_lead 60 = .ok (.getfield 36, 3) := by decide +kernel
theorem dX3_lead_63 : decode cX3_lead 63 = .ok (.aload_n 0, 1) := by decide +kernel
theorem dX3_lead_64 : decode cX3_lead 64 = .ok (.getfield 9, 3) := by decide +kernel
theorem dX3_lead_67 : decode cX3_lead 67 = .ok (.aload_n 0, 1) := by decide +kernel
theorem dX3_lead_68 : decode cX3_lead 68 = .ok (.getfield 36, 3) := by decide +kernel
theorem dX3_lead_71 : decode cX3_lead 71 = .ok (.invokestatic 61, 3) := by decide +kernel
theorem dX3_lead_74 : decode cX3_lead 74 = .ok (.iconst 1, 1) := by decide +kernel
theorem dX3_lead_75 : decode cX3_lead 75 = .ok (.iadd, 1) := by decide +kernel
theorem dX3_lead_76 : decode cX3_lead 76 = .ok (.invokestatic 24, 3) := by decide +kernel
theorem dX3_lead_79 : decode cX3_lead 79 = .ok (.aload_n 0, 1) := by decide +kernel
theorem dX3_lead_80 : decode cX3_lead 80 = .ok (.aload_n 0, 1) := by decide +kernel
theorem dX3_lead_81 : decode cX3_lead 81 = .ok (.getfield 36, 3) := by decide +kernel
theorem dX3_lead_84 : decode cX3_lead 84 = .ok (.invokevirtual 68, 3) := by decide +kernel
theorem dX3_lead_87 : decode cX3_lead 87 = .ok (.goto 50, 3) := by decide +kernel
theorem dX3_lead_90 : decode cX3_lead 90 = .ok (.aload_n 0, 1) := by decide +kernel
theorem dX3_lead_91 : decode cX3_lead 91 = .ok (.iload_n 2, 1) := by decide +kernel
theorem dX3_lead_92 : decode cX3_lead 92 = .ok (.invokevirtual 74, 3) := by decide +kernel
theorem dX3_lead_95 : decode cX3_lead 95 = .ok (.goto 42, 3) := by decide +kernel
theorem dX3_lead_98 : decode cX3_lead 98 = .ok (.aload_n 0, 1) := by decide +kernel
theorem dX3_lead_99 : decode cX3_lead 99 = .ok (.invokevirtual 77, 3) := by decide +kernel
theorem dX3_lead_102 : decode cX3_lead 102 = .ok (.goto 35, 3) := by decide +kernel
theorem dX3_lead_105 : decode cX3_lead 105 = .ok (.aload_n 0, 1) := by decide +kernel
theorem dX3_lead_106 : decode cX3_lead 106 = .ok (.getfield 9, 3) := by decide +kernel
theorem dX3_lead_109 : decode cX3_lead 109 = .ok (.aload_n 0, 1) := by decide +kernel
theorem dX3_lead_110 : decode cX3_lead 110 = .ok (.getfield 36, 3) := by decide +kernel
theorem dX3_lead_113 : decode cX3_lead 113 = .ok (.bipush 7, 2) := by decide +kernel
theorem dX3_lead_115 : decode cX3_lead 115 = .ok (.invokestatic 24, 3) := by decide +kernel
theorem dX3_lead_118 : decode cX3_lead 118 = .ok (.aload_n 0, 1) := by decide +kernel
theorem dX3_lead_119 : decode cX3_lead 119 = .ok (.invokevirtual 71, 3) := by decide +kernel
theorem dX3_lead_122 : decode cX3_lead 122 = .ok (.goto 15, 3) := by decide +kernel
theorem dX3_lead_125 : decode cX3_lead 125 = .ok (.aload_n 0, 1) := by decide +kernel
theorem dX3_lead_126 : decode cX3_lead 126 = .ok (.invokevirtual 80, 3) := by decide +kernel
theorem dX3_lead_129 : decode cX3_lead 129 = .ok (.aload_n 0, 1) := by decide +kernel
theorem dX3_lead_130 : decode cX3_lead 130 = .ok (.aload_n 0, 1) := by decide +kernel
theorem dX3_lead_131 : decode cX3_lead 131 = .ok (.getfield 55, 3) := by decide +kernel
theorem dX3_lead_134 : decode cX3_lead 134 = .ok (.invokevirtual 68, 3) := by decide +kernel
theorem dX3_lead_137 : decode cX3_lead 137 = .ok (.return_, 1) := by decide +kernel
theorem dX3_bringIn_0 : decode cX3_bringIn 0 = .ok (.aload_n 0, 1) := by decide +kernel
theorem dX3_bringIn_1 : decode cX3_bringIn 1 = .ok (.iload_n 1, 1) := by decide +kernel
theorem dX3_bringIn_2 : decode cX3_bringIn 2 = .ok (.putfield 36, 3) := by decide +kernel
theorem dX3_bringIn_5 : decode cX3_bringIn 5 = .ok (.aload_n 0, 1) := by decide +kernel
theorem dX3_bringIn_6 : decode cX3_bringIn 6 = .ok (.iconst 1, 1) := by decide +kernel
theorem dX3_bringIn_7 : decode cX3_bringIn 7 = .ok (.putfield 83, 3) := by decide +kernel
theorem dX3_bringIn_10 : decode cX3_bringIn 10 = .ok (.aload_n 0, 1) := by decide +kernel
theorem dX3_bringIn_11 : decode cX3_bringIn 11 = .ok (.iconst 0, 1) := by decide +kernel
theorem dX3_bringIn_12 : decode cX3_bringIn 12 = .ok (.putfield 65, 3) := by decide +kernel
theorem dX3_bringIn_15 : decode cX3_bringIn 15 = .ok (.iconst 0, 1) := by decide +kernel
theorem dX3_bringIn_16 : decode cX3_bringIn 16 = .ok (.istore_n 2, 1) := by decide +kernel
theorem dX3_bringIn_17 : decode cX3_bringIn 17 = .ok (.iload_n 2, 1) := by decide +kernel
theorem dX3_bringIn_18 : decode cX3_bringIn 18 = .ok (.iconst 4, 1) := by decide +kernel
theorem dX3_bringIn_19 : decode cX3_bringIn 19 = .ok (.if_icmp .ge 39, 3) := by decide +kernel
theorem dX3_bringIn_22 : decode cX3_bringIn 22 = .ok (.iload_n 2, 1) := by decide +kernel
theorem dX3_bringIn_23 : decode cX3_bringIn 23 = .ok (.iload_n 1, 1) := by decide +kernel
theorem dX3_bringIn_24 : decode cX3_bringIn 24 = .ok (.if_icmp .eq 28, 3) := by decide +kernel
theorem dX3_bringIn_27 : decode cX3_bringIn 27 = .ok (.aload_n 0, 1) := by decide +kernel
theorem dX3_bringIn_28 : decode cX3_bringIn 28 = .ok (.getfield 9, 3) := by decide +kernel
theorem dX3_bringIn_31 : decode cX3_bringIn 31 = .ok (.iload_n 2, 1) := by decide +kernel
theorem dX3_bringIn_32 : decode cX3_bringIn 32 = .ok (.invokestatic 61, 3) := by decide +kernel
theorem dX3_bringIn_35 : decode cX3_bringIn 35 = .ok (.bipush 7, 2) := by decide +kernel
theorem dX3_bringIn_37 : decode cX3_bringIn 37 = .ok (.if_icmp .eq 15, 3) := by decide +kernel
theorem dX3_bringIn_40 : decode cX3_bringIn 40 = .ok (.aload_n 0, 1) := by decide +kernel
theorem dX3_bringIn_41 : decode cX3_bringIn 41 = .ok (.dup, 1) := by decide +kernel
theorem dX3_bringIn_42 : decode cX3_bringIn 42 = .ok (.getfield 65, 3) := by decide +kernel
theorem dX3_bringIn_45 : decode cX3_bringIn 45 = .ok (.iconst 1, 1) := by decide +kernel
theorem dX3_bringIn_46 : decode cX3_bringIn 46 = .ok (.iload_n 2, 1) := by decide +kernel
theorem dX3_bringIn_47 : decode cX3_bringIn 47 = .ok (.ishl, 1) := by decide +kernel
theorem dX3_bringIn_48 : decode cX3_bringIn 48 = .ok (.ior, 1) := by decide +kernel
theorem dX3_bringIn_49 : decode cX3_bringIn 49 = .ok (.putfield 65, 3) := by decide +kernel
theorem dX3_bringIn_52 : decode cX3_bringIn 52 = .ok (.iinc 2 1, 3) := by decide +kernel
theorem dX3_bringIn_55 : decode cX3_bringIn 55 = .ok (.goto (-38), 3) := by decide +kernel
theorem dX3_bringIn_58 : decode cX3_bringIn 58 = .ok (.return_, 1) := by decide +kernel
theorem dX3_roquet_0 : decode cX3_roquet 0 = .ok (.aload_n 0, 1) := by decide +kernel
theorem dX3_roquet_1 : decode cX3_roquet 1 = .ok (.dup, 1) := by decide +kernel
theorem dX3_roquet_2 : decode cX3_roquet 2 = .ok (.getfield 83, 3) := by decide +kernel
theorem dX3_roquet_5 : decode cX3_roquet 5 = .ok (.iconst 1, 1) := by decide +kernel
theorem dX3_roquet_6 : decode cX3_roquet 6 = .ok (.isub, 1) := by decide +kernel
theorem dX3_roquet_7 : decode cX3_roquet 7 = .ok (.putfield 83, 3) := by decide +kernel
theorem dX3_roquet_10 : decode cX3_roquet 10 = .ok (.aload_n 0, 1) := by decide +kernel
theorem dX3_roquet_11 : decode cX3_roquet 11 = .ok (.dup, 1) := by decide +kernel
theorem dX3_roquet_12 : decode cX3_roquet 12 = .ok (.getfield 65, 3) := by decide +kernel
theorem dX3_roquet_15 : decode cX3_roquet 15 = .ok (.iconst 1, 1) := by decide +kernel
theorem dX3_roquet_16 : decode cX3_roquet 16 = .ok (.iload_n 1, 1) := by decide +kernel
theorem dX3_roquet_17 : decode cX3_roquet 17 = .ok (.ishl, 1) := by decide +kernel
theorem dX3_roquet_18 : decode cX3_roquet 18 = .ok (.iconst (-1), 1) := by decide +kernel
theorem dX3_roquet_19 : decode cX3_roquet 19 = .ok (.ixor, 1) := by decide +kernel
theorem dX3_roquet_20 : decode cX3_roquet 20 = .ok (.iand, 1) := by decide +kernel
theorem dX3_roquet_21 : decode cX3_roquet 21 = .ok (.putfield 65, 3) := by decide +kernel
theorem dX3_roquet_24 : decode cX3_roquet 24 = .ok (.aload_n 0, 1) := by decide +kernel
theorem dX3_roquet_25 : decode cX3_roquet 25 = .ok (.iload_n 1, 1) := by decide +kernel
theorem dX3_roquet_26 : decode cX3_roquet 26 = .ok (.putfield 48, 3) := by decide +kernel
theorem dX3_roquet_29 : decode cX3_roquet 29 = .ok (.return_, 1) := by decide +kernel
theorem dX3_croquet_0 : decode cX3_croquet 0 = .ok (.aload_n 0, 1) := by decide +kernel
theorem dX3_croquet_1 : decode cX3_croquet 1 = .ok (.iconst 1, 1) := by decide +kernel
theorem dX3_croquet_2 : decode cX3_croquet 2 = .ok (.putfield 83, 3) := by decide +kernel
theorem dX3_croquet_5 : decode cX3_croquet 5 = .ok (.aload_n 0, 1) := by decide +kernel
theorem dX3_croquet_6 : decode cX3_croquet 6 = .ok (.bipush (-4), 2) := by decide +kernel
theorem dX3_croquet_8 : decode cX3_croquet 8 = .ok (.putfield 48, 3) := by decide +kernel
theorem dX3_croquet_11 : decode cX3_croquet 11 = .ok (.return_, 1) := by decide +kernel
theorem dX3_spendFree_0 : decode cX3_spendFree 0 = .ok (.aload_n 0, 1) := by decide +kernel
theorem dX3_spendFree_1 : decode cX3_spendFree 1 = .ok (.iconst 1, 1) := by decide +kernel
theorem dX3_spendFree_2 : decode cX3_spendFree 2 = .ok (.aload_n 0, 1) := by decide +kernel
theorem dX3_spendFree_3 : decode cX3_spendFree 3 = .ok (.getfield 58, 3) := by decide +kernel
theorem dX3_spendFree_6 : decode cX3_spendFree 6 = .ok (.isub, 1) := by decide +kernel
theorem dX3_spendFree_7 : decode cX3_spendFree 7 = .ok (.putfield 58, 3) := by decide +kernel
theorem dX3_spendFree_10 : decode cX3_spendFree 10 = .ok (.aload_n 0, 1) := by decide +kernel
theorem dX3_spendFree_11 : decode cX3_spendFree 11 = .ok (.getfield 15, 3) := by decide +kernel
theorem dX3_spendFree_14 : decode cX3_spendFree 14 = .ok (.aload_n 0, 1) := by decide +kernel
theorem dX3_spendFree_15 : decode cX3_spendFree 15 = .ok (.getfield 58, 3) := by decide +kernel
theorem dX3_spendFree_18 : decode cX3_spendFree 18 = .ok (.aload_n 0, 1) := by decide +kernel
theorem dX3_spendFree_19 : decode cX3_spendFree 19 = .ok (.getfield 15, 3) := by decide +kernel
theorem dX3_spendFree_22 : decode cX3_spendFree 22 = .ok (.aload_n 0, 1) := by decide +kernel
theorem dX3_spendFree_23 : decode cX3_spendFree 23 = .ok (.getfield 58, 3) := by decide +kernel
theorem dX3_spendFree_26 : decode cX3_spendFree 26 = .ok (.invokestatic 61, 3) := by decide +kernel
theorem dX3_spendFree_29 : decode cX3_spendFree 29 = .ok (.iconst 1, 1) := by decide +kernel
theorem dX3_spendFree_30 : decode cX3_spendFree 30 = .ok (.isub, 1) := by decide +kernel
theorem dX3_spendFree_31 : decode cX3_spendFree 31 = .ok (.invokestatic 24, 3) := by decide +kernel
theorem dX3_spendFree_34 : decode cX3_spendFree 34 = .ok (.return_, 1) := by decide +kernel
theorem dX3_endTurn_0 : decode cX3_endTurn 0 = .ok (.aload_n 0, 1) := by decide +kernel
theorem dX3_endTurn_1 : decode cX3_endTurn 1 = .ok (.getfield 36, 3) := by decide +kernel
theorem dX3_endTurn_4 : decode cX3_endTurn 4 = .ok (.bipush (-4), 2) := by decide +kernel
theorem dX3_endTurn_6 : decode cX3_endTurn 6 = .ok (.if_icmp .eq 23, 3) := by decide +kernel
theorem dX3_endTurn_9 : decode cX3_endTurn 9 = .ok (.aload_n 0, 1) := by decide +kernel
theorem dX3_endTurn_10 : decode cX3_endTurn 10 = .ok (.getfield 36, 3) := by decide +kernel
theorem dX3_endTurn_13 : decode cX3_endTurn 13 = .ok (.istore_n 1, 1) := by decide +kernel
theorem dX3_endTurn_14 : decode cX3_endTurn 14 = .ok (.aload_n 0, 1) := by decide +kernel
theorem dX3_endTurn_15 : decode cX3_endTurn 15 = .ok (.iconst 1, 1) := by decide +kernel
theorem dX3_endTurn_16 : decode cX3_endTurn 16 = .ok (.aload_n 0, 1) := by decide +kernel
theorem dX3_endTurn_17 : decode cX3_endTurn 17 = .ok (.getfield 58, 3) := by decide +kernel
theorem dX3_endTurn_20 : decode cX3_endTurn 20 = .ok (.isub, 1) := by decide +kernel
theorem dX3_endTurn_21 : decode cX3_endTurn 21 = .ok (.invokevirtual 28, 3) := by decide +kernel
theorem dX3_endTurn_24 : decode cX3_endTurn 24 = .ok (.aload_n 0, 1) := by decide +kernel
theorem dX3_endTurn_25 : decode cX3_endTurn 25 = .ok (.iload_n 1, 1) := by decide +kernel
theorem dX3_endTurn_26 : decode cX3_endTurn 26 = .ok (.putfield 55, 3) := by decide +kernel
theorem dX3_endTurn_29 : decode cX3_endTurn 29 = .ok (.return_, 1) := by decide +kernel
theorem dX3_stopFor_0 : decode cX3_stopFor 0 = .ok (.aload_n 0, 1) := by decide +kernel
theorem dX3_stopFor_1 : decode cX3_stopFor 1 = .ok (.iload_n 1, 1) := by decide +kernel
theorem dX3_stopFor_2 : decode cX3_stopFor 2 = .ok (.putfield 58, 3) := by decide +kernel
theorem dX3_stopFor_5 : decode cX3_stopFor 5 = .ok (.aload_n 0, 1) := by decide +kernel
theorem dX3_stopFor_6 : decode cX3_stopFor 6 = .ok (.bipush (-4), 2) := by decide +kernel
theorem dX3_stopFor_8 : decode cX3_stopFor 8 = .ok (.putfield 36, 3) := by decide +kernel
theorem dX3_stopFor_11 : decode cX3_stopFor 11 = .ok (.aload_n 0, 1) := by decide +kernel
theorem dX3_stopFor_12 : decode cX3_stopFor 12 = .ok (.iconst 0, 1) := by decide +kernel
theorem dX3_stopFor_13 : decode cX3_stopFor 13 = .ok (.putfield 83, 3) := by decide +kernel
theorem dX3_stopFor_16 : decode cX3_stopFor 16 = .ok (.aload_n 0, 1) := by decide +kernel
theorem dX3_stopFor_17 : decode cX3_stopFor 17 = .ok (.iconst 0, 1) := by decide +kernel
theorem dX3_stopFor_18 : decode cX3_stopFor 18 = .ok (.putfield 65, 3) := by decide +kernel
theorem dX3_stopFor_21 : decode cX3_stopFor 21 = .ok (.aload_n 0, 1) := by decide +kernel
theorem dX3_stopFor_22 : decode cX3_stopFor 22 = .ok (.bipush (-4), 2) := by decide +kernel
theorem dX3_stopFor_24 : decode cX3_stopFor 24 = .ok (.putfield 48, 3) := by decide +kernel
theorem dX3_stopFor_27 : decode cX3_stopFor 27 = .ok (.aload_n 0, 1) := by decide +kernel
theorem dX3_stopFor_28 : decode cX3_stopFor 28 = .ok (.bipush (-4), 2) := by decide +kernel
theorem dX3_stopFor_30 : decode cX3_stopFor 30 = .ok (.putfield 55, 3) := by decide +kernel
theorem dX3_stopFor_33 : decode cX3_stopFor 33 = .ok (.return_, 1) := by decide +kernel
theorem dX3_isOut_0 : decode cX3_isOut 0 = .ok (.aload_n 0, 1) := by decide +kernel
theorem dX3_isOut_1 : decode cX3_isOut 1 = .ok (.getfield 9, 3) := by decide +kernel
theorem dX3_isOut_4 : decode cX3_isOut 4 = .ok (.iload_n 1, 1) := by decide +kernel
theorem dX3_isOut_5 : decode cX3_isOut 5 = .ok (.invokestatic 61, 3) := by decide +kernel
theorem dX3_isOut_8 : decode cX3_isOut 8 = .ok (.bipush 7, 2) := by decide +kernel
theorem dX3_isOut_10 : decode cX3_isOut 10 = .ok (.if_icmp .ne 7, 3) := by decide +kernel
theorem dX3_isOut_13 : decode cX3_isOut 13 = .ok (.iconst 1, 1) := by decide +kernel
theorem dX3_isOut_14 : decode cX3_isOut 14 = .ok (.goto 4, 3) := by decide +kernel
theorem dX3_isOut_17 : decode cX3_isOut 17 = .ok (.iconst 0, 1) := by decide +kernel
theorem dX3_isOut_18 : decode cX3_isOut 18 = .ok (.ireturn, 1) := by decide +kernel
theorem dX3_winner_0 : decode cX3_winner 0 = .ok (.aload_n 0, 1) := by decide +kernel
theorem dX3_winner_1 : decode cX3_winner 1 = .ok (.iconst 0, 1) := by decide +kernel
theorem dX3_winner_2 : decode cX3_winner 2 = .ok (.invokevirtual 40, 3) := by decide +kernel
theorem dX3_winner_5 : decode cX3_winner 5 = .ok (.ifCond .eq 13, 3) := by decide +kernel
theorem dX3_winner_8 : decode cX3_winner 8 = .ok (.aload_n 0, 1) := by decide +kernel
theorem dX3_winner_9 : decode cX3_winner 9 = .ok (.iconst 2, 1) := by decide +kernel
theorem dX3_winner_10 : decode cX3_winner 10 = .ok (.invokevirtual 40, 3) := by decide +kernel
theorem dX3_winner_13 : decode cX3_winner 13 = .ok (.ifCond .eq 5, 3) := by decide +kernel
theorem dX3_winner_16 : decode cX3_winner 16 = .ok (.iconst 0, 1) := by decide +kernel
theorem dX3_winner_17 : decode cX3_winner 17 = .ok (.ireturn, 1) := by decide +kernel
theorem dX3_winner_18 : decode cX3_winner 18 = .ok (.aload_n 0, 1) := by decide +kernel
theorem dX3_winner_19 : decode cX3_winner 19 = .ok (.iconst 1, 1) := by decide +kernel
theorem dX3_winner_20 : decode cX3_winner 20 = .ok (.invokevirtual 40, 3) := by decide +kernel
theorem dX3_winner_23 : decode cX3_winner 23 = .ok (.ifCond .eq 15, 3) := by decide +kernel
theorem dX3_winner_26 : decode cX3_winner 26 = .ok (.aload_n 0, 1) := by decide +kernel
theorem dX3_winner_27 : decode cX3_winner 27 = .ok (.iconst 3, 1) := by decide +kernel
theorem dX3_winner_28 : decode cX3_winner 28 = .ok (.invokevirtual 40, 3) := by decide +kernel
theorem dX3_winner_31 : decode cX3_winner 31 = .ok (.ifCond .eq 7, 3) := by decide +kernel
theorem dX3_winner_34 : decode cX3_winner 34 = .ok (.iconst 1, 1) := by decide +kernel
theorem dX3_winner_35 : decode cX3_winner 35 = .ok (.goto 5, 3) := by decide +kernel
theorem dX3_winner_38 : decode cX3_winner 38 = .ok (.bipush (-4), 2) := by decide +kernel
theorem dX3_winner_40 : decode cX3_winner 40 = .ok (.ireturn, 1) := by decide +kernel
theorem dX3_side_0 : decode cX3_side 0 = .ok (.aload_n 0, 1) := by decide +kernel
theorem dX3_side_1 : decode cX3_side 1 = .ok (.getfield 58, 3) := by decide +kernel
theorem dX3_side_4 : decode cX3_side 4 = .ok (.ireturn, 1) := by decide +kernel
theorem dX3_inPlay_0 : decode cX3_inPlay 0 = .ok (.aload_n 0, 1) := by decide +kernel
theorem dX3_inPlay_1 : decode cX3_inPlay 1 = .ok (.getfield 36, 3) := by decide +kernel
theorem dX3_inPlay_4 : decode cX3_inPlay 4 = .ok (.ireturn, 1) := by decide +kernel
theorem dX3_tell_0 : decode cX3_tell 0 = .ok (.iload_n 1, 1) := by decide +kernel
theorem dX3_tell_1 : decode cX3_tell 1 = .ok (.tableswitch 111 0 11 #[63, 68, 73, 78, 83, 111, 111, 111, 111, 88, 97, 106], 63) := by decide +kernel
theorem dX3_tell_64 : decode cX3_tell 64 = .ok (.aload_n 0, 1) := by decide +kernel
theorem dX3_tell_65 : decode cX3_tell 65 = .ok (.getfield 58, 3) := by decide +kernel
theorem dX3_tell_68 : decode cX3_tell 68 = .ok (.ireturn, 1) := by decide +kernel
theorem dX3_tell_69 : decode cX3_tell 69 = .ok (.aload_n 0, 1) := by decide +kernel
theorem dX3_tell_70 : decode cX3_tell 70 = .ok (.getfield 36, 3) := by decide +kernel
theorem dX3_tell_73 : decode cX3_tell 73 = .ok (.ireturn, 1) := by decide +kernel
theorem dX3_tell_74 : decode cX3_tell 74 = .ok (.aload_n 0, 1) := by decide +kernel
theorem dX3_tell_75 : decode cX3_tell 75 = .ok (.getfield 83, 3) := by decide +kernel
theorem dX3_tell_78 : decode cX3_tell 78 = .ok (.ireturn, 1) := by decide +kernel
theorem dX3_tell_79 : decode cX3_tell 79 = .ok (.aload_n 0, 1) := by decide +kernel
theorem dX3_tell_80 : decode cX3_tell 80 = .ok (.getfield 65, 3) := by decide +kernel
theorem dX3_tell_83 : decode cX3_tell 83 = .ok (.ireturn, 1) := by decide +kernel
theorem dX3_tell_84 : decode cX3_tell 84 = .ok (.aload_n 0, 1) := by decide +kernel
theorem dX3_tell_85 : decode cX3_tell 85 = .ok (.getfield 48, 3) := by decide +kernel
theorem dX3_tell_88 : decode cX3_tell 88 = .ok (.ireturn, 1) := by decide +kernel
theorem dX3_tell_89 : decode cX3_tell 89 = .ok (.aload_n 0, 1) := by decide +kernel
theorem dX3_tell_90 : decode cX3_tell 90 = .ok (.getfield 15, 3) := by decide +kernel
theorem dX3_tell_93 : decode cX3_tell 93 = .ok (.iconst 0, 1) := by decide +kernel
theorem dX3_tell_94 : decode cX3_tell 94 = .ok (.invokestatic 61, 3) := by decide +kernel
theorem dX3_tell_97 : decode cX3_tell 97 = .ok (.ireturn, 1) := by decide +kernel
theorem dX3_tell_98 : decode cX3_tell 98 = .ok (.aload_n 0, 1) := by decide +kernel
theorem dX3_tell_99 : decode cX3_tell 99 = .ok (.getfield 15, 3) := by decide +kernel
theorem dX3_tell_102 : decode cX3_tell 102 = .ok (.iconst 1, 1) := by decide +kernel
theorem dX3_tell_103 : decode cX3_tell 103 = .ok (.invokestatic 61, 3) := by decide +kernel
theorem dX3_tell_106 : decode cX3_tell 106 = .ok (.ireturn, 1) := by decide +kernel
theorem dX3_tell_107 : decode cX3_tell 107 = .ok (.aload_n 0, 1) := by decide +kernel
theorem dX3_tell_108 : decode cX3_tell 108 = .ok (.invokevirtual 32, 3) := by decide +kernel
theorem dX3_tell_111 : decode cX3_tell 111 = .ok (.ireturn, 1) := by decide +kernel
theorem dX3_tell_112 : decode cX3_tell 112 = .ok (.aload_n 0, 1) := by decide +kernel
theorem dX3_tell_113 : decode cX3_tell 113 = .ok (.getfield 9, 3) := by decide +kernel
theorem dX3_tell_116 : decode cX3_tell 116 = .ok (.iload_n 1, 1) := by decide +kernel
theorem dX3_tell_117 : decode cX3_tell 117 = .ok (.iconst 5, 1) := by decide +kernel
theorem dX3_tell_118 : decode cX3_tell 118 = .ok (.isub, 1) := by decide +kernel
theorem dX3_tell_119 : decode cX3_tell 119 = .ok (.invokestatic 61, 3) := by decide +kernel
theorem dX3_tell_122 : decode cX3_tell 122 = .ok (.ireturn, 1) := by decide +kernel
theorem dX4_init_0 : decode cX4_init 0 = .ok (.aload_n 0, 1) := by decide +kernel
theorem dX4_init_1 : decode cX4_init 1 = .ok (.invokespecial 3, 3) := by decide +kernel
theorem dX4_init_4 : decode cX4_init 4 = .ok (.aload_n 0, 1) := by decide +kernel
theorem dX4_init_5 : decode cX4_init 5 = .ok (.bipush 8, 2) := by decide +kernel
theorem dX4_init_7 : decode cX4_init 7 = .ok (.newarray .int, 2) := by decide +kernel
theorem dX4_init_9 : decode cX4_init 9 = .ok (.putfield 9, 3) := by decide +kernel
theorem dX4_init_12 : decode cX4_init 12 = .ok (.aload_n 0, 1) := by decide +kernel
theorem dX4_init_13 : decode cX4_init 13 = .ok (.getfield 9, 3) := by decide +kernel
theorem dX4_init_16 : decode cX4_init 16 = .ok (.sipush 1000, 3) := by decide +kernel
theorem dX4_init_19 : decode cX4_init 19 = .ok (.invokestatic 15, 3) := by decide +kernel
theorem dX4_init_22 : decode cX4_init 22 = .ok (.return_, 1) := by decide +kernel
theorem dX4_put_0 : decode cX4_put 0 = .ok (.aload_n 0, 1) := by decide +kernel
theorem dX4_put_1 : decode cX4_put 1 = .ok (.getfield 9, 3) := by decide +kernel
theorem dX4_put_4 : decode cX4_put 4 = .ok (.iload_n 1, 1) := by decide +kernel
theorem dX4_put_5 : decode cX4_put 5 = .ok (.invokestatic 21, 3) := by decide +kernel
theorem dX4_put_8 : decode cX4_put 8 = .ok (.istore_n 3, 1) := by decide +kernel
theorem dX4_put_9 : decode cX4_put 9 = .ok (.aload_n 0, 1) := by decide +kernel
theorem dX4_put_10 : decode cX4_put 10 = .ok (.getfield 9, 3) := by decide +kernel
theorem dX4_put_13 : decode cX4_put 13 = .ok (.iload_n 1, 1) := by decide +kernel
theorem dX4_put_14 : decode cX4_put 14 = .ok (.iload_n 2, 1) := by decide +kernel
theorem dX4_put_15 : decode cX4_put 15 = .ok (.invokestatic 25, 3) := by decide +kernel
theorem dX4_put_18 : decode cX4_put 18 = .ok (.iload_n 3, 1) := by decide +kernel
theorem dX4_put_19 : decode cX4_put 19 = .ok (.ireturn, 1) := by decide +kernel
theorem dX4_handicapOf_0 : decode cX4_handicapOf 0 = .ok (.bipush 20, 2) := by decide +kernel
theorem dX4_handicapOf_2 : decode cX4_handicapOf 2 = .ok (.aload_n 0, 1) := by decide +kernel
theorem dX4_handicapOf_3 : decode cX4_handicapOf 3 = .ok (.getfield 9, 3) := by decide +kernel
theorem dX4_handicapOf_6 : decode cX4_handicapOf 6 = .ok (.iload_n 1, 1) := by decide +kernel
theorem dX4_handicapOf_7 : decode cX4_handicapOf 7 = .ok (.invokestatic 21, 3) := by decide +kernel
theorem dX4_handicapOf_10 : decode cX4_handicapOf 10 = .ok (.bipush 100, 2) := by decide +kernel
theorem dX4_handicapOf_12 : decode cX4_handicapOf 12 = .ok (.idiv, 1) := by decide +kernel
theorem dX4_handicapOf_13 : decode cX4_handicapOf 13 = .ok (.isub, 1) := by decide +kernel
theorem dX4_handicapOf_14 : decode cX4_handicapOf 14 = .ok (.ireturn, 1) := by decide +kernel
theorem dX4_freeTurnsOfOther_0 : decode cX4_freeTurnsOfOther 0 = .ok (.aload_n 0, 1) := by decide +kernel
theorem dX4_freeTurnsOfOther_1 : decode cX4_freeTurnsOfOther 1 = .ok (.iload_n 2, 1) := by decide +kernel
theorem dX4_freeTurnsOfOther_2 : decode cX4_freeTurnsOfOther 2 = .ok (.invokevirtual 29, 3) := by decide +kernel
theorem dX4_freeTurnsOfOther_5 : decode cX4_freeTurnsOfOther 5 = .ok (.aload_n 0, 1) := by decide +kernel
theorem dX4_freeTurnsOfOther_6 : decode cX4_freeTurnsOfOther 6 = .ok (.iload_n 1, 1) := by decide +kernel
theorem dX4_freeTurnsOfOther_7 : decode cX4_freeTurnsOfOther 7 = .ok (.invokevirtual 29, 3) := by decide +kernel
theorem dX4_freeTurnsOfOther_10 : decode cX4_freeTurnsOfOther 10 = .ok (.isub, 1) := by decide +kernel
theorem dX4_freeTurnsOfOther_11 : decode cX4_freeTurnsOfOther 11 = .ok (.istore_n 3, 1) := by decide +kernel
theorem dX4_freeTurnsOfOther_12 : decode cX4_freeTurnsOfOther 12 = .ok (.iload_n 3, 1) := by decide +kernel
theorem dX4_freeTurnsOfOther_13 : decode cX4_freeTurnsOfOther 13 = .ok (.invokestatic 33, 3) := by decide +kernel
theorem dX4_freeTurnsOfOther_16 : decode cX4_freeTurnsOfOther 16 = .ok (.iconst 1, 1) := by decide +kernel
theorem dX4_freeTurnsOfOther_17 : decode cX4_freeTurnsOfOther 17 = .ok (.iadd, 1) := by decide +kernel
theorem dX4_freeTurnsOfOther_18 : decode cX4_freeTurnsOfOther 18 = .ok (.iconst 2, 1) := by decide +kernel
theorem dX4_freeTurnsOfOther_19 : decode cX4_freeTurnsOfOther 19 = .ok (.idiv, 1) := by decide +kernel
theorem dX4_freeTurnsOfOther_20 : decode cX4_freeTurnsOfOther 20 = .ok (.istore 4, 2) := by decide +kernel
theorem dX4_freeTurnsOfOther_22 : decode cX4_freeTurnsOfOther 22 = .ok (.iload_n 3, 1) := by decide +kernel
theorem dX4_freeTurnsOfOther_23 : decode cX4_freeTurnsOfOther 23 = .ok (.ifCond .ge 9, 3) := by decide +kernel
theorem dX4_freeTurnsOfOther_26 : decode cX4_freeTurnsOfOther 26 = .ok (.iload 4, 2) := by decide +kernel
theorem dX4_freeTurnsOfOther_28 : decode cX4_freeTurnsOfOther 28 = .ok (.ineg, 1) := by decide +kernel
theorem dX4_freeTurnsOfOther_29 : decode cX4_freeTurnsOfOther 29 = .ok (.goto 5, 3) := by decide +kernel
theorem dX4_freeTurnsOfOther_32 : decode cX4_freeTurnsOfOther 32 = .ok (.iload 4, 2) := by decide +kernel
theorem dX4_freeTurnsOfOther_34 : decode cX4_freeTurnsOfOther 34 = .ok (.ireturn, 1) := by decide +kernel
theorem dX5_init_0 : decode cX5_init 0 = .ok (.aload_n 0, 1) := by decide +kernel
theorem dX5_init_1 : decode cX5_init 1 = .ok (.invokespecial 3, 3) := by decide +kernel
theorem dX5_init_4 : decode cX5_init 4 = .ok (.aload_n 0, 1) := by decide +kernel
theorem dX5_init_5 : decode cX5_init 5 = .ok (.new 9, 3) := by decide +kernel
theorem dX5_init_8 : decode cX5_init 8 = .ok (.dup, 1) := by decide +kernel
theorem dX5_init_9 : decode cX5_init 9 = .ok (.invokespecial 11, 3) := by decide +kernel
theorem dX5_init_12 : decode cX5_init 12 = .ok (.putfield 12, 3) := by decide +kernel
theorem dX5_init_15 : decode cX5_init 15 = .ok (.aload_n 0, 1) := by decide +kernel
theorem dX5_init_16 : decode cX5_init 16 = .ok (.new 16, 3) := by decide +kernel
theorem dX5_init_19 : decode cX5_init 19 = .ok (.dup, 1) := by decide +kernel
theorem dX5_init_20 : decode cX5_init 20 = .ok (.invokespecial 18, 3) := by decide +kernel
theorem dX5_init_23 : decode cX5_init 23 = .ok (.putfield 19, 3) := by decide +kernel
theorem dX5_init_26 : decode cX5_init 26 = .ok (.aload_n 0, 1) := by decide +kernel
theorem dX5_init_27 : decode cX5_init 27 = .ok (.new 23, 3) := by decide +kernel
theorem dX5_init_30 : decode cX5_init 30 = .ok (.dup, 1) := by decide +kernel
theorem dX5_init_31 : decode cX5_init 31 = .ok (.invokespecial 25, 3) := by decide +kernel
theorem dX5_init_34 : decode cX5_init 34 = .ok (.putfield 26, 3) := by decide +kernel
theorem dX5_init_37 : decode cX5_init 37 = .ok (.aload_n 0, 1) := by decide +kernel
theorem dX5_init_38 : decode cX5_init 38 = .ok (.new 30, 3) := by decide +kernel
theorem dX5_init_41 : decode cX5_init 41 = .ok (.dup, 1) := by decide +kernel
theorem dX5_init_42 : decode cX5_init 42 = .ok (.invokespecial 32, 3) := by decide +kernel
theorem dX5_init_45 : decode cX5_init 45 = .ok (.putfield 33, 3) := by decide +kernel
theorem dX5_init_48 : decode cX5_init 48 = .ok (.return_, 1) := by decide +kernel
theorem dX5_game_0 : decode cX5_game 0 = .ok (.iload_n 1, 1) := by decide +kernel
theorem dX5_game_1 : decode cX5_game 1 = .ok (.invokestatic 37, 3) := by decide +kernel
theorem dX5_game_4 : decode cX5_game 4 = .ok (.ifCond .eq 15, 3) := by decide +kernel
theorem dX5_game_7 : decode cX5_game 7 = .ok (.iload_n 2, 1) := by decide +kernel
theorem dX5_game_8 : decode cX5_game 8 = .ok (.invokestatic 37, 3) := by decide +kernel
theorem dX5_game_11 : decode cX5_game 11 = .ok (.ifCond .eq 8, 3) := by decide +kernel
theorem dX5_game_14 : decode cX5_game 14 = .ok (.iload_n 1, 1) := by decide +kernel
theorem dX5_game_15 : decode cX5_game 15 = .ok (.iload_n 2, 1) := by decide +kernel
theorem dX5_game_16 : decode cX5_game 16 = .ok (.if_icmp .ne 6, 3) := by decide +kernel
theorem dX5_game_19 : decode cX5_game 19 = .ok (.bipush (-101), 2) := by decide +kernel
theorem dX5_game_21 : decode cX5_game 21 = .ok (.ireturn, 1) := by decide +kernel
theorem dX5_game_22 : decode cX5_game 22 = .ok (.aload_n 0, 1) := by decide +kernel
theorem dX5_game_23 : decode cX5_game 23 = .ok (.getfield 26, 3) := by decide +kernel
theorem dX5_game_26 : decode cX5_game 26 = .ok (.iload_n 1, 1) := by decide +kernel
theorem dX5_game_27 : decode cX5_game 27 = .ok (.iload_n 2, 1) := by decide +kernel
theorem dX5_game_28 : decode cX5_game 28 = .ok (.invokevirtual 41, 3) := by decide +kernel
theorem dX5_game_31 : decode cX5_game 31 = .ok (.istore_n 3, 1) := by decide +kernel
theorem dX5_game_32 : decode cX5_game 32 = .ok (.aload_n 0, 1) := by decide +kernel
theorem dX5_game_33 : decode cX5_game 33 = .ok (.getfield 12, 3) := by decide +kernel
theorem dX5_game_36 : decode cX5_game 36 = .ok (.iload_n 1, 1) := by decide +kernel
theorem dX5_game_37 : decode cX5_game 37 = .ok (.iload_n 2, 1) := by decide +kernel
theorem dX5_game_38 : decode cX5_game 38 = .ok (.iconst 0, 1) := by decide +kernel
theorem dX5_game_39 : decode cX5_game 39 = .ok (.iload_n 3, 1) := by decide +kernel
theorem dX5_game_40 : decode cX5_game 40 = .ok (.ineg, 1) := by decide +kernel
theorem dX5_game_41 : decode cX5_game 41 = .ok (.invokestatic 45, 3) := by decide +kernel
theorem dX5_game_44 : decode cX5_game 44 = .ok (.iconst 0, 1) := by decide +kernel
theorem dX5_game_45 : decode cX5_game 45 = .ok (.iload_n 3, 1) := by decide +kernel
theorem dX5_game_46 : decode cX5_game 46 = .ok (.invokestatic 45, 3) := by decide +kernel
theorem dX5_game_49 : decode cX5_game 49 = .ok (.invokevirtual 50, 3) := by decide +kernel
theorem dX5_game_52 : decode cX5_game 52 = .ok (.iload_n 3, 1) := by decide +kernel
theorem dX5_game_53 : decode cX5_game 53 = .ok (.ireturn, 1) := by decide +kernel
theorem dX5_stroke_0 : decode cX5_stroke 0 = .ok (.iload_n 1, 1) := by decide +kernel
theorem dX5_stroke_1 : decode cX5_stroke 1 = .ok (.iconst 0, 1) := by decide +kernel
theorem dX5_stroke_2 : decode cX5_stroke 2 = .ok (.bipush 6, 2) := by decide +kernel
theorem dX5_stroke_4 : decode cX5_stroke 4 = .ok (.invokestatic 54, 3) := by decide +kernel
theorem dX5_stroke_7 : decode cX5_stroke 7 = .ok (.ifCond .ne 5, 3) := by decide +kernel
theorem dX5_stroke_10 : decode cX5_stroke 10 = .ok (.iconst (-1), 1) := by decide +kernel
theorem dX5_stroke_11 : decode cX5_stroke 11 = .ok (.ireturn, 1) := by decide +kernel
theorem dX5_stroke_12 : decode cX5_stroke 12 = .ok (.iload_n 1, 1) := by decide +kernel
theorem dX5_stroke_13 : decode cX5_stroke 13 = .ok (.ifCond .eq 8, 3) := by decide +kernel
theorem dX5_stroke_16 : decode cX5_stroke 16 = .ok (.iload_n 1, 1) := by decide +kernel
theorem dX5_stroke_17 : decode cX5_stroke 17 = .ok (.iconst 3, 1) := by decide +kernel
theorem dX5_stroke_18 : decode cX5_stroke 18 = .ok (.if_icmp .ne 7, 3) := by decide +kernel
theorem dX5_stroke_21 : decode cX5_stroke 21 = .ok (.iconst 1, 1) := by decide +kernel
theorem dX5_stroke_22 : decode cX5_stroke 22 = .ok (.goto 4, 3) := by decide +kernel
theorem dX5_stroke_25 : decode cX5_stroke 25 = .ok (.iconst 0, 1) := by decide +kernel
theorem dX5_stroke_26 : decode cX5_stroke 26 = .ok (.istore_n 3, 1) := by decide +kernel
theorem dX5_stroke_27 : decode cX5_stroke 27 = .ok (.iload_n 3, 1) := by decide +kernel
theorem dX5_stroke_28 : decode cX5_stroke 28 = .ok (.ifCond .eq 14, 3) := by decide +kernel
theorem dX5_stroke_31 : decode cX5_stroke 31 = .ok (.iload_n 2, 1) := by decide +kernel
theorem dX5_stroke_32 : decode cX5_stroke 32 = .ok (.iconst 0, 1) := by decide +kernel
theorem dX5_stroke_33 : decode cX5_stroke 33 = .ok (.iconst 3, 1) := by decide +kernel
theorem dX5_stroke_34 : decode cX5_stroke 34 = .ok (.invokestatic 54, 3) := by decide +kernel
theorem dX5_stroke_37 : decode cX5_stroke 37 = .ok (.ifCond .ne 5, 3) := by decide +kernel
theorem dX5_stroke_40 : decode cX5_stroke 40 = .ok (.iconst (-1), 1) := by decide +kernel
theorem dX5_stroke_41 : decode cX5_stroke 41 = .ok (.ireturn, 1) := by decide +kernel
theorem dX5_stroke_42 : decode cX5_stroke 42 = .ok (.aload_n 0, 1) := by decide +kernel
theorem dX5_stroke_43 : decode cX5_stroke 43 = .ok (.getfield 12, 3) := by decide +kernel
theorem dX5_stroke_46 : decode cX5_stroke 46 = .ok (.iload_n 1, 1) := by decide +kernel
theorem dX5_stroke_47 : decode cX5_stroke 47 = .ok (.iload_n 3, 1) := by decide +kernel
theorem dX5_stroke_48 : decode cX5_stroke 48 = .ok (.ifCond .eq 7, 3) := by decide +kernel
theorem dX5_stroke_51 : decode cX5_stroke 51 = .ok (.iload_n 2, 1) := by decide +kernel
theorem dX5_stroke_52 : decode cX5_stroke 52 = .ok (.goto 4, 3) := by decide +kernel
theorem dX5_stroke_55 : decode cX5_stroke 55 = .ok (.iconst 0, 1) := by decide +kernel
theorem dX5_stroke_56 : decode cX5_stroke 56 = .ok (.invokevirtual 58, 3) := by decide +kernel
theorem dX5_stroke_59 : decode cX5_stroke 59 = .ok (.ireturn, 1) := by decide +kernel
theorem dX5_told_0 : decode cX5_told 0 = .ok (.iload_n 1, 1) := by decide +kernel
theorem dX5_told_1 : decode cX5_told 1 = .ok (.ifCond .lt 12, 3) := by decide +kernel
theorem dX5_told_4 : decode cX5_told 4 = .ok (.iload_n 2, 1) := by decide +kernel
theorem dX5_told_5 : decode cX5_told 5 = .ok (.iconst 0, 1) := by decide +kernel
theorem dX5_told_6 : decode cX5_told 6 = .ok (.iconst 3, 1) := by decide +kernel
theorem dX5_told_7 : decode cX5_told 7 = .ok (.invokestatic 54, 3) := by decide +kernel
theorem dX5_told_10 : decode cX5_told 10 = .ok (.ifCond .ne 7, 3) := by decide +kernel
theorem dX5_told_13 : decode cX5_told 13 = .ok (.iconst (-1), 1) := by decide +kernel
theorem dX5_told_14 : decode cX5_told 14 = .ok (.goto 12, 3) := by decide +kernel
theorem dX5_told_17 : decode cX5_told 17 = .ok (.aload_n 0, 1) := by decide +kernel
theorem dX5_told_18 : decode cX5_told 18 = .ok (.getfield 12, 3) := by decide +kernel
theorem dX5_told_21 : decode cX5_told 21 = .ok (.iload_n 1, 1) := by decide +kernel
theorem dX5_told_22 : decode cX5_told 22 = .ok (.iload_n 2, 1) := by decide +kernel
theorem dX5_told_23 : decode cX5_told 23 = .ok (.invokevirtual 61, 3) := by decide +kernel
theorem dX5_told_26 : decode cX5_told 26 = .ok (.ireturn, 1) := by decide +kernel
theorem dX5_state_0 : decode cX5_state 0 = .ok (.iload_n 2, 1) := by decide +kernel
theorem dX5_state_1 : decode cX5_state 1 = .ok (.iconst 0, 1) := by decide +kernel
theorem dX5_state_2 : decode cX5_state 2 = .ok (.bipush 11, 2) := by decide +kernel
theorem dX5_state_4 : decode cX5_state 4 = .ok (.invokestatic 54, 3) := by decide +kernel
theorem dX5_state_7 : decode cX5_state 7 = .ok (.ifCond .eq 15, 3) := by decide +kernel
theorem dX5_state_10 : decode cX5_state 10 = .ok (.aload_n 0, 1) := by decide +kernel
theorem dX5_state_11 : decode cX5_state 11 = .ok (.getfield 12, 3) := by decide +kernel
theorem dX5_state_14 : decode cX5_state 14 = .ok (.iload_n 1, 1) := by decide +kernel
theorem dX5_state_15 : decode cX5_state 15 = .ok (.iload_n 2, 1) := by decide +kernel
theorem dX5_state_16 : decode cX5_state 16 = .ok (.invokevirtual 68, 3) := by decide +kernel
theorem dX5_state_19 : decode cX5_state 19 = .ok (.goto 4, 3) := by decide +kernel
theorem dX5_state_22 : decode cX5_state 22 = .ok (.iconst (-1), 1) := by decide +kernel
theorem dX5_state_23 : decode cX5_state 23 = .ok (.ireturn, 1) := by decide +kernel
theorem dX5_found_0 : decode cX5_found 0 = .ok (.aload_n 0, 1) := by decide +kernel
theorem dX5_found_1 : decode cX5_found 1 = .ok (.getfield 12, 3) := by decide +kernel
theorem dX5_found_4 : decode cX5_found 4 = .ok (.iload_n 1, 1) := by decide +kernel
theorem dX5_found_5 : decode cX5_found 5 = .ok (.aload_n 0, 1) := by decide +kernel
theorem dX5_found_6 : decode cX5_found 6 = .ok (.getfield 19, 3) := by decide +kernel
theorem dX5_found_9 : decode cX5_found 9 = .ok (.invokevirtual 71, 3) := by decide +kernel
theorem dX5_found_12 : decode cX5_found 12 = .ok (.ireturn, 1) := by decide +kernel
theorem dX5_type_0 : decode cX5_type 0 = .ok (.aload_n 0, 1) := by decide +kernel
theorem dX5_type_1 : decode cX5_type 1 = .ok (.getfield 19, 3) := by decide +kernel
theorem dX5_type_4 : decode cX5_type 4 = .ok (.lload_n 1, 1) := by decide +kernel
theorem dX5_type_5 : decode cX5_type 5 = .ok (.iload_n 3, 1) := by decide +kernel
theorem dX5_type_6 : decode cX5_type 6 = .ok (.invokevirtual 75, 3) := by decide +kernel
theorem dX5_type_9 : decode cX5_type 9 = .ok (.ireturn, 1) := by decide +kernel
theorem dX5_laws_0 : decode cX5_laws 0 = .ok (.aload_n 0, 1) := by decide +kernel
theorem dX5_laws_1 : decode cX5_laws 1 = .ok (.getfield 19, 3) := by decide +kernel
theorem dX5_laws_4 : decode cX5_laws 4 = .ok (.invokevirtual 79, 3) := by decide +kernel
theorem dX5_laws_7 : decode cX5_laws 7 = .ok (.ireturn, 1) := by decide +kernel
theorem dX5_count_0 : decode cX5_count 0 = .ok (.iload_n 1, 1) := by decide +kernel
theorem dX5_count_1 : decode cX5_count 1 = .ok (.iconst 0, 1) := by decide +kernel
theorem dX5_count_2 : decode cX5_count 2 = .ok (.iconst 2, 1) := by decide +kernel
theorem dX5_count_3 : decode cX5_count 3 = .ok (.invokestatic 54, 3) := by decide +kernel
theorem dX5_count_6 : decode cX5_count 6 = .ok (.ifCond .eq 14, 3) := by decide +kernel
theorem dX5_count_9 : decode cX5_count 9 = .ok (.aload_n 0, 1) := by decide +kernel
theorem dX5_count_10 : decode cX5_count 10 = .ok (.getfield 12, 3) := by decide +kernel
theorem dX5_count_13 : decode cX5_count 13 = .ok (.iload_n 1, 1) := by decide +kernel
theorem dX5_count_14 : decode cX5_count 14 = .ok (.invokevirtual 83, 3) := by decide +kernel
theorem dX5_count_17 : decode cX5_count 17 = .ok (.goto 4, 3) := by decide +kernel
theorem dX5_count_20 : decode cX5_count 20 = .ok (.iconst (-1), 1) := by decide +kernel
theorem dX5_count_21 : decode cX5_count 21 = .ok (.ireturn, 1) := by decide +kernel
theorem dX5_index_0 : decode cX5_index 0 = .ok (.iload_n 1, 1) := by decide +kernel
theorem dX5_index_1 : decode cX5_index 1 = .ok (.invokestatic 37, 3) := by decide +kernel
theorem dX5_index_4 : decode cX5_index 4 = .ok (.ifCond .eq 26, 3) := by decide +kernel
theorem dX5_index_7 : decode cX5_index 7 = .ok (.iload_n 2, 1) := by decide +kernel
theorem dX5_index_8 : decode cX5_index 8 = .ok (.iconst 0, 1) := by decide +kernel
theorem dX5_index_9 : decode cX5_index 9 = .ok (.sipush 2000, 3) := by decide +kernel
theorem dX5_index_12 : decode cX5_index 12 = .ok (.invokestatic 54, 3) := by decide +kernel
theorem dX5_index_15 : decode cX5_index 15 = .ok (.ifCond .eq 15, 3) := by decide +kernel
theorem dX5_index_18 : decode cX5_index 18 = .ok (.aload_n 0, 1) := by decide +kernel
theorem dX5_index_19 : decode cX5_index 19 = .ok (.getfield 26, 3) := by decide +kernel
theorem dX5_index_22 : decode cX5_index 22 = .ok (.iload_n 1, 1) := by decide +kernel
theorem dX5_index_23 : decode cX5_index 23 = .ok (.iload_n 2, 1) := by decide +kernel
theorem dX5_index_24 : decode cX5_index 24 = .ok (.invokevirtual 86, 3) := by decide +kernel
theorem dX5_index_27 : decode cX5_index 27 = .ok (.goto 4, 3) := by decide +kernel
theorem dX5_index_30 : decode cX5_index 30 = .ok (.iconst (-1), 1) := by decide +kernel
theorem dX5_index_31 : decode cX5_index 31 = .ok (.ireturn, 1) := by decide +kernel
theorem dX5_within_0 : decode cX5_within 0 = .ok (.iload_n 0, 1) := by decide +kernel
theorem dX5_within_1 : decode cX5_within 1 = .ok (.iload_n 1, 1) := by decide +kernel
theorem dX5_within_2 : decode cX5_within 2 = .ok (.if_icmp .lt 12, 3) := by decide +kernel
theorem dX5_within_5 : decode cX5_within 5 = .ok (.iload_n 0, 1) := by decide +kernel
theorem dX5_within_6 : decode cX5_within 6 = .ok (.iload_n 2, 1) := by decide +kernel
theorem dX5_within_7 : decode cX5_within 7 = .ok (.if_icmp .gt 7, 3) := by decide +kernel
theorem dX5_within_10 : decode cX5_within 10 = .ok (.iconst 1, 1) := by decide +kernel
theorem dX5_within_11 : decode cX5_within 11 = .ok (.goto 4, 3) := by decide +kernel
theorem dX5_within_14 : decode cX5_within 14 = .ok (.iconst 0, 1) := by decide +kernel
theorem dX5_within_15 : decode cX5_within 15 = .ok (.ireturn, 1) := by decide +kernel
theorem dX5_isPlayer_0 : decode cX5_isPlayer 0 = .ok (.iload_n 0, 1) := by decide +kernel
theorem dX5_isPlayer_1 : decode cX5_isPlayer 1 = .ok (.iconst 0, 1) := by decide +kernel
theorem dX5_isPlayer_2 : decode cX5_isPlayer 2 = .ok (.bipush 7, 2) := by decide +kernel
theorem dX5_isPlayer_4 : decode cX5_isPlayer 4 = .ok (.invokestatic 54, 3) := by decide +kernel
theorem dX5_isPlayer_7 : decode cX5_isPlayer 7 = .ok (.ireturn, 1) := by decide +kernel
theorem dX5_at_0 : decode cX5_at 0 = .ok (.iload_n 1, 1) := by decide +kernel
theorem dX5_at_1 : decode cX5_at 1 = .ok (.ifCond .lt 15, 3) := by decide +kernel
theorem dX5_at_4 : decode cX5_at 4 = .ok (.iload_n 1, 1) := by decide +kernel
theorem dX5_at_5 : decode cX5_at 5 = .ok (.aload_n 0, 1) := by decide +kernel
theorem dX5_at_6 : decode cX5_at 6 = .ok (.arraylength, 1) := by decide +kernel
theorem dX5_at_7 : decode cX5_at 7 = .ok (.if_icmp .ge 9, 3) := by decide +kernel
theorem dX5_at_10 : decode cX5_at 10 = .ok (.aload_n 0, 1) := by decide +kernel
theorem dX5_at_11 : decode cX5_at 11 = .ok (.iload_n 1, 1) := by decide +kernel
theorem dX5_at_12 : decode cX5_at 12 = .ok (.iaload, 1) := by decide +kernel
theorem dX5_at_13 : decode cX5_at 13 = .ok (.goto 5, 3) := by decide +kernel
theorem dX5_at_16 : decode cX5_at 16 = .ok (.bipush (-4), 2) := by decide +kernel
theorem dX5_at_18 : decode cX5_at 18 = .ok (.ireturn, 1) := by decide +kernel
theorem dX5_set_0 : decode cX5_set 0 = .ok (.iload_n 1, 1) := by decide +kernel
theorem dX5_set_1 : decode cX5_set 1 = .ok (.ifCond .lt 13, 3) := by decide +kernel
theorem dX5_set_4 : decode cX5_set 4 = .ok (.iload_n 1, 1) := by decide +kernel
theorem dX5_set_5 : decode cX5_set 5 = .ok (.aload_n 0, 1) := by decide +kernel
theorem dX5_set_6 : decode cX5_set 6 = .ok (.arraylength, 1) := by decide +kernel
theorem dX5_set_7 : decode cX5_set 7 = .ok (.if_icmp .ge 7, 3) := by decide +kernel
theorem dX5_set_10 : decode cX5_set 10 = .ok (.aload_n 0, 1) := by decide +kernel
theorem dX5_set_11 : decode cX5_set 11 = .ok (.iload_n 1, 1) := by decide +kernel
theorem dX5_set_12 : decode cX5_set 12 = .ok (.iload_n 2, 1) := by decide +kernel
theorem dX5_set_13 : decode cX5_set 13 = .ok (.iastore, 1) := by decide +kernel
theorem dX5_set_14 : decode cX5_set 14 = .ok (.return_, 1) := by decide +kernel
theorem dJ9_abs_0f7a4_0 : decode cJ9_abs_0f7a4 0 = .ok (.iload_n 0, 1) := by decide +kernel
theorem dJ9_abs_0f7a4_1 : decode cJ9_abs_0f7a4 1 = .ok (.ifCond .ge 8, 3) := by decide +kernel
theorem dJ9_abs_0f7a4_4 : decode cJ9_abs_0f7a4 4 = .ok (.iload_n 0, 1) := by decide +kernel
theorem dJ9_abs_0f7a4_5 : decode cJ9_abs_0f7a4 5 = .ok (.ineg, 1) := by decide +kernel
theorem dJ9_abs_0f7a4_6 : decode cJ9_abs_0f7a4 6 = .ok (.goto 4, 3) := by decide +kernel
theorem dJ9_abs_0f7a4_9 : decode cJ9_abs_0f7a4 9 = .ok (.iload_n 0, 1) := by decide +kernel
theorem dJ9_abs_0f7a4_10 : decode cJ9_abs_0f7a4 10 = .ok (.ireturn, 1) := by decide +kernel
theorem dJ9_max_7cf53_0 : decode cJ9_max_7cf53 0 = .ok (.iload_n 0, 1) := by decide +kernel
theorem dJ9_max_7cf53_1 : decode cJ9_max_7cf53 1 = .ok (.iload_n 1, 1) := by decide +kernel
theorem dJ9_max_7cf53_2 : decode cJ9_max_7cf53 2 = .ok (.if_icmp .lt 7, 3) := by decide +kernel
theorem dJ9_max_7cf53_5 : decode cJ9_max_7cf53 5 = .ok (.iload_n 0, 1) := by decide +kernel
theorem dJ9_max_7cf53_6 : decode cJ9_max_7cf53 6 = .ok (.goto 4, 3) := by decide +kernel
theorem dJ9_max_7cf53_9 : decode cJ9_max_7cf53 9 = .ok (.iload_n 1, 1) := by decide +kernel
theorem dJ9_max_7cf53_10 : decode cJ9_max_7cf53 10 = .ok (.ireturn, 1) := by decide +kernel
theorem dJ9_min_7cf53_0 : decode cJ9_min_7cf53 0 = .ok (.iload_n 0, 1) := by decide +kernel
theorem dJ9_min_7cf53_1 : decode cJ9_min_7cf53 1 = .ok (.iload_n 1, 1) := by decide +kernel
theorem dJ9_min_7cf53_2 : decode cJ9_min_7cf53 2 = .ok (.if_icmp .gt 7, 3) := by decide +kernel
theorem dJ9_min_7cf53_5 : decode cJ9_min_7cf53 5 = .ok (.iload_n 0, 1) := by decide +kernel
theorem dJ9_min_7cf53_6 : decode cJ9_min_7cf53 6 = .ok (.goto 4, 3) := by decide +kernel
theorem dJ9_min_7cf53_9 : decode cJ9_min_7cf53 9 = .ok (.iload_n 1, 1) := by decide +kernel
theorem dJ9_min_7cf53_10 : decode cJ9_min_7cf53 10 = .ok (.ireturn, 1) := by decide +kernel
theorem dJ7_fill_53178_0 : decode cJ7_fill_53178 0 = .ok (.iconst 0, 1) := by decide +kernel
theorem dJ7_fill_53178_1 : decode cJ7_fill_53178 1 = .ok (.istore_n 2, 1) := by decide +kernel
theorem dJ7_fill_53178_2 : decode cJ7_fill_53178 2 = .ok (.aload_n 0, 1) := by decide +kernel
theorem dJ7_fill_53178_3 : decode cJ7_fill_53178 3 = .ok (.arraylength, 1) := by decide +kernel
theorem dJ7_fill_53178_4 : decode cJ7_fill_53178 4 = .ok (.istore_n 3, 1) := by decide +kernel
theorem dJ7_fill_53178_5 : decode cJ7_fill_53178 5 = .ok (.iload_n 2, 1) := by decide +kernel
theorem dJ7_fill_53178_6 : decode cJ7_fill_53178 6 = .ok (.iload_n 3, 1) := by decide +kernel
theorem dJ7_fill_53178_7 : decode cJ7_fill_53178 7 = .ok (.if_icmp .ge 13, 3) := by decide +kernel
theorem dJ7_fill_53178_10 : decode cJ7_fill_53178 10 = .ok (.aload_n 0, 1) := by decide +kernel
theorem dJ7_fill_53178_11 : decode cJ7_fill_53178 11 = .ok (.iload_n 2, 1) := by decide +kernel
theorem dJ7_fill_53178_12 : decode cJ7_fill_53178 12 = .ok (.iload_n 1, 1) := by decide +kernel
theorem dJ7_fill_53178_13 : decode cJ7_fill_53178 13 = .ok (.iastore, 1) := by decide +kernel
theorem dJ7_fill_53178_14 : decode cJ7_fill_53178 14 = .ok (.iinc 2 1, 3) := by decide +kernel
theorem dJ7_fill_53178_17 : decode cJ7_fill_53178 17 = .ok (.goto (-12), 3) := by decide +kernel
theorem dJ7_fill_53178_20 : decode cJ7_fill_53178 20 = .ok (.return_, 1) := by decide +kernel
theorem dL_cell_0 : decode cL_cell 0 = .ok (.iload_n 1, 1) := by decide +kernel
theorem dL_cell_1 : decode cL_cell 1 = .ok (.aload_n 0, 1) := by decide +kernel
theorem dL_cell_2 : decode cL_cell 2 = .ok (.arraylength, 1) := by decide +kernel
theorem dL_cell_3 : decode cL_cell 3 = .ok (.if_icmp .ge 9, 3) := by decide +kernel
theorem dL_cell_6 : decode cL_cell 6 = .ok (.aload_n 0, 1) := by decide +kernel
theorem dL_cell_7 : decode cL_cell 7 = .ok (.iload_n 1, 1) := by decide +kernel
theorem dL_cell_8 : decode cL_cell 8 = .ok (.iaload, 1) := by decide +kernel
theorem dL_cell_9 : decode cL_cell 9 = .ok (.goto 9, 3) := by decide +kernel
theorem dL_cell_12 : decode cL_cell 12 = .ok (.ldc 7, 2) := by decide +kernel
theorem dL_cell_14 : decode cL_cell 14 = .ok (.iload_n 1, 1) := by decide +kernel
theorem dL_cell_15 : decode cL_cell 15 = .ok (.iconst 3, 1) := by decide +kernel
theorem dL_cell_16 : decode cL_cell 16 = .ok (.iadd, 1) := by decide +kernel
theorem dL_cell_17 : decode cL_cell 17 = .ok (.imul, 1) := by decide +kernel
theorem dL_cell_18 : decode cL_cell 18 = .ok (.ireturn, 1) := by decide +kernel
theorem dL_some_0 : decode cL_some 0 = .ok (.iload_n 0, 1) := by decide +kernel
theorem dL_some_1 : decode cL_some 1 = .ok (.ldc 8, 2) := by decide +kernel
theorem dL_some_3 : decode cL_some 3 = .ok (.iand, 1) := by decide +kernel
theorem dL_some_4 : decode cL_some 4 = .ok (.iload_n 1, 1) := by decide +kernel
theorem dL_some_5 : decode cL_some 5 = .ok (.irem, 1) := by decide +kernel
theorem dL_some_6 : decode cL_some 6 = .ok (.ireturn, 1) := by decide +kernel
theorem dL_told_0 : decode cL_told 0 = .ok (.lconst 0, 1) := by decide +kernel
theorem dL_told_1 : decode cL_told 1 = .ok (.lstore_n 2, 1) := by decide +kernel
theorem dL_told_2 : decode cL_told 2 = .ok (.iconst 0, 1) := by decide +kernel
theorem dL_told_3 : decode cL_told 3 = .ok (.istore 4, 2) := by decide +kernel
theorem dL_told_5 : decode cL_told 5 = .ok (.iload 4, 2) := by decide +kernel
theorem dL_told_7 : decode cL_told 7 = .ok (.bipush 12, 2) := by decide +kernel
theorem dL_told_9 : decode cL_told 9 = .ok (.if_icmp .ge 28, 3) := by decide +kernel
theorem dL_told_12 : decode cL_told 12 = .ok (.ldc2_w 11, 3) := by decide +kernel
theorem dL_told_15 : decode cL_told 15 = .ok (.lload_n 2, 1) := by decide +kernel
theorem dL_told_16 : decode cL_told 16 = .ok (.lmul, 1) := by decide +kernel
theorem dL_told_17 : decode cL_told 17 = .ok (.aload_n 0, 1) := by decide +kernel
theorem dL_told_18 : decode cL_told 18 = .ok (.iload_n 1, 1) := by decide +kernel
theorem dL_told_19 : decode cL_told 19 = .ok (.iload 4, 2) := by decide +kernel
theorem dL_told_21 : decode cL_told 21 = .ok (.invokevirtual 13, 3) := by decide +kernel
theorem dL_told_24 : decode cL_told 24 = .ok (.i2l, 1) := by decide +kernel
theorem dL_told_25 : decode cL_told 25 = .ok (.ladd, 1) := by decide +kernel
theorem dL_told_26 : decode cL_told 26 = .ok (.ldc2_w 19, 3) := by decide +kernel
theorem dL_told_29 : decode cL_told 29 = .ok (.ladd, 1) := by decide +kernel
theorem dL_told_30 : decode cL_told 30 = .ok (.lstore_n 2, 1) := by decide +kernel
theorem dL_told_31 : decode cL_told 31 = .ok (.iinc 4 1, 3) := by decide +kernel
theorem dL_told_34 : decode cL_told 34 = .ok (.goto (-29), 3) := by decide +kernel
theorem dL_told_37 : decode cL_told 37 = .ok (.lload_n 2, 1) := by decide +kernel
theorem dL_told_38 : decode cL_told 38 = .ok (.lreturn, 1) := by decide +kernel
theorem dL_laws_0 : decode cL_laws 0 = .ok (.aload_n 0, 1) := by decide +kernel
theorem dL_laws_1 : decode cL_laws 1 = .ok (.ldc2_w 21, 3) := by decide +kernel
theorem dL_laws_4 : decode cL_laws 4 = .ok (.iconst 1, 1) := by decide +kernel
theorem dL_laws_5 : decode cL_laws 5 = .ok (.invokevirtual 23, 3) := by decide +kernel
theorem dL_laws_8 : decode cL_laws 8 = .ok (.iconst 1, 1) := by decide +kernel
theorem dL_laws_9 : decode cL_laws 9 = .ok (.if_icmp .ne 62, 3) := by decide +kernel
theorem dL_laws_12 : decode cL_laws 12 = .ok (.aload_n 0, 1) := by decide +kernel
theorem dL_laws_13 : decode cL_laws 13 = .ok (.ldc2_w 27, 3) := by decide +kernel
theorem dL_laws_16 : decode cL_laws 16 = .ok (.iload_n 1, 1) := by decide +kernel
theorem dL_laws_17 : decode cL_laws 17 = .ok (.bipush 10, 2) := by decide +kernel
theorem dL_laws_19 : decode cL_laws 19 = .ok (.idiv, 1) := by decide +kernel
theorem dL_laws_20 : decode cL_laws 20 = .ok (.i2l, 1) := by decide +kernel
theorem dL_laws_21 : decode cL_laws 21 = .ok (.ladd, 1) := by decide +kernel
theorem dL_laws_22 : decode cL_laws 22 = .ok (.ldc2_w 29, 3) := by decide +kernel
theorem dL_laws_25 : decode cL_laws 25 = .ok (.lmul, 1) := by decide +kernel
theorem dL_laws_26 : decode cL_laws 26 = .ok (.ldc2_w 27, 3) := by decide +kernel
theorem dL_laws_29 : decode cL_laws 29 = .ok (.ladd, 1) := by decide +kernel
theorem dL_laws_30 : decode cL_laws 30 = .ok (.iload_n 1, 1) := by decide +kernel
theorem dL_laws_31 : decode cL_laws 31 = .ok (.bipush 10, 2) := by decide +kernel
theorem dL_laws_33 : decode cL_laws 33 = .ok (.irem, 1) := by decide +kernel
theorem dL_laws_34 : decode cL_laws 34 = .ok (.i2l, 1) := by decide +kernel
theorem dL_laws_35 : decode cL_laws 35 = .ok (.ladd, 1) := by decide +kernel
theorem dL_laws_36 : decode cL_laws 36 = .ok (.iconst 2, 1) := by decide +kernel
theorem dL_laws_37 : decode cL_laws 37 = .ok (.invokevirtual 23, 3) := by decide +kernel
theorem dL_laws_40 : decode cL_laws 40 = .ok (.iconst 3, 1) := by decide +kernel
theorem dL_laws_41 : decode cL_laws 41 = .ok (.if_icmp .ne 30, 3) := by decide +kernel
theorem dL_laws_44 : decode cL_laws 44 = .ok (.aload_n 0, 1) := by decide +kernel
theorem dL_laws_45 : decode cL_laws 45 = .ok (.iload_n 2, 1) := by decide +kernel
theorem dL_laws_46 : decode cL_laws 46 = .ok (.i2l, 1) := by decide +kernel
theorem dL_laws_47 : decode cL_laws 47 = .ok (.iconst 1, 1) := by decide +kernel
theorem dL_laws_48 : decode cL_laws 48 = .ok (.invokevirtual 23, 3) := by decide +kernel
theorem dL_laws_51 : decode cL_laws 51 = .ok (.iconst 4, 1) := by decide +kernel
theorem dL_laws_52 : decode cL_laws 52 = .ok (.if_icmp .ne 19, 3) := by decide +kernel
theorem dL_laws_55 : decode cL_laws 55 = .ok (.aload_n 0, 1) := by decide +kernel
theorem dL_laws_56 : decode cL_laws 56 = .ok (.ldc2_w 31, 3) := by decide +kernel
theorem dL_laws_59 : decode cL_laws 59 = .ok (.iconst 1, 1) := by decide +kernel
theorem dL_laws_60 : decode cL_laws 60 = .ok (.invokevirtual 23, 3) := by decide +kernel
theorem dL_laws_63 : decode cL_laws 63 = .ok (.iconst 5, 1) := by decide +kernel
theorem dL_laws_64 : decode cL_laws 64 = .ok (.if_icmp .ne 7, 3) := by decide +kernel
theorem dL_laws_67 : decode cL_laws 67 = .ok (.iconst 1, 1) := by decide +kernel
theorem dL_laws_68 : decode cL_laws 68 = .ok (.goto 4, 3) := by decide +kernel
theorem dL_laws_71 : decode cL_laws 71 = .ok (.iconst 0, 1) := by decide +kernel
theorem dL_laws_72 : decode cL_laws 72 = .ok (.istore 5, 2) := by decide +kernel
theorem dL_laws_74 : decode cL_laws 74 = .ok (.iload 5, 2) := by decide +kernel
theorem dL_laws_76 : decode cL_laws 76 = .ok (.ifCond .eq 74, 3) := by decide +kernel
theorem dL_laws_79 : decode cL_laws 79 = .ok (.aload_n 0, 1) := by decide +kernel
theorem dL_laws_80 : decode cL_laws 80 = .ok (.ldc2_w 33, 3) := by decide +kernel
theorem dL_laws_83 : decode cL_laws 83 = .ok (.iconst 1, 1) := by decide +kernel
theorem dL_laws_84 : decode cL_laws 84 = .ok (.invokevirtual 23, 3) := by decide +kernel
theorem dL_laws_87 : decode cL_laws 87 = .ok (.bipush 6, 2) := by decide +kernel
theorem dL_laws_89 : decode cL_laws 89 = .ok (.if_icmp .ne 61, 3) := by decide +kernel
theorem dL_laws_92 : decode cL_laws 92 = .ok (.aload_n 0, 1) := by decide +kernel
theorem dL_laws_93 : decode cL_laws 93 = .ok (.ldc2_w 27, 3) := by decide +kernel
theorem dL_laws_96 : decode cL_laws 96 = .ok (.iload_n 3, 1) := by decide +kernel
theorem dL_laws_97 : decode cL_laws 97 = .ok (.bipush 10, 2) := by decide +kernel
theorem dL_laws_99 : decode cL_laws 99 = .ok (.idiv, 1) := by decide +kernel
theorem dL_laws_100 : decode cL_laws 100 = .ok (.i2l, 1) := by decide +kernel
theorem dL_laws_101 : decode cL_laws 101 = .ok (.ladd, 1) := by decide +kernel
theorem dL_laws_102 : decode cL_laws 102 = .ok (.ldc2_w 29, 3) := by decide +kernel
theorem dL_laws_105 : decode cL_laws 105 = .ok (.lmul, 1) := by decide +kernel
theorem dL_laws_106 : decode cL_laws 106 = .ok (.ldc2_w 27, 3) := by decide +kernel
theorem dL_laws_109 : decode cL_laws 109 = .ok (.ladd, 1) := by decide +kernel
theorem dL_laws_110 : decode cL_laws 110 = .ok (.iload_n 3, 1) := by decide +kernel
theorem dL_laws_111 : decode cL_laws 111 = .ok (.bipush 10, 2) := by decide +kernel
theorem dL_laws_113 : decode cL_laws 113 = .ok (.irem, 1) := by decide +kernel
theorem dL_laws_114 : decode cL_laws 114 = .ok (.i2l, 1) := by decide +kernel
theorem dL_laws_115 : decode cL_laws 115 = .ok (.ladd, 1) := by decide +kernel
theorem dL_laws_116 : decode cL_laws 116 = .ok (.iconst 2, 1) := by decide +kernel
theorem dL_laws_117 : decode cL_laws 117 = .ok (.invokevirtual 23, 3) := by decide +kernel
theorem dL_laws_120 : decode cL_laws 120 = .ok (.bipush 8, 2) := by decide +kernel
theorem dL_laws_122 : decode cL_laws 122 = .ok (.if_icmp .ne 28, 3) := by decide +kernel
theorem dL_laws_125 : decode cL_laws 125 = .ok (.aload_n 0, 1) := by decide +kernel
theorem dL_laws_126 : decode cL_laws 126 = .ok (.iload 4, 2) := by decide +kernel
theorem dL_laws_128 : decode cL_laws 128 = .ok (.i2l, 1) := by decide +kernel
theorem dL_laws_129 : decode cL_laws 129 = .ok (.iconst 1, 1) := by decide +kernel
theorem dL_laws_130 : decode cL_laws 130 = .ok (.invokevirtual 23, 3) := by decide +kernel
theorem dL_laws_133 : decode cL_laws 133 = .ok (.bipush 9, 2) := by decide +kernel
theorem dL_laws_135 : decode cL_laws 135 = .ok (.if_icmp .ne 15, 3) := by decide +kernel
theorem dL_laws_138 : decode cL_laws 138 = .ok (.aload_n 0, 1) := by decide +kernel
theorem dL_laws_139 : decode cL_laws 139 = .ok (.invokevirtual 35, 3) := by decide +kernel
theorem dL_laws_142 : decode cL_laws 142 = .ok (.iconst 2, 1) := by decide +kernel
theorem dL_laws_143 : decode cL_laws 143 = .ok (.if_icmp .ne 7, 3) := by decide +kernel
theorem dL_laws_146 : decode cL_laws 146 = .ok (.iconst 1, 1) := by decide +kernel
theorem dL_laws_147 : decode cL_laws 147 = .ok (.goto 4, 3) := by decide +kernel
theorem dL_laws_150 : decode cL_laws 150 = .ok (.iconst 0, 1) := by decide +kernel
theorem dL_laws_151 : decode cL_laws 151 = .ok (.ireturn, 1) := by decide +kernel
theorem dL_law_0 : decode cL_law 0 = .ok (.new 14, 3) := by decide +kernel
theorem dL_law_3 : decode cL_law 3 = .ok (.dup, 1) := by decide +kernel
theorem dL_law_4 : decode cL_law 4 = .ok (.invokespecial 39, 3) := by decide +kernel
theorem dL_law_7 : decode cL_law 7 = .ok (.astore_n 1, 1) := by decide +kernel
theorem dL_law_8 : decode cL_law 8 = .ok (.aload_n 0, 1) := by decide +kernel
theorem dL_law_9 : decode cL_law 9 = .ok (.bipush 63, 2) := by decide +kernel
theorem dL_law_11 : decode cL_law 11 = .ok (.invokestatic 40, 3) := by decide +kernel
theorem dL_law_14 : decode cL_law 14 = .ok (.istore_n 2, 1) := by decide +kernel
theorem dL_law_15 : decode cL_law 15 = .ok (.aload_n 1, 1) := by decide +kernel
theorem dL_law_16 : decode cL_law 16 = .ok (.iload_n 2, 1) := by decide +kernel
theorem dL_law_17 : decode cL_law 17 = .ok (.bipush 20, 2) := by decide +kernel
theorem dL_law_19 : decode cL_law 19 = .ok (.invokestatic 44, 3) := by decide +kernel
theorem dL_law_22 : decode cL_law 22 = .ok (.iload_n 2, 1) := by decide +kernel
theorem dL_law_23 : decode cL_law 23 = .ok (.bipush 8, 2) := by decide +kernel
theorem dL_law_25 : decode cL_law 25 = .ok (.ishr, 1) := by decide +kernel
theorem dL_law_26 : decode cL_law 26 = .ok (.iconst 1, 1) := by decide +kernel
theorem dL_law_27 : decode cL_law 27 = .ok (.iand, 1) := by decide +kernel
theorem dL_law_28 : decode cL_law 28 = .ok (.ifCond .ne 8, 3) := by decide +kernel
theorem dL_law_31 : decode cL_law 31 = .ok (.bipush 82, 2) := by decide +kernel
theorem dL_law_33 : decode cL_law 33 = .ok (.goto 5, 3) := by decide +kernel
theorem dL_law_36 : decode cL_law 36 = .ok (.bipush 78, 2) := by decide +kernel
theorem dL_law_38 : decode cL_law 38 = .ok (.iload_n 2, 1) := by decide +kernel
theorem dL_law_39 : decode cL_law 39 = .ok (.iconst 4, 1) := by decide +kernel
theorem dL_law_40 : decode cL_law 40 = .ok (.ishr, 1) := by decide +kernel
theorem dL_law_41 : decode cL_law 41 = .ok (.bipush 20, 2) := by decide +kernel
theorem dL_law_43 : decode cL_law 43 = .ok (.invokestatic 44, 3) := by decide +kernel
theorem dL_law_46 : decode cL_law 46 = .ok (.iload_n 2, 1) := by decide +kernel
theorem dL_law_47 : decode cL_law 47 = .ok (.bipush 9, 2) := by decide +kernel
theorem dL_law_49 : decode cL_law 49 = .ok (.ishr, 1) := by decide +kernel
theorem dL_law_50 : decode cL_law 50 = .ok (.iconst 1, 1) := by decide +kernel
theorem dL_law_51 : decode cL_law 51 = .ok (.iand, 1) := by decide +kernel
theorem dL_law_52 : decode cL_law 52 = .ok (.ifCond .ne 8, 3) := by decide +kernel
theorem dL_law_55 : decode cL_law 55 = .ok (.bipush 82, 2) := by decide +kernel
theorem dL_law_57 : decode cL_law 57 = .ok (.goto 5, 3) := by decide +kernel
theorem dL_law_60 : decode cL_law 60 = .ok (.bipush 78, 2) := by decide +kernel
theorem dL_law_62 : decode cL_law 62 = .ok (.invokestatic 47, 3) := by decide +kernel
theorem dL_law_65 : decode cL_law 65 = .ok (.ifCond .eq 36, 3) := by decide +kernel
theorem dL_law_68 : decode cL_law 68 = .ok (.aload_n 1, 1) := by decide +kernel
theorem dL_law_69 : decode cL_law 69 = .ok (.iconst 3, 1) := by decide +kernel
theorem dL_law_70 : decode cL_law 70 = .ok (.iload_n 2, 1) := by decide +kernel
theorem dL_law_71 : decode cL_law 71 = .ok (.bipush 10, 2) := by decide +kernel
theorem dL_law_73 : decode cL_law 73 = .ok (.ishr, 1) := by decide +kernel
theorem dL_law_74 : decode cL_law 74 = .ok (.sipush 2001, 3) := by decide +kernel
theorem dL_law_77 : decode cL_law 77 = .ok (.invokestatic 44, 3) := by decide +kernel
theorem dL_law_80 : decode cL_law 80 = .ok (.invokevirtual 50, 3) := by decide +kernel
theorem dL_law_83 : decode cL_law 83 = .ok (.sipush 1000, 3) := by decide +kernel
theorem dL_law_86 : decode cL_law 86 = .ok (.if_icmp .ne 15, 3) := by decide +kernel
theorem dL_law_89 : decode cL_law 89 = .ok (.aload_n 1, 1) := by decide +kernel
theorem dL_law_90 : decode cL_law 90 = .ok (.iconst 3, 1) := by decide +kernel
theorem dL_law_91 : decode cL_law 91 = .ok (.bipush 6, 2) := by decide +kernel
theorem dL_law_93 : decode cL_law 93 = .ok (.invokevirtual 53, 3) := by decide +kernel
theorem dL_law_96 : decode cL_law 96 = .ok (.bipush (-20), 2) := by decide +kernel
theorem dL_law_98 : decode cL_law 98 = .ok (.if_icmp .ge 5, 3) := by decide +kernel
theorem dL_law_101 : decode cL_law 101 = .ok (.iconst 0, 1) := by decide +kernel
theorem dL_law_102 : decode cL_law 102 = .ok (.ireturn, 1) := by decide +kernel
theorem dL_law_103 : decode cL_law 103 = .ok (.bipush 64, 2) := by decide +kernel
theorem dL_law_105 : decode cL_law 105 = .ok (.newarray .long, 2) := by decide +kernel
theorem dL_law_107 : decode cL_law 107 = .ok (.astore_n 3, 1) := by decide +kernel
theorem dL_law_108 : decode cL_law 108 = .ok (.iconst 0, 1) := by decide +kernel
theorem dL_law_109 : decode cL_law 109 = .ok (.istore 4, 2) := by decide +kernel
theorem dL_law_111 : decode cL_law 111 = .ok (.aload_n 3, 1) := by decide +kernel
theorem dL_law_112 : decode cL_law 112 = .ok (.iconst 0, 1) := by decide +kernel
theorem dL_law_113 : decode cL_law 113 = .ok (.aload_n 1, 1) := by decide +kernel
theorem dL_law_114 : decode cL_law 114 = .ok (.iconst 0, 1) := by decide +kernel
theorem dL_law_115 : decode cL_law 115 = .ok (.invokestatic 56, 3) := by decide +kernel
theorem dL_law_118 : decode cL_law 118 = .ok (.lastore, 1) := by decide +kernel
theorem dL_law_119 : decode cL_law 119 = .ok (.iconst 0, 1) := by decide +kernel
theorem dL_law_120 : decode cL_law 120 = .ok (.istore 5, 2) := by decide +kernel
theorem dL_law_122 : decode cL_law 122 = .ok (.iload 5, 2) := by decide +kernel
theorem dL_law_124 : decode cL_law 124 = .ok (.bipush 55, 2) := by decide +kernel
theorem dL_law_126 : decode cL_law 126 = .ok (.if_icmp .ge 352, 3) := by decide +kernel
theorem dL_law_129 : decode cL_law 129 = .ok (.aload_n 0, 1) := by decide +kernel
theorem dL_law_130 : decode cL_law 130 = .ok (.iload 5, 2) := by decide +kernel
theorem dL_law_132 : decode cL_law 132 = .ok (.invokestatic 40, 3) := by decide +kernel
theorem dL_law_135 : decode cL_law 135 = .ok (.istore 6, 2) := by decide +kernel
theorem dL_law_137 : decode cL_law 137 = .ok (.iload 6, 2) := by decide +kernel
theorem dL_law_139 : decode cL_law 139 = .ok (.bipush 7, 2) := by decide +kernel
theorem dL_law_141 : decode cL_law 141 = .ok (.invokestatic 44, 3) := by decide +kernel
theorem dL_law_144 : decode cL_law 144 = .ok (.istore 7, 2) := by decide +kernel
theorem dL_law_146 : decode cL_law 146 = .ok (.aload_n 1, 1) := by decide +kernel
theorem dL_law_147 : decode cL_law 147 = .ok (.iload 4, 2) := by decide +kernel
theorem dL_law_149 : decode cL_law 149 = .ok (.iconst 1, 1) := by decide +kernel
theorem dL_law_150 : decode cL_law 150 = .ok (.invokevirtual 13, 3) := by decide +kernel
theorem dL_law_153 : decode cL_law 153 = .ok (.istore 8, 2) := by decide +kernel
theorem dL_law_155 : decode cL_law 155 = .ok (.aload_n 1, 1) := by decide +kernel
theorem dL_law_156 : decode cL_law 156 = .ok (.iload 4, 2) := by decide +kernel
theorem dL_law_158 : decode cL_law 158 = .ok (.iconst 4, 1) := by decide +kernel
theorem dL_law_159 : decode cL_law 159 = .ok (.invokevirtual 13, 3) := by decide +kernel
theorem dL_law_162 : decode cL_law 162 = .ok (.ifCond .lt 7, 3) := by decide +kernel
theorem dL_law_165 : decode cL_law 165 = .ok (.iconst 4, 1) := by decide +kernel
theorem dL_law_166 : decode cL_law 166 = .ok (.goto 21, 3) := by decide +kernel
theorem dL_law_169 : decode cL_law 169 = .ok (.iload 8, 2) := by decide +kernel
theorem dL_law_171 : decode cL_law 171 = .ok (.ifCond .ge 14, 3) := by decide +kernel
theorem dL_law_174 : decode cL_law 174 = .ok (.iload 7, 2) := by decide +kernel
theorem dL_law_176 : decode cL_law 176 = .ok (.bipush 6, 2) := by decide +kernel
theorem dL_law_178 : decode cL_law 178 = .ok (.if_icmp .eq 7, 3) := by decide +kernel
theorem dL_law_181 : decode cL_law 181 = .ok (.iconst 0, 1) := by decide +kernel
theorem dL_law_182 : decode cL_law 182 = .ok (.goto 5, 3) := by decide +kernel
theorem dL_law_185 : decode cL_law 185 = .ok (.iload 7, 2) := by decide +kernel
theorem dL_law_187 : decode cL_law 187 = .ok (.istore 7, 2) := by decide +kernel
theorem dL_law_189 : decode cL_law 189 = .ok (.aload_n 1, 1) := by decide +kernel
theorem dL_law_190 : decode cL_law 190 = .ok (.iload 7, 2) := by decide +kernel
theorem dL_law_192 : decode cL_law 192 = .ok (.iload 6, 2) := by decide +kernel
theorem dL_law_194 : decode cL_law 194 = .ok (.iconst 3, 1) := by decide +kernel
theorem dL_law_195 : decode cL_law 195 = .ok (.ishr, 1) := by decide +kernel
theorem dL_law_196 : decode cL_law 196 = .ok (.iconst 4, 1) := by decide +kernel
theorem dL_law_197 : decode cL_law 197 = .ok (.invokestatic 44, 3) := by decide +kernel
theorem dL_law_200 : decode cL_law 200 = .ok (.invokevirtual 60, 3) := by decide +kernel
theorem dL_law_203 : decode cL_law 203 = .ok (.istore 9, 2) := by decide +kernel
theorem dL_law_205 : decode cL_law 205 = .ok (.iload 9, 2) := by decide +kernel
theorem dL_law_207 : decode cL_law 207 = .ok (.ifCond .lt 51, 3) := by decide +kernel
theorem dL_law_210 : decode cL_law 210 = .ok (.iload 9, 2) := by decide +kernel
theorem dL_law_212 : decode cL_law 212 = .ok (.iload 4, 2) := by decide +kernel
theorem dL_law_214 : decode cL_law 214 = .ok (.if_icmp .ne 15, 3) := by decide +kernel
theorem dL_law_217 : decode cL_law 217 = .ok (.aload_n 1, 1) := by decide +kernel
theorem dL_law_218 : decode cL_law 218 = .ok (.iconst 0, 1) := by decide +kernel
theorem dL_law_219 : decode cL_law 219 = .ok (.invokevirtual 63, 3) := by decide +kernel
theorem dL_law_222 : decode cL_law 222 = .ok (.iload 4, 2) := by decide +kernel
theorem dL_law_224 : decode cL_law 224 = .ok (.iconst 1, 1) := by decide +kernel
theorem dL_law_225 : decode cL_law 225 = .ok (.iadd, 1) := by decide +kernel
theorem dL_law_226 : decode cL_law 226 = .ok (.if_icmp .eq 5, 3) := by decide +kernel
theorem dL_law_229 : decode cL_law 229 = .ok (.iconst 0, 1) := by decide +kernel
theorem dL_law_230 : decode cL_law 230 = .ok (.ireturn, 1) := by decide +kernel
theorem dL_law_231 : decode cL_law 231 = .ok (.iload 4, 2) := by decide +kernel
theorem dL_law_233 : decode cL_law 233 = .ok (.iconst 1, 1) := by decide +kernel
theorem dL_law_234 : decode cL_law 234 = .ok (.iadd, 1) := by decide +kernel
theorem dL_law_235 : decode cL_law 235 = .ok (.istore 4, 2) := by decide +kernel
theorem dL_law_237 : decode cL_law 237 = .ok (.aload_n 3, 1) := by decide +kernel
theorem dL_law_238 : decode cL_law 238 = .ok (.iload 4, 2) := by decide +kernel
theorem dL_law_240 : decode cL_law 240 = .ok (.aload_n 1, 1) := by decide +kernel
theorem dL_law_241 : decode cL_law 241 = .ok (.iload 4, 2) := by decide +kernel
theorem dL_law_243 : decode cL_law 243 = .ok (.invokestatic 56, 3) := by decide +kernel
theorem dL_law_246 : decode cL_law 246 = .ok (.lastore, 1) := by decide +kernel
theorem dL_law_247 : decode cL_law 247 = .ok (.aload_n 3, 1) := by decide +kernel
theorem dL_law_248 : decode cL_law 248 = .ok (.iload 4, 2) := by decide +kernel
theorem dL_law_250 : decode cL_law 250 = .ok (.laload, 1) := by decide +kernel
theorem dL_law_251 : decode cL_law 251 = .ok (.lconst 0, 1) := by decide +kernel
theorem dL_law_252 : decode cL_law 252 = .ok (.lcmp, 1) := by decide +kernel
theorem dL_law_253 : decode cL_law 253 = .ok (.ifCond .ge 5, 3) := by decide +kernel
theorem dL_law_256 : decode cL_law 256 = .ok (.iconst 0, 1) := by decide +kernel
theorem dL_law_257 : decode cL_law 257 = .ok (.ireturn, 1) := by decide +kernel
theorem dL_law_258 : decode cL_law 258 = .ok (.iload 6, 2) := by decide +kernel
theorem dL_law_260 : decode cL_law 260 = .ok (.bipush 6, 2) := by decide +kernel
theorem dL_law_262 : decode cL_law 262 = .ok (.ishr, 1) := by decide +kernel
theorem dL_law_263 : decode cL_law 263 = .ok (.iconst 4, 1) := by decide +kernel
theorem dL_law_264 : decode cL_law 264 = .ok (.invokestatic 44, 3) := by decide +kernel
theorem dL_law_267 : decode cL_law 267 = .ok (.ifCond .ne 161, 3) := by decide +kernel
theorem dL_law_270 : decode cL_law 270 = .ok (.iload 4, 2) := by decide +kernel
theorem dL_law_272 : decode cL_law 272 = .ok (.ifCond .le 156, 3) := by decide +kernel
theorem dL_law_275 : decode cL_law 275 = .ok (.iload 6, 2) := by decide +kernel
theorem dL_law_277 : decode cL_law 277 = .ok (.bipush 8, 2) := by decide +kernel
theorem dL_law_279 : decode cL_law 279 = .ok (.ishr, 1) := by decide +kernel
theorem dL_law_280 : decode cL_law 280 = .ok (.iload 4, 2) := by decide +kernel
theorem dL_law_282 : decode cL_law 282 = .ok (.invokestatic 44, 3) := by decide +kernel
theorem dL_law_285 : decode cL_law 285 = .ok (.istore 10, 2) := by decide +kernel
theorem dL_law_287 : decode cL_law 287 = .ok (.aload_n 1, 1) := by decide +kernel
theorem dL_law_288 : decode cL_law 288 = .ok (.iload 10, 2) := by decide +kernel
theorem dL_law_290 : decode cL_law 290 = .ok (.iconst 3, 1) := by decide +kernel
theorem dL_law_291 : decode cL_law 291 = .ok (.invokevirtual 67, 3) := by decide +kernel
theorem dL_law_294 : decode cL_law 294 = .ok (.iconst 1, 1) := by decide +kernel
theorem dL_law_295 : decode cL_law 295 = .ok (.if_icmp .ne 7, 3) := by decide +kernel
theorem dL_law_298 : decode cL_law 298 = .ok (.iconst 1, 1) := by decide +kernel
theorem dL_law_299 : decode cL_law 299 = .ok (.goto 4, 3) := by decide +kernel
theorem dL_law_302 : decode cL_law 302 = .ok (.iconst 0, 1) := by decide +kernel
theorem dL_law_303 : decode cL_law 303 = .ok (.istore 11, 2) := by decide +kernel
theorem dL_law_305 : decode cL_law 305 = .ok (.aload_n 1, 1) := by decide +kernel
theorem dL_law_306 : decode cL_law 306 = .ok (.iload 10, 2) := by decide +kernel
theorem dL_law_308 : decode cL_law 308 = .ok (.iconst 0, 1) := by decide +kernel
theorem dL_law_309 : decode cL_law 309 = .ok (.invokevirtual 67, 3) := by decide +kernel
theorem dL_law_312 : decode cL_law 312 = .ok (.istore 12, 2) := by decide +kernel
theorem dL_law_314 : decode cL_law 314 = .ok (.aload_n 1, 1) := by decide +kernel
theorem dL_law_315 : decode cL_law 315 = .ok (.iload 10, 2) := by decide +kernel
theorem dL_law_317 : decode cL_law 317 = .ok (.invokevirtual 69, 3) := by decide +kernel
theorem dL_law_320 : decode cL_law 320 = .ok (.istore 13, 2) := by decide +kernel
theorem dL_law_322 : decode cL_law 322 = .ok (.iload 13, 2) := by decide +kernel
theorem dL_law_324 : decode cL_law 324 = .ok (.bipush (-2), 2) := by decide +kernel
theorem dL_law_326 : decode cL_law 326 = .ok (.if_icmp .eq 8, 3) := by decide +kernel
theorem dL_law_329 : decode cL_law 329 = .ok (.iload 11, 2) := by decide +kernel
theorem dL_law_331 : decode cL_law 331 = .ok (.ifCond .eq 9, 3) := by decide +kernel
theorem dL_law_334 : decode cL_law 334 = .ok (.iload 13, 2) := by decide +kernel
theorem dL_law_336 : decode cL_law 336 = .ok (.iconst (-1), 1) := by decide +kernel
theorem dL_law_337 : decode cL_law 337 = .ok (.if_icmp .ne 5, 3) := by decide +kernel
theorem dL_law_340 : decode cL_law 340 = .ok (.iconst 0, 1) := by decide +kernel
theorem dL_law_341 : decode cL_law 341 = .ok (.ireturn, 1) := by decide +kernel
theorem dL_law_342 : decode cL_law 342 = .ok (.iload 13, 2) := by decide +kernel
theorem dL_law_344 : decode cL_law 344 = .ok (.iconst 1, 1) := by decide +kernel
theorem dL_law_345 : decode cL_law 345 = .ok (.if_icmp .ne 31, 3) := by decide +kernel
theorem dL_law_348 : decode cL_law 348 = .ok (.iload 10, 2) := by decide +kernel
theorem dL_law_350 : decode cL_law 350 = .ok (.istore 4, 2) := by decide +kernel
theorem dL_law_352 : decode cL_law 352 = .ok (.aload_n 1, 1) := by decide +kernel
theorem dL_law_353 : decode cL_law 353 = .ok (.iload 4, 2) := by decide +kernel
theorem dL_law_355 : decode cL_law 355 = .ok (.iconst 1, 1) := by decide +kernel
theorem dL_law_356 : decode cL_law 356 = .ok (.invokevirtual 13, 3) := by decide +kernel
theorem dL_law_359 : decode cL_law 359 = .ok (.bipush (-4), 2) := by decide +kernel
theorem dL_law_361 : decode cL_law 361 = .ok (.if_icmp .ne 13, 3) := by decide +kernel
theorem dL_law_364 : decode cL_law 364 = .ok (.aload_n 1, 1) := by decide +kernel
theorem dL_law_365 : decode cL_law 365 = .ok (.iload 4, 2) := by decide +kernel
theorem dL_law_367 : decode cL_law 367 = .ok (.iconst 2, 1) := by decide +kernel
theorem dL_law_368 : decode cL_law 368 = .ok (.invokevirtual 13, 3) := by decide +kernel
theorem dL_law_371 : decode cL_law 371 = .ok (.ifCond .eq 5, 3) := by decide +kernel
theorem dL_law_374 : decode cL_law 374 = .ok (.iconst 0, 1) := by decide +kernel
theorem dL_law_375 : decode cL_law 375 = .ok (.ireturn, 1) := by decide +kernel
theorem dL_law_376 : decode cL_law 376 = .ok (.iload 13, 2) := by decide +kernel
theorem dL_law_378 : decode cL_law 378 = .ok (.iconst 2, 1) := by decide +kernel
theorem dL_law_379 : decode cL_law 379 = .ok (.if_icmp .ne 39, 3) := by decide +kernel
theorem dL_law_382 : decode cL_law 382 = .ok (.aload_n 1, 1) := by decide +kernel
theorem dL_law_383 : decode cL_law 383 = .ok (.iload 10, 2) := by decide +kernel
theorem dL_law_385 : decode cL_law 385 = .ok (.iconst 3, 1) := by decide +kernel
theorem dL_law_386 : decode cL_law 386 = .ok (.invokevirtual 67, 3) := by decide +kernel
theorem dL_law_389 : decode cL_law 389 = .ok (.ifCond .ne 27, 3) := by decide +kernel
theorem dL_law_392 : decode cL_law 392 = .ok (.aload_n 1, 1) := by decide +kernel
theorem dL_law_393 : decode cL_law 393 = .ok (.iload 10, 2) := by decide +kernel
theorem dL_law_395 : decode cL_law 395 = .ok (.iconst 0, 1) := by decide +kernel
theorem dL_law_396 : decode cL_law 396 = .ok (.invokevirtual 67, 3) := by decide +kernel
theorem dL_law_399 : decode cL_law 399 = .ok (.iload 12, 2) := by decide +kernel
theorem dL_law_401 : decode cL_law 401 = .ok (.if_icmp .ne 15, 3) := by decide +kernel
theorem dL_law_404 : decode cL_law 404 = .ok (.aload_n 1, 1) := by decide +kernel
theorem dL_law_405 : decode cL_law 405 = .ok (.iload 4, 2) := by decide +kernel
theorem dL_law_407 : decode cL_law 407 = .ok (.iconst 1, 1) := by decide +kernel
theorem dL_law_408 : decode cL_law 408 = .ok (.invokevirtual 13, 3) := by decide +kernel
theorem dL_law_411 : decode cL_law 411 = .ok (.bipush (-4), 2) := by decide +kernel
theorem dL_law_413 : decode cL_law 413 = .ok (.if_icmp .eq 5, 3) := by decide +kernel
theorem dL_law_416 : decode cL_law 416 = .ok (.iconst 0, 1) := by decide +kernel
theorem dL_law_417 : decode cL_law 417 = .ok (.ireturn, 1) := by decide +kernel
theorem dL_law_418 : decode cL_law 418 = .ok (.aload_n 3, 1) := by decide +kernel
theorem dL_law_419 : decode cL_law 419 = .ok (.iload 4, 2) := by decide +kernel
theorem dL_law_421 : decode cL_law 421 = .ok (.aload_n 1, 1) := by decide +kernel
theorem dL_law_422 : decode cL_law 422 = .ok (.iload 4, 2) := by decide +kernel
theorem dL_law_424 : decode cL_law 424 = .ok (.invokestatic 56, 3) := by decide +kernel
theorem dL_law_427 : decode cL_law 427 = .ok (.lastore, 1) := by decide +kernel
theorem dL_law_428 : decode cL_law 428 = .ok (.aload_n 1, 1) := by decide +kernel
theorem dL_law_429 : decode cL_law 429 = .ok (.iconst 0, 1) := by decide +kernel
theorem dL_law_430 : decode cL_law 430 = .ok (.invokevirtual 63, 3) := by decide +kernel
theorem dL_law_433 : decode cL_law 433 = .ok (.iload 4, 2) := by decide +kernel
theorem dL_law_435 : decode cL_law 435 = .ok (.if_icmp .eq 5, 3) := by decide +kernel
theorem dL_law_438 : decode cL_law 438 = .ok (.iconst 0, 1) := by decide +kernel
theorem dL_law_439 : decode cL_law 439 = .ok (.ireturn, 1) := by decide +kernel
theorem dL_law_440 : decode cL_law 440 = .ok (.iconst 0, 1) := by decide +kernel
theorem dL_law_441 : decode cL_law 441 = .ok (.istore 10, 2) := by decide +kernel
theorem dL_law_443 : decode cL_law 443 = .ok (.iload 10, 2) := by decide +kernel
theorem dL_law_445 : decode cL_law 445 = .ok (.iload 4, 2) := by decide +kernel
theorem dL_law_447 : decode cL_law 447 = .ok (.if_icmp .gt 25, 3) := by decide +kernel
theorem dL_law_450 : decode cL_law 450 = .ok (.aload_n 1, 1) := by decide +kernel
theorem dL_law_451 : decode cL_law 451 = .ok (.iload 10, 2) := by decide +kernel
theorem dL_law_453 : decode cL_law 453 = .ok (.invokestatic 56, 3) := by decide +kernel
theorem dL_law_456 : decode cL_law 456 = .ok (.aload_n 3, 1) := by decide +kernel
theorem dL_law_457 : decode cL_law 457 = .ok (.iload 10, 2) := by decide +kernel
theorem dL_law_459 : decode cL_law 459 = .ok (.laload, 1) := by decide +kernel
theorem dL_law_460 : decode cL_law 460 = .ok (.lcmp, 1) := by decide +kernel
theorem dL_law_461 : decode cL_law 461 = .ok (.ifCond .eq 5, 3) := by decide +kernel
theorem dL_law_464 : decode cL_law 464 = .ok (.iconst 0, 1) := by decide +kernel
theorem dL_law_465 : decode cL_law 465 = .ok (.ireturn, 1) := by decide +kernel
theorem dL_law_466 : decode cL_law 466 = .ok (.iinc 10 1, 3) := by decide +kernel
theorem dL_law_469 : decode cL_law 469 = .ok (.goto (-26), 3) := by decide +kernel
theorem dL_law_472 : decode cL_law 472 = .ok (.iinc 5 1, 3) := by decide +kernel
theorem dL_law_475 : decode cL_law 475 = .ok (.goto (-353), 3) := by decide +kernel
theorem dL_law_478 : decode cL_law 478 = .ok (.iconst 0, 1) := by decide +kernel
theorem dL_law_479 : decode cL_law 479 = .ok (.istore 5, 2) := by decide +kernel
theorem dL_law_481 : decode cL_law 481 = .ok (.iconst 0, 1) := by decide +kernel
theorem dL_law_482 : decode cL_law 482 = .ok (.istore 6, 2) := by decide +kernel
theorem dL_law_484 : decode cL_law 484 = .ok (.iload 6, 2) := by decide +kernel
theorem dL_law_486 : decode cL_law 486 = .ok (.iload 4, 2) := by decide +kernel
theorem dL_law_488 : decode cL_law 488 = .ok (.if_icmp .ge 80, 3) := by decide +kernel
theorem dL_law_491 : decode cL_law 491 = .ok (.iload 5, 2) := by decide +kernel
theorem dL_law_493 : decode cL_law 493 = .ok (.aload_n 1, 1) := by decide +kernel
theorem dL_law_494 : decode cL_law 494 = .ok (.iload 6, 2) := by decide +kernel
theorem dL_law_496 : decode cL_law 496 = .ok (.iconst 3, 1) := by decide +kernel
theorem dL_law_497 : decode cL_law 497 = .ok (.invokevirtual 67, 3) := by decide +kernel
theorem dL_law_500 : decode cL_law 500 = .ok (.iadd, 1) := by decide +kernel
theorem dL_law_501 : decode cL_law 501 = .ok (.istore 5, 2) := by decide +kernel
theorem dL_law_503 : decode cL_law 503 = .ok (.iconst 0, 1) := by decide +kernel
theorem dL_law_504 : decode cL_law 504 = .ok (.istore 7, 2) := by decide +kernel
theorem dL_law_506 : decode cL_law 506 = .ok (.iload 7, 2) := by decide +kernel
theorem dL_law_508 : decode cL_law 508 = .ok (.iconst 4, 1) := by decide +kernel
theorem dL_law_509 : decode cL_law 509 = .ok (.if_icmp .ge 53, 3) := by decide +kernel
theorem dL_law_512 : decode cL_law 512 = .ok (.aload_n 1, 1) := by decide +kernel
theorem dL_law_513 : decode cL_law 513 = .ok (.iload 6, 2) := by decide +kernel
theorem dL_law_515 : decode cL_law 515 = .ok (.iconst 5, 1) := by decide +kernel
theorem dL_law_516 : decode cL_law 516 = .ok (.iload 7, 2) := by decide +kernel
theorem dL_law_518 : decode cL_law 518 = .ok (.iadd, 1) := by decide +kernel
theorem dL_law_519 : decode cL_law 519 = .ok (.invokevirtual 13, 3) := by decide +kernel
theorem dL_law_522 : decode cL_law 522 = .ok (.istore 8, 2) := by decide +kernel
theorem dL_law_524 : decode cL_law 524 = .ok (.aload_n 1, 1) := by decide +kernel
theorem dL_law_525 : decode cL_law 525 = .ok (.iload 6, 2) := by decide +kernel
theorem dL_law_527 : decode cL_law 527 = .ok (.iconst 1, 1) := by decide +kernel
theorem dL_law_528 : decode cL_law 528 = .ok (.iadd, 1) := by decide +kernel
theorem dL_law_529 : decode cL_law 529 = .ok (.iconst 5, 1) := by decide +kernel
theorem dL_law_530 : decode cL_law 530 = .ok (.iload 7, 2) := by decide +kernel
theorem dL_law_532 : decode cL_law 532 = .ok (.iadd, 1) := by decide +kernel
theorem dL_law_533 : decode cL_law 533 = .ok (.invokevirtual 13, 3) := by decide +kernel
theorem dL_law_536 : decode cL_law 536 = .ok (.istore 9, 2) := by decide +kernel
theorem dL_law_538 : decode cL_law 538 = .ok (.iload 9, 2) := by decide +kernel
theorem dL_law_540 : decode cL_law 540 = .ok (.iload 8, 2) := by decide +kernel
theorem dL_law_542 : decode cL_law 542 = .ok (.if_icmp .eq 14, 3) := by decide +kernel
theorem dL_law_545 : decode cL_law 545 = .ok (.iload 9, 2) := by decide +kernel
theorem dL_law_547 : decode cL_law 547 = .ok (.iload 8, 2) := by decide +kernel
theorem dL_law_549 : decode cL_law 549 = .ok (.iconst 1, 1) := by decide +kernel
theorem dL_law_550 : decode cL_law 550 = .ok (.iadd, 1) := by decide +kernel
theorem dL_law_551 : decode cL_law 551 = .ok (.if_icmp .eq 5, 3) := by decide +kernel
theorem dL_law_554 : decode cL_law 554 = .ok (.iconst 0, 1) := by decide +kernel
theorem dL_law_555 : decode cL_law 555 = .ok (.ireturn, 1) := by decide +kernel
theorem dL_law_556 : decode cL_law 556 = .ok (.iinc 7 1, 3) := by decide +kernel
theorem dL_law_559 : decode cL_law 559 = .ok (.goto (-53), 3) := by decide +kernel
theorem dL_law_562 : decode cL_law 562 = .ok (.iinc 6 1, 3) := by decide +kernel
theorem dL_law_565 : decode cL_law 565 = .ok (.goto (-81), 3) := by decide +kernel
theorem dL_law_568 : decode cL_law 568 = .ok (.aload_n 1, 1) := by decide +kernel
theorem dL_law_569 : decode cL_law 569 = .ok (.iconst 1, 1) := by decide +kernel
theorem dL_law_570 : decode cL_law 570 = .ok (.invokevirtual 63, 3) := by decide +kernel
theorem dL_law_573 : decode cL_law 573 = .ok (.iload 5, 2) := by decide +kernel
theorem dL_law_575 : decode cL_law 575 = .ok (.if_icmp .ne 7, 3) := by decide +kernel
theorem dL_law_578 : decode cL_law 578 = .ok (.iconst 1, 1) := by decide +kernel
theorem dL_law_579 : decode cL_law 579 = .ok (.goto 4, 3) := by decide +kernel
theorem dL_law_582 : decode cL_law 582 = .ok (.iconst 0, 1) := by decide +kernel
theorem dL_law_583 : decode cL_law 583 = .ok (.ireturn, 1) := by decide +kernel
end
section
/-! THE LAYER: a method's frame over one world of fixed shape.
  σ: object number, slot -> int. Λ: what the objects are (arrays, objects with their references). q_G: 'from here the machine comes to the method's end with E' (E none: nothing is said). q_Ex: the contract of a method. -/
/-- the words that a callee is given: all but those of nest mates, which come beside -/
def lw_gd : List Cond := lw_tbl.filter goodWord
def q_nests : List (String × Nat × MethodName) := [("CroquetLawn", 11, ⟨"CroquetLawn$Play", "<init>", "()V"⟩), ("CroquetLawn$Play", 35, ⟨"CroquetLawn$Position", "<init>", "()V"⟩), ("CroquetLawn$Laws", 27, ⟨"CroquetLawn", "set", "([III)V"⟩), ("CroquetLawn$Roster", 21, ⟨"CroquetLawn", "at", "([II)I"⟩), ("CroquetLawn$Play", 43, ⟨"CroquetLawn", "set", "([III)V"⟩), ("CroquetLawn$Position", 24, ⟨"CroquetLawn", "set", "([III)V"⟩), ("CroquetLawn$Position", 61, ⟨"CroquetLawn", "at", "([II)I"⟩), ("CroquetLawn$Play", 69, ⟨"CroquetLawn", "at", "([II)I"⟩), ("CroquetLawn$Laws", 31, ⟨"CroquetLawn", "at", "([II)I"⟩), ("CroquetLawn$Roster", 25, ⟨"CroquetLawn", "set", "([III)V"⟩), ("CroquetLawn$Laws", 35, ⟨"CroquetLawn", "within", "(III)Z"⟩)]
abbrev Sg : Type := Nat → Nat → Int32
abbrev Rs : Type := Option (Sg × Int32)
def q_wr (σ : Sg) (o k : Nat) (v : Int32) : Sg := fun o' => if o' = o then upd (σ o) k v else σ o'
def q_clr (σ : Sg) (o : Nat) : Sg := fun o' => if o' = o then (fun _ => 0) else σ o'
def q_bnd (x : Rs) (f : Sg → Int32 → Rs) : Rs := match x with
  | none => none
  | some (s, r) => f s r
abbrev q_Kd : Type := (Bool × Nat) ⊕ (Nat × List (Option (Option Nat)))
abbrev q_Lay : Type := List q_Kd
abbrev q_Cx : Type := Launch × va_G × (ClassId × ClassId) × (Nat → Nat) × Nat × Nat
abbrev xl (X : q_Cx) : Launch := X.1
abbrev xD (X : q_Cx) : va_G := X.2.1
abbrev xI (X : q_Cx) : ClassId := X.2.2.1.1
abbrev xZ (X : q_Cx) : ClassId := X.2.2.1.2
abbrev xa (X : q_Cx) : Nat → Nat := X.2.2.2.1
abbrev xb (X : q_Cx) : Nat := X.2.2.2.2.1
abbrev xn (X : q_Cx) : Nat := X.2.2.2.2.2
def q_fv (X : q_Cx) (σ : Sg) (o k : Nat) (r : Option (Option Nat)) : Value := match r with
  | none => .int (σ o k)
  | some none => .null
  | some (some t) => .ref (xa X t)
/-- a long in two cells -/
def q_hi (v : Int64) : Int32 := Int32.ofBitVec (v.toBitVec.extractLsb' 32 32)
def q_lo (v : Int64) : Int32 := Int32.ofBitVec (v.toBitVec.extractLsb' 0 32)
def q_jn (h l : Int32) : Int64 := Int64.ofBitVec (h.toBitVec ++ l.toBitVec)
def q_lg (σ : Sg) (o k : Nat) : Int64 := q_jn (σ o (2 * k)) (σ o (2 * k + 1))
def q_wrl (σ : Sg) (o k : Nat) (v : Int64) : Sg := q_wr (q_wr σ o (2 * k) (q_hi v)) o (2 * k + 1) (q_lo v)
theorem q_hl (v : Int64) : q_jn (q_hi v) (q_lo v) = v := by
  have h : (v.toBitVec.extractLsb' 32 32 ++ v.toBitVec.extractLsb' 0 32 : BitVec 64) = v.toBitVec := by
    apply BitVec.eq_of_getLsbD_eq
    intro i hi
    rw [BitVec.getLsbD_append]
    by_cases h : i < 32
    · simp [BitVec.getLsbD_extractLsb', h]
    · have h2 : i - 32 < 32 := by omega
      have h3 : 32 + (i - 32) = i := by omega
      simp [BitVec.getLsbD_extractLsb', h, h2, h3]
  show Int64.ofBitVec (v.toBitVec.extractLsb' 32 32 ++ v.toBitVec.extractLsb' 0 32) = v
  exact congrArg Int64.ofBitVec h
theorem q_lg_wrl (σ : Sg) (o k : Nat) (v : Int64) : q_lg (q_wrl σ o k v) o k = v := by
  have e0 : q_wrl σ o k v o (2 * k) = q_hi v := by simp [q_wrl, q_wr, upd, show 2 * k ≠ 2 * k + 1 by omega]
  have e1 : q_wrl σ o k v o (2 * k + 1) = q_lo v := by simp [q_wrl, q_wr, upd]
  rw [q_lg, e0, e1, q_hl]
theorem q_lg_wrl_ne (σ : Sg) (o k j : Nat) (v : Int64) (h : j ≠ k) : q_lg (q_wrl σ o k v) o j = q_lg σ o j := by
  have e0 : q_wrl σ o k v o (2 * j) = σ o (2 * j) := by simp [q_wrl, q_wr, upd, show 2 * j ≠ 2 * k + 1 by omega, show 2 * j ≠ 2 * k by omega]
  have e1 : q_wrl σ o k v o (2 * j + 1) = σ o (2 * j + 1) := by simp [q_wrl, q_wr, upd, show 2 * j + 1 ≠ 2 * k + 1 by omega, show 2 * j ≠ 2 * k by omega, show 2 * j + 1 ≠ 2 * k by omega]
  rw [q_lg, e0, e1, q_lg]
theorem q_wrl_ne {σ : Sg} {o o' k : Nat} {v : Int64} (h : o' ≠ o) : q_wrl σ o k v o' = σ o' := by simp [q_wrl, q_wr, h]
theorem q_lg_clr (σ : Sg) (o k : Nat) : q_lg (q_clr σ o) o k = 0 := by
  have e : ∀ j, q_clr σ o o j = 0 := fun j => by simp [q_clr]
  rw [q_lg, e, e]
  decide
theorem q_lg_o {σ σ' : Sg} {o : Nat} (h : σ' o = σ o) (k : Nat) : q_lg σ' o k = q_lg σ o k := by rw [q_lg, q_lg, h]
def q_cell (X : q_Cx) (σ : Sg) (o : Nat) (k : q_Kd) : va_E := match k with
  | .inl (false, n) => .inl (xI X, n, .inl (σ o))
  | .inl (true, n) => .inl (xZ X, n, .inr (.inl (q_lg σ o)))
  | .inr (c, fs) => .inr (c, fs.mapIdx (fun k r => q_fv X σ o k r))
def q_W (X : q_Cx) (Λ : q_Lay) (σ : Sg) : va_W := Λ.mapIdx (fun o k => (xa X o, q_cell X σ o k))
def q_A (X : q_Cx) : Nat → Prop := fun q => xb X ≤ q
def q_FX (X : q_Cx) (U : State) : Prop := va_K (xD X) vwCl [(xI X, .int), (xZ X, .long)] U ∧ (∀ q ∈ q_nests, va_Nw (.methodLinkNest q.1 q.2.1 q.2.2 "CroquetLawn") U) ∧ ∀ o, o < 64 → xa X o = xb X + o
def q_ST (X : q_Cx) (σ : Sg) (U : State) (H : Heap) : Prop := va_T .int (xa X 105) (xn X) (fun i => .int (σ 105 i)) (q_A X) U H
def q_INV (X : q_Cx) (Λ : q_Lay) (σ : Sg) (U : State) : Prop := va_P (xD X) vwCl (q_W X Λ σ) U.heap ∧ U.heap.size = xb X + Λ.length ∧ Λ.length ≤ 64 ∧ q_FX X U ∧ q_ST X σ U U.heap
abbrev q_Mt : Type := MethodName × ByteArray × Nat × Option FieldType × Room
/-- a method's answer; a long one stands in the cells 200, 0 and 1 -/
def q_rv (t : Option FieldType) (σ : Sg) (r : Int32) : Option Value := match t with
  | none => none
  | some .long => some (.long (q_lg σ 200 0))
  | some _ => some (.int r)
def q_ws (M : q_Mt) : List Cond := Cond.code M.1 M.2.1 M.2.2.1 M.2.2.2.1 :: lw_gd
def q_QE (X : q_Cx) (Λe : q_Lay) (M : q_Mt) (E : Rs) : Array Value → State → Outcome → State → Prop := fun _ st oc t => ∃ (σ' : Sg) (r : Int32), E = some (σ', r) ∧ oc = .returned (q_rv M.2.2.2.1 σ' r) ∧ q_INV X Λe σ' t ∧ va_F (q_A X) st t
def q_Ex (X : q_Cx) (M : q_Mt) (Λ Λe : q_Lay) (args : List Value) (σ : Sg) (E : Rs) : Prop := Met (xl X) M.1 (q_ws M) M.2.2.2.2 (va_Pc args (fun U => (∃ x, E = some x) ∧ q_INV X Λ σ U)) (q_QE X Λe M E) M.2.2.2.2.cells M.2.2.2.2.slots (q_A X)
def q_MC (X : q_Cx) (M : q_Mt) (p : Program) (s : State) (m : MethodId) (args : Array Value) (meth : Method) (c : Code) : Prop := p.tables.exec = Jvm.exec ∧ c.code = M.2.1 ∧ meth.sig.returnType = M.2.2.2.1 ∧ c.maxLocals = M.2.2.1 ∧ s.vm.findClass M.1.cls = some m.cls ∧ (∀ w ∈ lw_gd, w.before args s = true) ∧ meth.locks = false ∧ (M.1.name = "<init>" → meth.name = "<init>") ∧ q_FX X s
abbrev q_Fin : Type := Rs → List Frame → Array Value → State → State → Prop
def q_QM (X : q_Cx) (Λe : q_Lay) (M : q_Mt) : q_Fin := fun E below args s => MQ below (q_QE X Λe M E) args s M.2.2.2.2.cells M.2.2.2.2.slots (q_A X)
def q_G (X : q_Cx) (M : q_Mt) (Q : q_Fin) (ph : q_Lay × Nat × Nat) (σ : Sg) (pc : Nat) (l : List (Nat × Value)) (st : List Value) (E : Rs) : Prop :=
  (∃ x, E = some x) → ∀ (p : Program) (e : Env) (s : State) (m : MethodId) (args : Array Value) (below : List Frame) (meth : Method) (c : Code) (H : Heap) (locs : List Loc) (ls : Array Slot), q_MC X M p s m args meth c →
    va_P (xD X) vwCl (q_W X ph.1 σ) H → H.size = xb X + ph.1.length → ph.1.length ≤ 64 → q_ST X σ s s.heap → va_S (q_A X) s.heap H locs → lv_has ls M.2.2.1 l →
    W p (xl X) e M.2.2.2.2 s m args below meth c H locs ph.2.1 ph.2.2 (Q E below args s) (F0 m pc ls st)
/-! the world -/
theorem q_Wget {X : q_Cx} {Λ : q_Lay} {σ : Sg} {o : Nat} {k : q_Kd} (h : Λ[o]? = some k) : (q_W X Λ σ)[o]? = some (xa X o, q_cell X σ o k) := by
  simp [q_W, h]
theorem q_Wlen (X : q_Cx) (Λ : q_Lay) (σ : Sg) : (q_W X Λ σ).length = Λ.length := by simp [q_W]
theorem q_Wat {X : q_Cx} {Λ : q_Lay} {σ : Sg} {o : Nat} {q : Nat × va_E} (h : (q_W X Λ σ)[o]? = some q) : o < Λ.length ∧ q.1 = xa X o := by
  have hl : o < (q_W X Λ σ).length := (List.getElem?_eq_some_iff.mp h).1
  rw [q_Wlen] at hl
  refine ⟨hl, ?_⟩
  rw [q_Wget (List.getElem?_eq_getElem hl)] at h
  exact (congrArg Prod.fst (Option.some.inj h)).symm
theorem q_D {X : q_Cx} {Λ : q_Lay} {σ : Sg} (ha : ∀ o, o < 64 → xa X o = xb X + o) (hl : Λ.length ≤ 64) : va_D (q_A X) (q_W X Λ σ) := by
  refine ⟨fun i j p q hi hj hpq => ?_, fun k q hk => ?_⟩
  · obtain ⟨a1, a2⟩ := q_Wat hi
    obtain ⟨b1, b2⟩ := q_Wat hj
    have h1 := ha i (by omega)
    have h2 := ha j (by omega)
    omega
  · obtain ⟨a1, a2⟩ := q_Wat hk
    have h1 := ha k (by omega)
    show xb X ≤ q.1
    omega
theorem q_wr_ne {σ : Sg} {o o' k : Nat} {v : Int32} (h : o' ≠ o) : q_wr σ o k v o' = σ o' := by simp [q_wr, h]
theorem q_cell_ne {X : q_Cx} {σ σ' : Sg} {o : Nat} {k : q_Kd} (h : σ' o = σ o) : q_cell X σ' o k = q_cell X σ o k := by
  rcases k with ⟨z, n⟩ | ⟨c, fs⟩
  · cases z with
    | false => simp [q_cell, h]
    | true =>
      have e : q_lg σ' o = q_lg σ o := funext (fun k => q_lg_o h k)
      simp [q_cell, e]
  · simp only [q_cell]
    congr 2
    apply List.ext_getElem?
    intro i
    simp only [List.getElem?_mapIdx]
    cases fs[i]? with
    | none => rfl
    | some r => rcases r with _ | _ | t <;> simp [q_fv, h]
theorem q_Wset {X : q_Cx} {Λ Λ' : q_Lay} {σ σ' : Sg} {o : Nat} {e : va_E} {k' : q_Kd} (hl : Λ' = Λ.set o k') (ho : o < Λ.length) (he : q_cell X σ' o k' = e) (hn : ∀ o', o' ≠ o → σ' o' = σ o') : (q_W X Λ σ).set o (xa X o, e) = q_W X Λ' σ' := by
  subst hl
  subst he
  apply List.ext_getElem?
  intro i
  by_cases hi : i = o
  · subst hi
    rw [List.getElem?_set_self (by rw [q_Wlen]; exact ho), q_Wget (k := k') (by simp [ho])]
  · rw [List.getElem?_set_ne (Ne.symm hi)]
    simp only [q_W, List.getElem?_mapIdx, List.getElem?_set_ne (Ne.symm hi)]
    cases Λ[i]? with
    | none => rfl
    | some k => simp [q_cell_ne (hn i hi)]
theorem q_set_self {Λ : q_Lay} {o : Nat} {k : q_Kd} (h : Λ[o]? = some k) : Λ = Λ.set o k := by
  apply List.ext_getElem?
  intro i
  by_cases hi : i = o
  · subst hi
    rw [List.getElem?_set_self (List.getElem?_eq_some_iff.mp h).1, h]
  · rw [List.getElem?_set_ne (Ne.symm hi)]
theorem q_fset {X : q_Cx} {σ : Sg} {o k ci : Nat} {fs : List (Option (Option Nat))} {v : Int32} (hk : fs[k]? = some none) : q_cell X (q_wr σ o k v) o (.inr (ci, fs)) = .inr (ci, (fs.mapIdx (fun k r => q_fv X σ o k r)).set k (.int v)) := by
  simp only [q_cell]
  congr 2
  apply List.ext_getElem?
  intro i
  have hl := (List.getElem?_eq_some_iff.mp hk).1
  by_cases hi : i = k
  · subst hi
    rw [List.getElem?_set_self (by simpa using hl)]
    simp [hk, q_fv, q_wr, upd]
  · rw [List.getElem?_set_ne (Ne.symm hi)]
    simp only [List.getElem?_mapIdx]
    cases fs[i]? with
    | none => rfl
    | some r => rcases r with _ | _ | t <;> simp [q_fv, q_wr, upd, hi]
theorem q_rset {X : q_Cx} {σ : Sg} {o k ci t : Nat} {fs : List (Option (Option Nat))} (hk : k < fs.length) : q_cell X σ o (.inr (ci, fs.set k (some (some t)))) = .inr (ci, (fs.mapIdx (fun k r => q_fv X σ o k r)).set k (.ref (xa X t))) := by
  simp only [q_cell]
  congr 2
  apply List.ext_getElem?
  intro i
  by_cases hi : i = k
  · subst hi
    rw [List.getElem?_set_self (by simpa using hk)]
    simp [hk, q_fv]
  · rw [List.getElem?_set_ne (Ne.symm hi)]
    simp [List.getElem?_set_ne (Ne.symm hi)]
theorem q_aset {X : q_Cx} {σ : Sg} {o n i : Nat} {v : Int32} : q_cell X (q_wr σ o i v) o (.inl (false, n)) = .inl (xI X, n, .inl (upd (σ o) i v)) := by
  simp [q_cell, q_wr]
theorem q_lset {X : q_Cx} {σ : Sg} {o n i : Nat} {v : Int64} : q_cell X (q_wrl σ o i v) o (.inl (true, n)) = .inl (xZ X, n, .inr (.inl (vp_updL (q_lg σ o) i v))) := by
  have e : q_lg (q_wrl σ o i v) o = vp_updL (q_lg σ o) i v := by
    funext k
    by_cases h : k = i
    · subst h
      rw [q_lg_wrl]
      simp [vp_updL]
    · rw [q_lg_wrl_ne σ o i k v h]
      simp [vp_updL, h]
  simp [q_cell, e]
theorem q_clr_ne {σ : Sg} {o o' : Nat} (h : o' ≠ o) : q_clr σ o o' = σ o' := by simp [q_clr, h]
theorem q_Wpush {X : q_Cx} {Λ : q_Lay} {σ : Sg} {k : q_Kd} {e : va_E} (he : q_cell X (q_clr σ Λ.length) Λ.length k = e) : q_W X Λ σ ++ [(xa X Λ.length, e)] = q_W X (Λ ++ [k]) (q_clr σ Λ.length) := by
  subst he
  apply List.ext_getElem?
  intro i
  by_cases hi : i < Λ.length
  · rw [List.getElem?_append_left (by rw [q_Wlen]; exact hi), q_Wget (List.getElem?_eq_getElem hi), q_Wget (k := Λ[i]) (by rw [List.getElem?_append_left hi]; exact List.getElem?_eq_getElem hi), q_cell_ne (q_clr_ne (by omega))]
  · by_cases h2 : i = Λ.length
    · subst h2
      rw [List.getElem?_append_right (by rw [q_Wlen]; omega), q_Wlen, q_Wget (k := k) (by simp)]
      simp
    · rw [List.getElem?_eq_none (by simp [q_Wlen]; omega), List.getElem?_eq_none (by simp [q_Wlen]; omega)]
theorem q_STw {X : q_Cx} {σ σ' : Sg} {U : State} {H : Heap} (h : q_ST X σ U H) (hn : ∀ o, o = 105 → σ' o = σ o) : q_ST X σ' U H := by
  show va_T .int (xa X 105) (xn X) (fun i => .int (σ' 105 i)) (q_A X) U H
  rw [hn 105 rfl]
  exact h
theorem q_ST.moved {X : q_Cx} {σ : Sg} {u U : State} {H H1 : Heap} (hvm : u.vm.Alike U.vm) (hk : ∀ a : Nat, a < H.size → ¬ q_A X a → H1[a]? = H[a]?) (h : q_ST X σ u H) : q_ST X σ U H1 :=
  ((show va_T .int (xa X 105) (xn X) (fun i => .int (σ 105 i)) (q_A X) u H from h).moved hvm).kept hk
theorem q_FX.moved {X : q_Cx} {u U : State} (hW : u.WarmedH U.vm) (h : q_FX X u) : q_FX X U := ⟨va_K.moved hW.alike h.1, fun q hq => va_Nw.warmM hW (h.2.1 q hq), h.2.2⟩
theorem q_FX.same {X : q_Cx} {u U : State} (hv : u.vm = U.vm) (h : q_FX X u) : q_FX X U := ⟨va_K.moved (hv ▸ Vm.Alike.refl u.vm) h.1, fun q hq => va_Nw.same rfl hv (h.2.1 q hq), h.2.2⟩
end
section
/-! THE LAYER's RULES: an instruction, a rule -/
section QR
variable {X : q_Cx} {M : q_Mt} {Q : q_Fin} {ph : q_Lay × Nat × Nat} {σ : Sg} {pc pc' : Nat} {l l' : List (Nat × Value)} {st rest : List Value} {E E1 E2 : Rs}
theorem gq_none : q_G X M Q ph σ pc l st none := fun h => by obtain ⟨x, h⟩ := h; cases h
theorem gq_ite {c : Prop} [Decidable c] (h1 : c → q_G X M Q ph σ pc l st E1) (h2 : ¬ c → q_G X M Q ph σ pc l st E2) : q_G X M Q ph σ pc l st (if c then E1 else E2) := by
  by_cases h : c
  · rw [if_pos h]; exact h1 h
  · rw [if_neg h]; exact h2 h
theorem gq_sub (ks : List Nat) (hl : lv_pick l ks = l') (k : q_G X M Q ph σ pc l' st E) : q_G X M Q ph σ pc l st E := fun hE p e s m args below meth c H locs ls C hP hz h6 hT hS h => k hE p e s m args below meth c H locs ls C hP hz h6 hT hS (lv_sub h ks hl)
theorem gq_pc (h : pc = pc') (k : q_G X M Q ph σ pc' l st E) : q_G X M Q ph σ pc l st E := h ▸ k
theorem gq_iconst {n : Int} {v : Int32} (d : decode M.2.1 pc = .ok (.iconst n, 1)) (hp : pc + 1 = pc') (hv : Int32.ofInt n = v) (k : q_G X M Q ph σ pc' l (.int v :: st) E) : q_G X M Q ph σ pc l st E := by
  subst hp
  exact fun hE p e s m args below meth c H locs ls C hP hz h6 hT hS h => lv_iconst C.1 C.2.1 d hv (k hE p e s m args below meth c H locs ls C hP hz h6 hT hS h)
theorem gq_bipush {n : Int} {v : Int32} (d : decode M.2.1 pc = .ok (.bipush n, 2)) (hp : pc + 2 = pc') (hv : (Int8.ofInt n).toInt32 = v) (k : q_G X M Q ph σ pc' l (.int v :: st) E) : q_G X M Q ph σ pc l st E := by
  subst hp
  exact fun hE p e s m args below meth c H locs ls C hP hz h6 hT hS h => lv_bipush C.1 C.2.1 d hv (k hE p e s m args below meth c H locs ls C hP hz h6 hT hS h)
theorem gq_sipush {n : Int} {v : Int32} (d : decode M.2.1 pc = .ok (.sipush n, 3)) (hp : pc + 3 = pc') (hv : (Int16.ofInt n).toInt32 = v) (k : q_G X M Q ph σ pc' l (.int v :: st) E) : q_G X M Q ph σ pc l st E := by
  subst hp
  exact fun hE p e s m args below meth c H locs ls C hP hz h6 hT hS h => lv_sipush C.1 C.2.1 d hv (k hE p e s m args below meth c H locs ls C hP hz h6 hT hS h)
theorem gq_iload_n {k : Fin 4} {i : Nat} {x : Int32} (d : decode M.2.1 pc = .ok (.iload_n k, 1)) (hp : pc + 1 = pc') (hl : l[i]? = some ((k : Nat), .int x)) (kk : q_G X M Q ph σ pc' l (.int x :: st) E) : q_G X M Q ph σ pc l st E := by
  subst hp
  exact fun hE p e s m args below meth c H locs ls C hP hz h6 hT hS h => lv_iload_n C.1 C.2.1 d rfl (lv_at h i hl) (kk hE p e s m args below meth c H locs ls C hP hz h6 hT hS h)
theorem gq_iload {i j : Nat} {x : Int32} (d : decode M.2.1 pc = .ok (.iload j, 2)) (hp : pc + 2 = pc') (hl : l[i]? = some (j, .int x)) (k : q_G X M Q ph σ pc' l (.int x :: st) E) : q_G X M Q ph σ pc l st E := by
  subst hp
  exact fun hE p e s m args below meth c H locs ls C hP hz h6 hT hS h => lv_iload C.1 C.2.1 d (lv_at h i hl) (k hE p e s m args below meth c H locs ls C hP hz h6 hT hS h)
theorem gq_aload_n {k : Fin 4} {i : Nat} {x : Nat} (d : decode M.2.1 pc = .ok (.aload_n k, 1)) (hp : pc + 1 = pc') (hl : l[i]? = some ((k : Nat), .ref x)) (kk : q_G X M Q ph σ pc' l (.ref x :: st) E) : q_G X M Q ph σ pc l st E := by
  subst hp
  exact fun hE p e s m args below meth c H locs ls C hP hz h6 hT hS h => lv_aload_n C.1 C.2.1 d rfl (lv_at h i hl) (kk hE p e s m args below meth c H locs ls C hP hz h6 hT hS h)
theorem gq_lload_n {k : Fin 4} {i : Nat} {x : Int64} (d : decode M.2.1 pc = .ok (.lload_n k, 1)) (hp : pc + 1 = pc') (hl : l[i]? = some ((k : Nat), .long x)) (kk : q_G X M Q ph σ pc' l (.long x :: st) E) : q_G X M Q ph σ pc l st E := by
  subst hp
  exact fun hE p e s m args below meth c H locs ls C hP hz h6 hT hS h => lv_lload_n C.1 C.2.1 d rfl (lv_at h i hl) (kk hE p e s m args below meth c H locs ls C hP hz h6 hT hS h)
theorem gq_istore_n {k : Fin 4} {x : Int32} (d : decode M.2.1 pc = .ok (.istore_n k, 1)) (hp : pc + 1 = pc') (hn : (k : Nat) < M.2.2.1) (hl : ((k : Nat), Value.int x) :: l.filter (fun q => !(q.1 == (k : Nat)) && !(q.1 + 1 == (k : Nat) && q.2.category == 2)) = l') (kk : q_G X M Q ph σ pc' l' st E) : q_G X M Q ph σ pc l (Value.int x :: st) E := by
  subst hp
  exact fun hE p e s m args below meth c H locs ls C hP hz h6 hT hS h => lv_istore_n C.1 C.2.1 d rfl h hn hl (fun ls' h' => kk hE p e s m args below meth c H locs ls' C hP hz h6 hT hS h')
theorem gq_istore {i : Nat} {x : Int32} (d : decode M.2.1 pc = .ok (.istore i, 2)) (hp : pc + 2 = pc') (hn : i < M.2.2.1) (hl : (i, Value.int x) :: l.filter (fun q => !(q.1 == i) && !(q.1 + 1 == i && q.2.category == 2)) = l') (kk : q_G X M Q ph σ pc' l' st E) : q_G X M Q ph σ pc l (Value.int x :: st) E := by
  subst hp
  exact fun hE p e s m args below meth c H locs ls C hP hz h6 hT hS h => lv_istore C.1 C.2.1 d h hn hl (fun ls' h' => kk hE p e s m args below meth c H locs ls' C hP hz h6 hT hS h')
theorem gq_astore_n {k : Fin 4} {x : Nat} (d : decode M.2.1 pc = .ok (.astore_n k, 1)) (hp : pc + 1 = pc') (hn : (k : Nat) < M.2.2.1) (hl : ((k : Nat), Value.ref x) :: l.filter (fun q => !(q.1 == (k : Nat)) && !(q.1 + 1 == (k : Nat) && q.2.category == 2)) = l') (kk : q_G X M Q ph σ pc' l' st E) : q_G X M Q ph σ pc l (Value.ref x :: st) E := by
  subst hp
  exact fun hE p e s m args below meth c H locs ls C hP hz h6 hT hS h => lv_astore_n C.1 C.2.1 d rfl h hn hl (fun ls' h' => kk hE p e s m args below meth c H locs ls' C hP hz h6 hT hS h')
theorem gq_iinc {i j : Nat} {n : Int} {x v : Int32} (d : decode M.2.1 pc = .ok (.iinc i n, 3)) (hp : pc + 3 = pc') (hk : l[j]? = some (i, .int x)) (hv : x + Int32.ofInt n = v) (hn : i < M.2.2.1) (hl : (i, Value.int v) :: l.filter (fun q => !(q.1 == i) && !(q.1 + 1 == i && q.2.category == 2)) = l') (kk : q_G X M Q ph σ pc' l' st E) : q_G X M Q ph σ pc l st E := by
  subst hp
  exact fun hE p e s m args below meth c H locs ls C hP hz h6 hT hS h => lv_iinc C.1 C.2.1 d h hk hv hn hl (fun ls' h' => kk hE p e s m args below meth c H locs ls' C hP hz h6 hT hS h')
theorem gq_iadd {x y : Int32} (d : decode M.2.1 pc = .ok (.iadd, 1)) (hp : pc + 1 = pc') (k : q_G X M Q ph σ pc' l (.int (x + y) :: st) E) : q_G X M Q ph σ pc l (.int y :: .int x :: st) E := by
  subst hp
  exact fun hE p e s m args below meth c H locs ls C hP hz h6 hT hS h => lv_iadd C.1 C.2.1 d (k hE p e s m args below meth c H locs ls C hP hz h6 hT hS h)
theorem gq_isub {x y : Int32} (d : decode M.2.1 pc = .ok (.isub, 1)) (hp : pc + 1 = pc') (k : q_G X M Q ph σ pc' l (.int (x - y) :: st) E) : q_G X M Q ph σ pc l (.int y :: .int x :: st) E := by
  subst hp
  exact fun hE p e s m args below meth c H locs ls C hP hz h6 hT hS h => lv_isub C.1 C.2.1 d (k hE p e s m args below meth c H locs ls C hP hz h6 hT hS h)
theorem gq_imul {x y : Int32} (d : decode M.2.1 pc = .ok (.imul, 1)) (hp : pc + 1 = pc') (k : q_G X M Q ph σ pc' l (.int (x * y) :: st) E) : q_G X M Q ph σ pc l (.int y :: .int x :: st) E := by
  subst hp
  exact fun hE p e s m args below meth c H locs ls C hP hz h6 hT hS h => lv_imul C.1 C.2.1 d (k hE p e s m args below meth c H locs ls C hP hz h6 hT hS h)
theorem gq_iand {x y : Int32} (d : decode M.2.1 pc = .ok (.iand, 1)) (hp : pc + 1 = pc') (k : q_G X M Q ph σ pc' l (.int (x &&& y) :: st) E) : q_G X M Q ph σ pc l (.int y :: .int x :: st) E := by
  subst hp
  exact fun hE p e s m args below meth c H locs ls C hP hz h6 hT hS h => lv_iand C.1 C.2.1 d (k hE p e s m args below meth c H locs ls C hP hz h6 hT hS h)
theorem gq_ior {x y : Int32} (d : decode M.2.1 pc = .ok (.ior, 1)) (hp : pc + 1 = pc') (k : q_G X M Q ph σ pc' l (.int (x ||| y) :: st) E) : q_G X M Q ph σ pc l (.int y :: .int x :: st) E := by
  subst hp
  exact fun hE p e s m args below meth c H locs ls C hP hz h6 hT hS h => lv_ior C.1 C.2.1 d (k hE p e s m args below meth c H locs ls C hP hz h6 hT hS h)
theorem gq_ixor {x y : Int32} (d : decode M.2.1 pc = .ok (.ixor, 1)) (hp : pc + 1 = pc') (k : q_G X M Q ph σ pc' l (.int (x ^^^ y) :: st) E) : q_G X M Q ph σ pc l (.int y :: .int x :: st) E := by
  subst hp
  exact fun hE p e s m args below meth c H locs ls C hP hz h6 hT hS h => lv_ixor C.1 C.2.1 d (k hE p e s m args below meth c H locs ls C hP hz h6 hT hS h)
theorem gq_ishl {x y : Int32} (d : decode M.2.1 pc = .ok (.ishl, 1)) (hp : pc + 1 = pc') (k : q_G X M Q ph σ pc' l (.int (x <<< (y &&& 31)) :: st) E) : q_G X M Q ph σ pc l (.int y :: .int x :: st) E := by
  subst hp
  exact fun hE p e s m args below meth c H locs ls C hP hz h6 hT hS h => lv_ishl C.1 C.2.1 d (k hE p e s m args below meth c H locs ls C hP hz h6 hT hS h)
theorem gq_ishr {x y : Int32} (d : decode M.2.1 pc = .ok (.ishr, 1)) (hp : pc + 1 = pc') (k : q_G X M Q ph σ pc' l (.int (x >>> (y &&& 31)) :: st) E) : q_G X M Q ph σ pc l (.int y :: .int x :: st) E := by
  subst hp
  exact fun hE p e s m args below meth c H locs ls C hP hz h6 hT hS h => lv_ishr C.1 C.2.1 d (k hE p e s m args below meth c H locs ls C hP hz h6 hT hS h)
theorem gq_ineg {x : Int32} (d : decode M.2.1 pc = .ok (.ineg, 1)) (hp : pc + 1 = pc') (k : q_G X M Q ph σ pc' l (.int (-x) :: st) E) : q_G X M Q ph σ pc l (.int x :: st) E := by
  subst hp
  exact fun hE p e s m args below meth c H locs ls C hP hz h6 hT hS h => lv_ineg C.1 C.2.1 d (k hE p e s m args below meth c H locs ls C hP hz h6 hT hS h)
theorem gq_idiv {x y : Int32} (d : decode M.2.1 pc = .ok (.idiv, 1)) (hp : pc + 1 = pc') (hne : ¬ y = 0) (k : q_G X M Q ph σ pc' l (.int (x / y) :: st) E) : q_G X M Q ph σ pc l (.int y :: .int x :: st) E := by
  subst hp
  exact fun hE p e s m args below meth c H locs ls C hP hz h6 hT hS h => lv_idiv C.1 C.2.1 d hne (k hE p e s m args below meth c H locs ls C hP hz h6 hT hS h)
theorem gq_irem {x y : Int32} (d : decode M.2.1 pc = .ok (.irem, 1)) (hp : pc + 1 = pc') (hne : ¬ y = 0) (k : q_G X M Q ph σ pc' l (.int (x - x / y * y) :: st) E) : q_G X M Q ph σ pc l (.int y :: .int x :: st) E := by
  subst hp
  exact fun hE p e s m args below meth c H locs ls C hP hz h6 hT hS h => lv_irem C.1 C.2.1 d hne (k hE p e s m args below meth c H locs ls C hP hz h6 hT hS h)
theorem gq_i2l {x : Int32} (d : decode M.2.1 pc = .ok (.i2l, 1)) (hp : pc + 1 = pc') (k : q_G X M Q ph σ pc' l (.long x.toInt64 :: st) E) : q_G X M Q ph σ pc l (.int x :: st) E := by
  subst hp
  exact fun hE p e s m args below meth c H locs ls C hP hz h6 hT hS h => lv_i2l C.1 C.2.1 d rfl (k hE p e s m args below meth c H locs ls C hP hz h6 hT hS h)
theorem gq_l2i {x : Int64} (d : decode M.2.1 pc = .ok (.l2i, 1)) (hp : pc + 1 = pc') (k : q_G X M Q ph σ pc' l (.int x.toInt32 :: st) E) : q_G X M Q ph σ pc l (.long x :: st) E := by
  subst hp
  exact fun hE p e s m args below meth c H locs ls C hP hz h6 hT hS h => lv_l2i C.1 C.2.1 d rfl (k hE p e s m args below meth c H locs ls C hP hz h6 hT hS h)
theorem gq_land {x y : Int64} (d : decode M.2.1 pc = .ok (.land, 1)) (hp : pc + 1 = pc') (k : q_G X M Q ph σ pc' l (.long (x &&& y) :: st) E) : q_G X M Q ph σ pc l (.long y :: .long x :: st) E := by
  subst hp
  exact fun hE p e s m args below meth c H locs ls C hP hz h6 hT hS h => lv_land C.1 C.2.1 d (k hE p e s m args below meth c H locs ls C hP hz h6 hT hS h)
theorem gq_lor {x y : Int64} (d : decode M.2.1 pc = .ok (.lor, 1)) (hp : pc + 1 = pc') (k : q_G X M Q ph σ pc' l (.long (x ||| y) :: st) E) : q_G X M Q ph σ pc l (.long y :: .long x :: st) E := by
  subst hp
  exact fun hE p e s m args below meth c H locs ls C hP hz h6 hT hS h => lv_lor C.1 C.2.1 d (k hE p e s m args below meth c H locs ls C hP hz h6 hT hS h)
theorem gq_lushr {x : Int64} {y : Int32} (d : decode M.2.1 pc = .ok (.lushr, 1)) (hp : pc + 1 = pc') (k : q_G X M Q ph σ pc' l (.long ((x.toUInt64 >>> (y.toInt64.toUInt64 &&& Int64.toUInt64 63)).toInt64) :: st) E) : q_G X M Q ph σ pc l (.int y :: .long x :: st) E := by
  subst hp
  exact fun hE p e s m args below meth c H locs ls C hP hz h6 hT hS h => lv_lushr C.1 C.2.1 d rfl (k hE p e s m args below meth c H locs ls C hP hz h6 hT hS h)
theorem gq_lshl {x : Int64} {y : Int32} (d : decode M.2.1 pc = .ok (.lshl, 1)) (hp : pc + 1 = pc') (k : q_G X M Q ph σ pc' l (.long (x <<< (y.toInt64 &&& 63)) :: st) E) : q_G X M Q ph σ pc l (.int y :: .long x :: st) E := by
  subst hp
  exact fun hE p e s m args below meth c H locs ls C hP hz h6 hT hS h => lv_lshl C.1 C.2.1 d rfl (k hE p e s m args below meth c H locs ls C hP hz h6 hT hS h)
theorem gq_lshr {x : Int64} {y : Int32} (d : decode M.2.1 pc = .ok (.lshr, 1)) (hp : pc + 1 = pc') (k : q_G X M Q ph σ pc' l (.long (x >>> (y.toInt64 &&& 63)) :: st) E) : q_G X M Q ph σ pc l (.int y :: .long x :: st) E := by
  subst hp
  exact fun hE p e s m args below meth c H locs ls C hP hz h6 hT hS h => lv_lshr C.1 C.2.1 d rfl (k hE p e s m args below meth c H locs ls C hP hz h6 hT hS h)
theorem gq_dup {v : Value} (d : decode M.2.1 pc = .ok (.dup, 1)) (hp : pc + 1 = pc') (hv : v.category = 1) (k : q_G X M Q ph σ pc' l (v :: v :: st) E) : q_G X M Q ph σ pc l (v :: st) E := by
  subst hp
  exact fun hE p e s m args below meth c H locs ls C hP hz h6 hT hS h => lv_dup C.1 C.2.1 d hv (k hE p e s m args below meth c H locs ls C hP hz h6 hT hS h)
theorem gq_pop {v : Value} (d : decode M.2.1 pc = .ok (.pop, 1)) (hp : pc + 1 = pc') (hv : v.category = 1) (k : q_G X M Q ph σ pc' l st E) : q_G X M Q ph σ pc l (v :: st) E := by
  subst hp
  exact fun hE p e s m args below meth c H locs ls C hP hz h6 hT hS h => lv_pop C.1 C.2.1 d hv (k hE p e s m args below meth c H locs ls C hP hz h6 hT hS h)
theorem gq_dup2 {v w : Value} (d : decode M.2.1 pc = .ok (.dup2, 1)) (hp : pc + 1 = pc') (hv : v.category = 1) (hw : w.category = 1) (k : q_G X M Q ph σ pc' l (v :: w :: v :: w :: st) E) : q_G X M Q ph σ pc l (v :: w :: st) E := by
  subst hp
  exact fun hE p e s m args below meth c H locs ls C hP hz h6 hT hS h => lv_dup2_11 C.1 C.2.1 d hv hw (k hE p e s m args below meth c H locs ls C hP hz h6 hT hS h)
theorem gq_dup_x1 {v w : Value} (d : decode M.2.1 pc = .ok (.dup_x1, 1)) (hp : pc + 1 = pc') (hv : v.category = 1) (hw : w.category = 1) (k : q_G X M Q ph σ pc' l (v :: w :: v :: st) E) : q_G X M Q ph σ pc l (v :: w :: st) E := by
  subst hp
  exact fun hE p e s m args below meth c H locs ls C hP hz h6 hT hS h => lv_dup_x1 C.1 C.2.1 d hv hw (k hE p e s m args below meth c H locs ls C hP hz h6 hT hS h)
theorem gq_goto {off : Int} (d : decode M.2.1 pc = .ok (.goto off, 3)) (hp : (pc : Int) + off = (pc' : Int)) (k : q_G X M Q ph σ pc' l st E) : q_G X M Q ph σ pc l st E :=
  fun hE p e s m args below meth c H locs ls C hP hz h6 hT hS h => lv_goto C.1 C.2.1 d hp (k hE p e s m args below meth c H locs ls C hP hz h6 hT hS h)
theorem gq_lconst {n : Fin 2} {v : Int64} (d : decode M.2.1 pc = .ok (.lconst n, 1)) (hp : pc + 1 = pc') (hv : Int64.ofNat (n : Nat) = v) (kk : q_G X M Q ph σ pc' l (.long v :: st) E) : q_G X M Q ph σ pc l st E := by
  subst hp
  exact fun hE p e s m args below meth c H locs ls C hP hz h6 hT hS h => lv_lconst C.1 C.2.1 d hv (kk hE p e s m args below meth c H locs ls C hP hz h6 hT hS h)
theorem gq_ladd {x y : Int64} (d : decode M.2.1 pc = .ok (.ladd, 1)) (hp : pc + 1 = pc') (kk : q_G X M Q ph σ pc' l (.long (x + y) :: st) E) : q_G X M Q ph σ pc l (.long y :: .long x :: st) E := by
  subst hp
  exact fun hE p e s m args below meth c H locs ls C hP hz h6 hT hS h => lv_ladd C.1 C.2.1 d (kk hE p e s m args below meth c H locs ls C hP hz h6 hT hS h)
theorem gq_lmul {x y : Int64} (d : decode M.2.1 pc = .ok (.lmul, 1)) (hp : pc + 1 = pc') (kk : q_G X M Q ph σ pc' l (.long (x * y) :: st) E) : q_G X M Q ph σ pc l (.long y :: .long x :: st) E := by
  subst hp
  exact fun hE p e s m args below meth c H locs ls C hP hz h6 hT hS h => lv_lmul C.1 C.2.1 d (kk hE p e s m args below meth c H locs ls C hP hz h6 hT hS h)
theorem gq_lcmp {x y : Int64} (d : decode M.2.1 pc = .ok (.lcmp, 1)) (hp : pc + 1 = pc') (kk : q_G X M Q ph σ pc' l (.int (lg_cmp x y) :: st) E) : q_G X M Q ph σ pc l (.long y :: .long x :: st) E := by
  subst hp
  exact fun hE p e s m args below meth c H locs ls C hP hz h6 hT hS h => W.lcmp C.1 C.2.1 d (kk hE p e s m args below meth c H locs ls C hP hz h6 hT hS h)
theorem gq_ldc {idx : Nat} {v : Int32} (d : decode M.2.1 pc = .ok (.ldc idx, 2)) (hp : pc + 2 = pc') (hl : Cond.constant M.1.cls idx v ∈ lw_gd) (kk : q_G X M Q ph σ pc' l (.int v :: st) E) : q_G X M Q ph σ pc l st E := by
  subst hp
  exact fun hE p e s m args below meth c H locs ls C hP hz h6 hT hS h => lv_ldc C.1 C.2.1 C.2.2.2.2.1 (C.2.2.2.2.2.1 _ hl) d (kk hE p e s m args below meth c H locs ls C hP hz h6 hT hS h)
theorem gq_lstore_n {k : Fin 4} {x : Int64} (d : decode M.2.1 pc = .ok (.lstore_n k, 1)) (hp : pc + 1 = pc') (hn : (k : Nat) + 1 < M.2.2.1) (hl : ((k : Nat), Value.long x) :: l.filter (fun q => !(q.1 == (k : Nat)) && (!(q.1 == (k : Nat) + 1) && !(q.1 + 1 == (k : Nat) && q.2.category == 2))) = l') (kk : q_G X M Q ph σ pc' l' st E) : q_G X M Q ph σ pc l (.long x :: st) E := by
  subst hp
  exact fun hE p e s m args below meth c H locs ls C hP hz h6 hT hS h => lv_lstore_n C.1 C.2.1 d rfl h hn hl (fun ls' h' => kk hE p e s m args below meth c H locs ls' C hP hz h6 hT hS h')
theorem gq_iremq {x y : Int32} (d : decode M.2.1 pc = .ok (.irem, 1)) (hp : pc + 1 = pc') (kk : q_G X M Q ph σ pc' l (.int (x - x / y * y) :: st) E) : q_G X M Q ph σ pc l (.int y :: .int x :: st) (if y = 0 then none else E) := gq_ite (fun _ => gq_none) (fun h => gq_irem d hp h kk)
section QB
variable {off : Int} {tgt : Nat} {x y : Int32}
theorem gq_if_eq (d : decode M.2.1 pc = .ok (.ifCond .eq off, 3)) (hp : pc + 3 = pc') (ht : (pc : Int) + off = (tgt : Int)) (k1 : x = 0 → q_G X M Q ph σ tgt l st E1) (k2 : ¬ x = 0 → q_G X M Q ph σ pc' l st E2) : q_G X M Q ph σ pc l (.int x :: st) (if x = 0 then E1 else E2) := by
  subst hp
  exact fun hE p e s m args below meth c H locs ls C hP hz h6 hT hS h => lv_if_eq C.1 C.2.1 d ht (fun hc => by have hE2 := hE; rw [if_pos hc] at hE2; rw [if_pos hc]; exact k1 hc hE2 p e s m args below meth c H locs ls C hP hz h6 hT hS h) (fun hc => by have hE2 := hE; rw [if_neg hc] at hE2; rw [if_neg hc]; exact k2 hc hE2 p e s m args below meth c H locs ls C hP hz h6 hT hS h)
theorem gq_if_ne (d : decode M.2.1 pc = .ok (.ifCond .ne off, 3)) (hp : pc + 3 = pc') (ht : (pc : Int) + off = (tgt : Int)) (k1 : x = 0 → q_G X M Q ph σ pc' l st E1) (k2 : ¬ x = 0 → q_G X M Q ph σ tgt l st E2) : q_G X M Q ph σ pc l (.int x :: st) (if x = 0 then E1 else E2) := by
  subst hp
  exact fun hE p e s m args below meth c H locs ls C hP hz h6 hT hS h => lv_if_ne C.1 C.2.1 d ht (fun hc => by have hE2 := hE; rw [if_neg hc] at hE2; rw [if_neg hc]; exact k2 hc hE2 p e s m args below meth c H locs ls C hP hz h6 hT hS h) (fun hc => by have hE2 := hE; rw [if_pos hc] at hE2; rw [if_pos hc]; exact k1 hc hE2 p e s m args below meth c H locs ls C hP hz h6 hT hS h)
theorem gq_if_lt (d : decode M.2.1 pc = .ok (.ifCond .lt off, 3)) (hp : pc + 3 = pc') (ht : (pc : Int) + off = (tgt : Int)) (k1 : x < 0 → q_G X M Q ph σ tgt l st E1) (k2 : ¬ x < 0 → q_G X M Q ph σ pc' l st E2) : q_G X M Q ph σ pc l (.int x :: st) (if x < 0 then E1 else E2) := by
  subst hp
  exact fun hE p e s m args below meth c H locs ls C hP hz h6 hT hS h => lv_if_lt C.1 C.2.1 d ht (fun hc => by have hE2 := hE; rw [if_pos hc] at hE2; rw [if_pos hc]; exact k1 hc hE2 p e s m args below meth c H locs ls C hP hz h6 hT hS h) (fun hc => by have hE2 := hE; rw [if_neg hc] at hE2; rw [if_neg hc]; exact k2 hc hE2 p e s m args below meth c H locs ls C hP hz h6 hT hS h)
theorem gq_if_ge (d : decode M.2.1 pc = .ok (.ifCond .ge off, 3)) (hp : pc + 3 = pc') (ht : (pc : Int) + off = (tgt : Int)) (k1 : 0 ≤ x → q_G X M Q ph σ tgt l st E1) (k2 : ¬ 0 ≤ x → q_G X M Q ph σ pc' l st E2) : q_G X M Q ph σ pc l (.int x :: st) (if 0 ≤ x then E1 else E2) := by
  subst hp
  exact fun hE p e s m args below meth c H locs ls C hP hz h6 hT hS h => lv_if_ge C.1 C.2.1 d ht (fun hc => by have hE2 := hE; rw [if_pos hc] at hE2; rw [if_pos hc]; exact k1 hc hE2 p e s m args below meth c H locs ls C hP hz h6 hT hS h) (fun hc => by have hE2 := hE; rw [if_neg hc] at hE2; rw [if_neg hc]; exact k2 hc hE2 p e s m args below meth c H locs ls C hP hz h6 hT hS h)
theorem gq_if_gt (d : decode M.2.1 pc = .ok (.ifCond .gt off, 3)) (hp : pc + 3 = pc') (ht : (pc : Int) + off = (tgt : Int)) (k1 : 0 < x → q_G X M Q ph σ tgt l st E1) (k2 : ¬ 0 < x → q_G X M Q ph σ pc' l st E2) : q_G X M Q ph σ pc l (.int x :: st) (if 0 < x then E1 else E2) := by
  subst hp
  exact fun hE p e s m args below meth c H locs ls C hP hz h6 hT hS h => lv_if_gt C.1 C.2.1 d ht (fun hc => by have hE2 := hE; rw [if_pos hc] at hE2; rw [if_pos hc]; exact k1 hc hE2 p e s m args below meth c H locs ls C hP hz h6 hT hS h) (fun hc => by have hE2 := hE; rw [if_neg hc] at hE2; rw [if_neg hc]; exact k2 hc hE2 p e s m args below meth c H locs ls C hP hz h6 hT hS h)
theorem gq_if_le (d : decode M.2.1 pc = .ok (.ifCond .le off, 3)) (hp : pc + 3 = pc') (ht : (pc : Int) + off = (tgt : Int)) (k1 : x ≤ 0 → q_G X M Q ph σ tgt l st E1) (k2 : ¬ x ≤ 0 → q_G X M Q ph σ pc' l st E2) : q_G X M Q ph σ pc l (.int x :: st) (if x ≤ 0 then E1 else E2) := by
  subst hp
  exact fun hE p e s m args below meth c H locs ls C hP hz h6 hT hS h => lv_if_le C.1 C.2.1 d ht (fun hc => by have hE2 := hE; rw [if_pos hc] at hE2; rw [if_pos hc]; exact k1 hc hE2 p e s m args below meth c H locs ls C hP hz h6 hT hS h) (fun hc => by have hE2 := hE; rw [if_neg hc] at hE2; rw [if_neg hc]; exact k2 hc hE2 p e s m args below meth c H locs ls C hP hz h6 hT hS h)
theorem gq_icmp_eq (d : decode M.2.1 pc = .ok (.if_icmp .eq off, 3)) (hp : pc + 3 = pc') (ht : (pc : Int) + off = (tgt : Int)) (k1 : x = y → q_G X M Q ph σ tgt l st E1) (k2 : ¬ x = y → q_G X M Q ph σ pc' l st E2) : q_G X M Q ph σ pc l (.int y :: .int x :: st) (if x = y then E1 else E2) := by
  subst hp
  exact fun hE p e s m args below meth c H locs ls C hP hz h6 hT hS h => lv_icmp_eq C.1 C.2.1 d ht (fun hc => by have hE2 := hE; rw [if_pos hc] at hE2; rw [if_pos hc]; exact k1 hc hE2 p e s m args below meth c H locs ls C hP hz h6 hT hS h) (fun hc => by have hE2 := hE; rw [if_neg hc] at hE2; rw [if_neg hc]; exact k2 hc hE2 p e s m args below meth c H locs ls C hP hz h6 hT hS h)
theorem gq_icmp_ne (d : decode M.2.1 pc = .ok (.if_icmp .ne off, 3)) (hp : pc + 3 = pc') (ht : (pc : Int) + off = (tgt : Int)) (k1 : x = y → q_G X M Q ph σ pc' l st E1) (k2 : ¬ x = y → q_G X M Q ph σ tgt l st E2) : q_G X M Q ph σ pc l (.int y :: .int x :: st) (if x = y then E1 else E2) := by
  subst hp
  exact fun hE p e s m args below meth c H locs ls C hP hz h6 hT hS h => lv_icmp_ne C.1 C.2.1 d ht (fun hc => by have hE2 := hE; rw [if_neg hc] at hE2; rw [if_neg hc]; exact k2 hc hE2 p e s m args below meth c H locs ls C hP hz h6 hT hS h) (fun hc => by have hE2 := hE; rw [if_pos hc] at hE2; rw [if_pos hc]; exact k1 hc hE2 p e s m args below meth c H locs ls C hP hz h6 hT hS h)
theorem gq_icmp_lt (d : decode M.2.1 pc = .ok (.if_icmp .lt off, 3)) (hp : pc + 3 = pc') (ht : (pc : Int) + off = (tgt : Int)) (k1 : x < y → q_G X M Q ph σ tgt l st E1) (k2 : ¬ x < y → q_G X M Q ph σ pc' l st E2) : q_G X M Q ph σ pc l (.int y :: .int x :: st) (if x < y then E1 else E2) := by
  subst hp
  exact fun hE p e s m args below meth c H locs ls C hP hz h6 hT hS h => lv_icmp_lt C.1 C.2.1 d ht (fun hc => by have hE2 := hE; rw [if_pos hc] at hE2; rw [if_pos hc]; exact k1 hc hE2 p e s m args below meth c H locs ls C hP hz h6 hT hS h) (fun hc => by have hE2 := hE; rw [if_neg hc] at hE2; rw [if_neg hc]; exact k2 hc hE2 p e s m args below meth c H locs ls C hP hz h6 hT hS h)
theorem gq_icmp_ge (d : decode M.2.1 pc = .ok (.if_icmp .ge off, 3)) (hp : pc + 3 = pc') (ht : (pc : Int) + off = (tgt : Int)) (k1 : y ≤ x → q_G X M Q ph σ tgt l st E1) (k2 : ¬ y ≤ x → q_G X M Q ph σ pc' l st E2) : q_G X M Q ph σ pc l (.int y :: .int x :: st) (if y ≤ x then E1 else E2) := by
  subst hp
  exact fun hE p e s m args below meth c H locs ls C hP hz h6 hT hS h => lv_icmp_ge C.1 C.2.1 d ht (fun hc => by have hE2 := hE; rw [if_pos hc] at hE2; rw [if_pos hc]; exact k1 hc hE2 p e s m args below meth c H locs ls C hP hz h6 hT hS h) (fun hc => by have hE2 := hE; rw [if_neg hc] at hE2; rw [if_neg hc]; exact k2 hc hE2 p e s m args below meth c H locs ls C hP hz h6 hT hS h)
theorem gq_icmp_gt (d : decode M.2.1 pc = .ok (.if_icmp .gt off, 3)) (hp : pc + 3 = pc') (ht : (pc : Int) + off = (tgt : Int)) (k1 : y < x → q_G X M Q ph σ tgt l st E1) (k2 : ¬ y < x → q_G X M Q ph σ pc' l st E2) : q_G X M Q ph σ pc l (.int y :: .int x :: st) (if y < x then E1 else E2) := by
  subst hp
  exact fun hE p e s m args below meth c H locs ls C hP hz h6 hT hS h => lv_icmp_gt C.1 C.2.1 d ht (fun hc => by have hE2 := hE; rw [if_pos hc] at hE2; rw [if_pos hc]; exact k1 hc hE2 p e s m args below meth c H locs ls C hP hz h6 hT hS h) (fun hc => by have hE2 := hE; rw [if_neg hc] at hE2; rw [if_neg hc]; exact k2 hc hE2 p e s m args below meth c H locs ls C hP hz h6 hT hS h)
theorem gq_icmp_le (d : decode M.2.1 pc = .ok (.if_icmp .le off, 3)) (hp : pc + 3 = pc') (ht : (pc : Int) + off = (tgt : Int)) (k1 : x ≤ y → q_G X M Q ph σ tgt l st E1) (k2 : ¬ x ≤ y → q_G X M Q ph σ pc' l st E2) : q_G X M Q ph σ pc l (.int y :: .int x :: st) (if x ≤ y then E1 else E2) := by
  subst hp
  exact fun hE p e s m args below meth c H locs ls C hP hz h6 hT hS h => lv_icmp_le C.1 C.2.1 d ht (fun hc => by have hE2 := hE; rw [if_pos hc] at hE2; rw [if_pos hc]; exact k1 hc hE2 p e s m args below meth c H locs ls C hP hz h6 hT hS h) (fun hc => by have hE2 := hE; rw [if_neg hc] at hE2; rw [if_neg hc]; exact k2 hc hE2 p e s m args below meth c H locs ls C hP hz h6 hT hS h)
end QB
theorem gq_tswIn {dflt lo hi off : Int} {offs : Array Int} {len : Nat} {x k : Int32} {tgt : Nat} (hx : x = k) (d : decode M.2.1 pc = .ok (.tableswitch dflt lo hi offs, len)) (h1 : ¬ k.toInt < lo) (h2 : ¬ hi < k.toInt) (ho : offs[(k.toInt - lo).toNat]? = some off) (ht : (pc : Int) + off = (tgt : Int)) (kk : q_G X M Q ph σ tgt l st E) : q_G X M Q ph σ pc l (.int x :: st) E := by
  subst hx
  exact fun hE p e s m args below meth c H locs ls C hP hz h6 hT hS h => lv_tableIn C.1 C.2.1 d h1 h2 ho ht (kk hE p e s m args below meth c H locs ls C hP hz h6 hT hS h)
theorem gq_tswLo {dflt lo hi : Int} {offs : Array Int} {len : Nat} {x k : Int32} {tgt : Nat} (hx : x < k) (d : decode M.2.1 pc = .ok (.tableswitch dflt lo hi offs, len)) (h1 : k.toInt = lo) (ht : (pc : Int) + dflt = (tgt : Int)) (kk : q_G X M Q ph σ tgt l st E) : q_G X M Q ph σ pc l (.int x :: st) E := by
  have h3 : x.toInt < lo := by rw [← h1]; exact Int32.lt_iff_toInt_lt.mp hx
  exact fun hE p e s m args below meth c H locs ls C hP hz h6 hT hS h => lv_tableOut C.1 C.2.1 d (Or.inl h3) ht (kk hE p e s m args below meth c H locs ls C hP hz h6 hT hS h)
theorem gq_tswHi {dflt lo hi : Int} {offs : Array Int} {len : Nat} {x k : Int32} {tgt : Nat} (hx : k < x) (d : decode M.2.1 pc = .ok (.tableswitch dflt lo hi offs, len)) (h1 : k.toInt = hi) (ht : (pc : Int) + dflt = (tgt : Int)) (kk : q_G X M Q ph σ tgt l st E) : q_G X M Q ph σ pc l (.int x :: st) E := by
  have h3 : hi < x.toInt := by rw [← h1]; exact Int32.lt_iff_toInt_lt.mp hx
  exact fun hE p e s m args below meth c H locs ls C hP hz h6 hT hS h => lv_tableOut C.1 C.2.1 d (Or.inr h3) ht (kk hE p e s m args below meth c H locs ls C hP hz h6 hT hS h)
end QR
end
section
/-! THE LAYER's RULES: fields, arrays, statics, new cells -/
def q_FL (own : String) (idx ci : Nat) (C : String) (T : u_T) (N k : Nat) : Prop := Cond.fieldLink own idx (T k).1 (T k).2.1 (T k).2.2.1 ∈ lw_gd ∧ k < N ∧ vwCl[ci]? = some (C, T, N) ∧ ∀ w ∈ u_ws C T N, w ∈ lw_gd
def q_PL (C : String) (T : u_T) (N k : Nat) (ty : FieldType) (fin : Bool) : Prop := (T k).2.2.2 = fin ∧ parseFieldDescriptor (T k).2.2.1 = some ty ∧ (∃ ty0 : Nat → FieldType, ∀ k, k < N → parseFieldDescriptor (T k).2.2.1 = some (ty0 k)) ∧ ∀ a, a < N → ∀ b, b < N → a ≠ b → (T a).2.1 ≠ (T b).2.1
def q_RA (X : q_Cx) (Λ : q_Lay) (a n : Nat) : Prop := Λ[a]? = some (.inl (false, n)) ∨ (a = 105 ∧ n = xn X)
abbrev q_oob (i : Int32) (n : Nat) : Prop := i < 0 ∨ n ≤ i.toNatClampNeg
section QS
variable {p : Program} {l : Launch} {e : Env} {R : Room} {s : State} {m : MethodId} {args : Array Value} {below : List Frame} {meth : Method} {c : Code} {H : Heap} {locs : List Loc} {cells slots : Nat} {Q : State → Prop}
variable {cc : ByteArray} {pc : Nat} {ls : Array Slot} {rest : List Value} {D : va_G} {cl : List vw_C} {A : Nat → Prop} {a : Nat} {ws : va_W} {tys : List (ClassId × FieldType)} {H0 : Heap}
/-- va_put, va_putF, va_iast, va_zast with the heap's size told -/
theorem q_put (hexec : p.tables.exec = Jvm.exec) (hb : c.code = cc) {own C : String} {T : u_T} {N ci index : Nat} {Ts : List Cond} (hts : ∀ w ∈ Ts, w.before args s = true) (hin : ∀ w ∈ u_ws C T N, w ∈ Ts) (ty0 : Nat → FieldType) (hty : ∀ k, k < N → parseFieldDescriptor (T k).2.2.1 = some (ty0 k)) (hnm : ∀ a, a < N → ∀ b, b < N → a ≠ b → (T a).2.1 ≠ (T b).2.1) (hown : s.vm.findClass own = some m.cls) (hK : va_K D cl tys s) (hP : va_P D cl ws H) (hD : va_D A ws) (hS0 : va_S A H0 H locs) (q0 : Nat) {fs : List Value} (he : ws[q0]? = some (a, .inr (ci, fs))) (hc : cl[ci]? = some (C, T, N)) (k : Nat) (hk : k < N) (hlink : (Cond.fieldLink own index (T k).1 (T k).2.1 (T k).2.2.1).before args s = true) (hfin : (T k).2.2.2 = false) {ty : FieldType} {v : Value} (hd : parseFieldDescriptor (T k).2.2.1 = some ty) (hn : narrow ty v = v) (hfit : fits ty v = true) (hl : k < fs.length)
    (hdg : decode cc pc = .ok (.putfield index, 3)) (kk : ∀ (H1 : Heap) (locs1 : List Loc), H1.size = H.size → va_P D cl (ws.set q0 (a, .inr (ci, fs.set k v))) H1 → va_S A H0 H1 locs1 → W p l e R s m args below meth c H1 locs1 cells slots Q (F0 m (pc + 3) ls rest)) : W p l e R s m args below meth c H locs cells slots Q (F0 m pc ls (v :: .ref a :: rest)) := by
  have hap := va_apart (own := own) hts hin ty0 hty hnm hK hc
  obtain ⟨r, h1, cell, q1, q2, q3, q4⟩ := hP q0 _ he
  have hr : r = (C, T, N) := Option.some.inj (h1.symm.trans hc)
  subst hr
  obtain ⟨hS, hfc, kC, hkC, hkind⟩ := hK.1 ci _ hc
  obtain ⟨cf, kf, fi, f, hi, hsl⟩ := hS k hk
  have hlay := hts _ (hin _ (u_in_lay hk))
  unfold u_lay at hlay
  rw [if_neg (by rw [hfin]; decide)] at hlay
  have hst := (u_facts hfc hkC (u_lays hts hin hk) hi).1
  have h6 := u_store hfc hkC hkind hlay hi hd hn hfit
  refine W.putK hexec hb (f := f) ⟨hown, hlink, ⟨_, _, _, hi⟩, hst⟩ (by rw [q2]; exact h6) q1 q3 (by rw [hsl]; exact k2_hasslot (q4 k hk)) rfl rfl hdg fun H' e1 e2 e3 => ?_
  rw [hsl] at e1 ⊢
  exact kk H' _ e2 (hP.set hD he ⟨_, hc, t_OB.to (V := updV (vp_V fs) k v) ⟨_, e1, q2, q3, t_set q4 hap hk v⟩ (fun j _ => vp_updV_set hl v j)⟩ e3) (hS0.put e2 e3 (hD.2 q0 _ he))
theorem q_putF (hexec : p.tables.exec = Jvm.exec) (hb : c.code = cc) {own C : String} {T : u_T} {N ci index : Nat} {Ts : List Cond} (hts : ∀ w ∈ Ts, w.before args s = true) (hin : ∀ w ∈ u_ws C T N, w ∈ Ts) (ty0 : Nat → FieldType) (hty : ∀ k, k < N → parseFieldDescriptor (T k).2.2.1 = some (ty0 k)) (hnm : ∀ a, a < N → ∀ b, b < N → a ≠ b → (T a).2.1 ≠ (T b).2.1) (hown : s.vm.findClass own = some m.cls) (hK : va_K D cl tys s) (hP : va_P D cl ws H) (hD : va_D A ws) (hS0 : va_S A H0 H locs) (q0 : Nat) {fs : List Value} (he : ws[q0]? = some (a, .inr (ci, fs))) (hc : cl[ci]? = some (C, T, N)) (k : Nat) (hk : k < N) (hlink : (Cond.fieldLink own index (T k).1 (T k).2.1 (T k).2.2.1).before args s = true) (hfin : (T k).2.2.2 = true) (hin2 : meth.name = "<init>") (hdecl : (T k).1 = own) {ty : FieldType} {v : Value} (hd : parseFieldDescriptor (T k).2.2.1 = some ty) (hn : narrow ty v = v) (hfit : fits ty v = true) (hl : k < fs.length)
    (hdg : decode cc pc = .ok (.putfield index, 3)) (kk : ∀ (H1 : Heap) (locs1 : List Loc), H1.size = H.size → va_P D cl (ws.set q0 (a, .inr (ci, fs.set k v))) H1 → va_S A H0 H1 locs1 → W p l e R s m args below meth c H1 locs1 cells slots Q (F0 m (pc + 3) ls rest)) : W p l e R s m args below meth c H locs cells slots Q (F0 m pc ls (v :: .ref a :: rest)) := by
  have hap := va_apart (own := own) hts hin ty0 hty hnm hK hc
  obtain ⟨r, h1, cell, q1, q2, q3, q4⟩ := hP q0 _ he
  have hr : r = (C, T, N) := Option.some.inj (h1.symm.trans hc)
  subst hr
  obtain ⟨hS, hfc, kC, hkC, hkind⟩ := hK.1 ci _ hc
  obtain ⟨cf, kf, fi, f, hi, hsl⟩ := hS k hk
  have hlay := hts _ (hin _ (u_in_lay hk))
  unfold u_lay at hlay
  rw [if_pos hfin] at hlay
  have hst := (u_facts hfc hkC (u_lays hts hin hk) hi).1
  have hcf : m.cls = cf := by
    obtain ⟨_, _, c', _, _, _, -, -, hf', -, -, -, hown2, -⟩ := Cond.laysFinal_spec hlay
    have e1 : c' = cf := by have := hi.symm.trans hf'; simp at this; exact this.1.symm
    rw [hdecl] at hown2
    rw [← e1]; exact Option.some.inj (hown.symm.trans hown2)
  have h6 := u_fits hfc hkC hkind (Or.inr hlay) hi hd hn hfit
  refine W.putFinK hexec hb hown hlink hi hst hcf hin2 (by rw [q2]; exact h6) q1 q3 (by rw [hsl]; exact k2_hasslot (q4 k hk)) rfl rfl hdg fun H' e1 e2 e3 => ?_
  rw [hsl] at e1 ⊢
  exact kk H' _ e2 (hP.set hD he ⟨_, hc, t_OB.to (V := updV (vp_V fs) k v) ⟨_, e1, q2, q3, t_set q4 hap hk v⟩ (fun j _ => vp_updV_set hl v j)⟩ e3) (hS0.put e2 e3 (hD.2 q0 _ he))
theorem q_iast (hexec : p.tables.exec = Jvm.exec) (hb : c.code = cc) (hK : va_K D cl tys s) (hP : va_P D cl ws H) (hD : va_D A ws) (hS : va_S A H0 H locs) (q0 t0 : Nat) {cA : ClassId} {n : Nat} {f : Nat → Int32} (ha : ws[q0]? = some (a, .inl (cA, n, .inl f))) (ht : tys[t0]? = some (cA, .int)) {i : Int32} {x : Int32} (hin : vp_in i n) (hdg : decode cc pc = .ok (.iastore, 1))
    (kk : ∀ (H1 : Heap) (locs1 : List Loc), H1.size = H.size → va_P D cl (ws.set q0 (a, .inl (cA, n, .inl (upd f i.toNatClampNeg x)))) H1 → va_S A H0 H1 locs1 → W p l e R s m args below meth c H1 locs1 cells slots Q (F0 m (pc + 1) ls rest)) : W p l e R s m args below meth c H locs cells slots Q (F0 m pc ls (.int x :: .int i :: .ref a :: rest)) := by
  refine W.iast hexec hb (hP q0 _ ha) ((hK.2 t0 _ ht).1 n (fun j => .int (f j))) (fun q => by cases q) (by show ¬ (i < 0 ∨ (arrV _ _ _).slots.size ≤ _); rw [arrV_size]; exact hin) rfl rfl hdg fun H1 e z oq => ?_
  refine kk H1 _ z (hP.set hD ha ?_ oq) (hS.put z oq (hD.2 q0 _ ha))
  show H1[a]? = some (vp_cell _ _)
  rw [e]
  rw [vp_cell_i, vp_cell_i, arrV_store]
  congr 2
  funext q
  by_cases hq : q = i.toNatClampNeg
  · subst hq
    simp [updV, upd]
  · simp [updV, upd, hq]
theorem q_last (hexec : p.tables.exec = Jvm.exec) (hb : c.code = cc) (hK : va_K D cl tys s) (hP : va_P D cl ws H) (hD : va_D A ws) (hS : va_S A H0 H locs) (q0 t0 : Nat) {cA : ClassId} {n : Nat} {f : Nat → Int64} (ha : ws[q0]? = some (a, .inl (cA, n, .inr (.inl f)))) (ht : tys[t0]? = some (cA, .long)) {i : Int32} {x : Int64} (hin : vp_in i n) (hdg : decode cc pc = .ok (.lastore, 1))
    (kk : ∀ (H1 : Heap) (locs1 : List Loc), H1.size = H.size → va_P D cl (ws.set q0 (a, .inl (cA, n, .inr (.inl (vp_updL f i.toNatClampNeg x))))) H1 → va_S A H0 H1 locs1 → W p l e R s m args below meth c H1 locs1 cells slots Q (F0 m (pc + 1) ls rest)) : W p l e R s m args below meth c H locs cells slots Q (F0 m pc ls (.long x :: .int i :: .ref a :: rest)) := by
  refine W.last hexec hb (hP q0 _ ha) ((hK.2 t0 _ ht).1 n (fun j => .long (f j))) (fun q => by cases q) (by show ¬ (i < 0 ∨ (arrV _ _ _).slots.size ≤ _); rw [arrV_size]; exact hin) rfl rfl hdg fun H1 e z oq => ?_
  refine kk H1 _ z (hP.set hD ha ?_ oq) (hS.put z oq (hD.2 q0 _ ha))
  show H1[a]? = some (vp_cell _ _)
  rw [e]
  rw [vp_cell_l, vp_cell_l, arrV_store]
  congr 2
  funext q
  by_cases hq : q = i.toNatClampNeg
  · subst hq
    simp [updV, vp_updL]
  · simp [updV, vp_updL, hq]
end QS
section QH
variable {X : q_Cx} {M : q_Mt} {Q : q_Fin} {ph : q_Lay × Nat × Nat} {σ : Sg} {pc pc' : Nat} {l l' : List (Nat × Value)} {st rest : List Value} {E E1 E2 : Rs}
variable {idx ci N k o : Nat} {C : String} {T : u_T} {fs : List (Option (Option Nat))}
theorem gq_geti (d : decode M.2.1 pc = .ok (.getfield idx, 3)) (hp : pc + 3 = pc') (f : q_FL M.1.cls idx ci C T N k) (ho : ph.1[o]? = some (.inr (ci, fs))) (hf : fs[k]? = some none) (kk : q_G X M Q ph σ pc' l (.int (σ o k) :: st) E) : q_G X M Q ph σ pc l (.ref (xa X o) :: st) E := by
  subst hp
  obtain ⟨f1, f2, f3, f4⟩ := f
  intro hE p e s m args below meth c H locs ls V hP hz h6 hT hS h
  exact va_get V.1 V.2.1 V.2.2.2.2.2.1 f4 V.2.2.2.2.1 V.2.2.2.2.2.2.2.2.1 hP o (q_Wget ho) f3 k f2 (V.2.2.2.2.2.1 _ f1) (fun _ h9 => h9) (v := .int (σ o k)) (by simp [hf, q_fv]) d (kk hE p e s m args below meth c H locs ls V hP hz h6 hT hS h)
theorem gq_getr {t : Nat} (d : decode M.2.1 pc = .ok (.getfield idx, 3)) (hp : pc + 3 = pc') (f : q_FL M.1.cls idx ci C T N k) (ho : ph.1[o]? = some (.inr (ci, fs))) (hf : fs[k]? = some (some (some t))) (kk : q_G X M Q ph σ pc' l (.ref (xa X t) :: st) E) : q_G X M Q ph σ pc l (.ref (xa X o) :: st) E := by
  subst hp
  obtain ⟨f1, f2, f3, f4⟩ := f
  intro hE p e s m args below meth c H locs ls V hP hz h6 hT hS h
  exact va_get V.1 V.2.1 V.2.2.2.2.2.1 f4 V.2.2.2.2.1 V.2.2.2.2.2.2.2.2.1 hP o (q_Wget ho) f3 k f2 (V.2.2.2.2.2.1 _ f1) (fun _ h9 => h9) (v := .ref (xa X t)) (by simp [hf, q_fv]) d (kk hE p e s m args below meth c H locs ls V hP hz h6 hT hS h)
theorem gq_puti {ty : FieldType} {v : Int32} (d : decode M.2.1 pc = .ok (.putfield idx, 3)) (hp : pc + 3 = pc') (f : q_FL M.1.cls idx ci C T N k) (g : q_PL C T N k ty false) (ho : ph.1[o]? = some (.inr (ci, fs))) (hf : fs[k]? = some none) (hn : narrow ty (.int v) = .int v) (hfit : fits ty (.int v) = true) (kk : q_G X M Q ph (q_wr σ o k v) pc' l st E) : q_G X M Q ph σ pc l (.int v :: .ref (xa X o) :: st) E := by
  subst hp
  obtain ⟨f1, f2, f3, f4⟩ := f
  obtain ⟨g1, g2, ⟨ty0, g3⟩, g4⟩ := g
  intro hE p e s m args below meth c H locs ls V hP hz h6 hT hS h
  have hol := (List.getElem?_eq_some_iff.mp ho).1
  have hkl := (List.getElem?_eq_some_iff.mp hf).1
  refine q_put V.1 V.2.1 V.2.2.2.2.2.1 f4 ty0 g3 g4 V.2.2.2.2.1 V.2.2.2.2.2.2.2.2.1 hP (q_D V.2.2.2.2.2.2.2.2.2.2 h6) hS o (q_Wget ho) f3 k f2 (V.2.2.2.2.2.1 _ f1) g1 g2 hn hfit (by simpa using hkl) d (fun H1 locs1 hz1 hP1 hS1 => ?_)
  rw [q_Wset (σ' := q_wr σ o k v) (q_set_self ho) hol (q_fset hf) (fun o' h => q_wr_ne h)] at hP1
  exact kk hE p e s m args below meth c H1 locs1 ls V hP1 (hz1.trans hz) h6 (q_STw hT (fun o' h => q_wr_ne (by omega))) hS1 h
theorem gq_putr {ty : FieldType} {t : Nat} {r : Option (Option Nat)} {Λ : q_Lay} {cs ns : Nat} (d : decode M.2.1 pc = .ok (.putfield idx, 3)) (hp : pc + 3 = pc') (f : q_FL M.1.cls idx ci C T N k) (g : q_PL C T N k ty true) (hi : M.1.name = "<init>") (hd : (T k).1 = M.1.cls) (ho : Λ[o]? = some (.inr (ci, fs))) (hf : fs[k]? = some r) (hn : narrow ty (.ref (xa X t)) = .ref (xa X t)) (hfit : fits ty (.ref (xa X t)) = true) {Λ' : q_Lay} (hΛ : Λ.set o (.inr (ci, fs.set k (some (some t)))) = Λ') (kk : q_G X M Q (Λ', cs, ns) σ pc' l st E) : q_G X M Q (Λ, cs, ns) σ pc l (.ref (xa X t) :: .ref (xa X o) :: st) E := by
  subst hp
  subst hΛ
  obtain ⟨f1, f2, f3, f4⟩ := f
  obtain ⟨g1, g2, ⟨ty0, g3⟩, g4⟩ := g
  intro hE p e s m args below meth c H locs ls V hP hz h6 hT hS h
  have hol := (List.getElem?_eq_some_iff.mp ho).1
  have hkl := (List.getElem?_eq_some_iff.mp hf).1
  refine q_putF V.1 V.2.1 V.2.2.2.2.2.1 f4 ty0 g3 g4 V.2.2.2.2.1 V.2.2.2.2.2.2.2.2.1 hP (q_D V.2.2.2.2.2.2.2.2.2.2 h6) hS o (q_Wget ho) f3 k f2 (V.2.2.2.2.2.1 _ f1) g1 (V.2.2.2.2.2.2.2.1 hi) hd g2 hn hfit (by simpa using hkl) d (fun H1 locs1 hz1 hP1 hS1 => ?_)
  rw [q_Wset (σ' := σ) rfl hol (q_rset hkl) (fun o' h => rfl)] at hP1
  exact kk hE p e s m args below meth c H1 locs1 ls V hP1 (by rw [hz1, hz]; simp) (by simpa using h6) hT hS1 h
/-- a final int field in a constructor: none here; a boolean field: by gq_puti -/
theorem gq_iald {a n : Nat} {i : Int32} (d : decode M.2.1 pc = .ok (.iaload, 1)) (hp : pc + 1 = pc') (ha : q_RA X ph.1 a n) (kk : ¬ q_oob i n → q_G X M Q ph σ pc' l (.int (σ a i.toNatClampNeg) :: st) E) : q_G X M Q ph σ pc l (.int i :: .ref (xa X a) :: st) (if q_oob i n then none else E) := by
  subst hp
  refine gq_ite (fun _ => gq_none) (fun hb => ?_)
  intro hE p e s m args below meth c H locs ls V hP hz h6 hT hS h
  have k2 := kk hb hE p e s m args below meth c H locs ls V hP hz h6 hT hS h
  rcases ha with ha | ⟨rfl, rfl⟩
  · exact va_iald V.1 V.2.1 V.2.2.2.2.2.2.2.2.1 hP a 0 (q_Wget ha) rfl hb d k2
  · exact va_ti V.1 V.2.1 hT hS hb rfl d k2
theorem gq_lald {a n : Nat} {i : Int32} (d : decode M.2.1 pc = .ok (.laload, 1)) (hp : pc + 1 = pc') (ha : ph.1[a]? = some (.inl (true, n))) (kk : ¬ q_oob i n → q_G X M Q ph σ pc' l (.long (q_lg σ a i.toNatClampNeg) :: st) E) : q_G X M Q ph σ pc l (.int i :: .ref (xa X a) :: st) (if q_oob i n then none else E) := by
  subst hp
  refine gq_ite (fun _ => gq_none) (fun hb => ?_)
  intro hE p e s m args below meth c H locs ls V hP hz h6 hT hS h
  exact va_lald V.1 V.2.1 V.2.2.2.2.2.2.2.2.1 hP a 1 (q_Wget ha) rfl hb d (kk hb hE p e s m args below meth c H locs ls V hP hz h6 hT hS h)
theorem gq_alen {a n : Nat} {v : Int32} (d : decode M.2.1 pc = .ok (.arraylength, 1)) (hp : pc + 1 = pc') (ha : q_RA X ph.1 a n) (hv : Int32.ofNat n = v) (kk : q_G X M Q ph σ pc' l (.int v :: st) E) : q_G X M Q ph σ pc l (.ref (xa X a) :: st) E := by
  subst hp
  subst hv
  intro hE p e s m args below meth c H locs ls V hP hz h6 hT hS h
  have k2 := kk hE p e s m args below meth c H locs ls V hP hz h6 hT hS h
  rcases ha with ha | ⟨rfl, rfl⟩
  · exact va_alen V.1 V.2.1 V.2.2.2.2.2.2.2.2.1 hP a 0 (q_Wget ha) rfl rfl d k2
  · exact va_tlen V.1 V.2.1 hT hS rfl d k2
theorem gq_iast {a n : Nat} {i x : Int32} (d : decode M.2.1 pc = .ok (.iastore, 1)) (hp : pc + 1 = pc') (ha : ph.1[a]? = some (.inl (false, n))) (kk : ¬ q_oob i n → q_G X M Q ph (q_wr σ a i.toNatClampNeg x) pc' l st E) : q_G X M Q ph σ pc l (.int x :: .int i :: .ref (xa X a) :: st) (if q_oob i n then none else E) := by
  subst hp
  refine gq_ite (fun _ => gq_none) (fun hb => ?_)
  intro hE p e s m args below meth c H locs ls V hP hz h6 hT hS h
  have hol := (List.getElem?_eq_some_iff.mp ha).1
  refine q_iast V.1 V.2.1 V.2.2.2.2.2.2.2.2.1 hP (q_D V.2.2.2.2.2.2.2.2.2.2 h6) hS a 0 (q_Wget ha) rfl hb d (fun H1 locs1 hz1 hP1 hS1 => ?_)
  rw [q_Wset (σ' := q_wr σ a i.toNatClampNeg x) (q_set_self ha) hol q_aset (fun o' h => q_wr_ne h)] at hP1
  exact kk hb hE p e s m args below meth c H1 locs1 ls V hP1 (hz1.trans hz) h6 (q_STw hT (fun o' h => q_wr_ne (by omega))) hS1 h
theorem gq_last {a n : Nat} {i : Int32} {x : Int64} (d : decode M.2.1 pc = .ok (.lastore, 1)) (hp : pc + 1 = pc') (ha : ph.1[a]? = some (.inl (true, n))) (kk : ¬ q_oob i n → q_G X M Q ph (q_wrl σ a i.toNatClampNeg x) pc' l st E) : q_G X M Q ph σ pc l (.long x :: .int i :: .ref (xa X a) :: st) (if q_oob i n then none else E) := by
  subst hp
  refine gq_ite (fun _ => gq_none) (fun hb => ?_)
  intro hE p e s m args below meth c H locs ls V hP hz h6 hT hS h
  have hol := (List.getElem?_eq_some_iff.mp ha).1
  refine q_last V.1 V.2.1 V.2.2.2.2.2.2.2.2.1 hP (q_D V.2.2.2.2.2.2.2.2.2.2 h6) hS a 1 (q_Wget ha) rfl hb d (fun H1 locs1 hz1 hP1 hS1 => ?_)
  rw [q_Wset (σ' := q_wrl σ a i.toNatClampNeg x) (q_set_self ha) hol q_lset (fun o' h => q_wrl_ne h)] at hP1
  exact kk hb hE p e s m args below meth c H1 locs1 ls V hP1 (hz1.trans hz) h6 (q_STw hT (fun o' h => q_wrl_ne (by omega))) hS1 h
theorem gq_ldc2 {v : Int64} (d : decode M.2.1 pc = .ok (.ldc2_w idx, 3)) (hp : pc + 3 = pc') (hl : Cond.constantLong M.1.cls idx v ∈ lw_gd) (kk : q_G X M Q ph σ pc' l (.long v :: st) E) : q_G X M Q ph σ pc l st E := by
  subst hp
  intro hE p e s m args below meth c H locs ls V hP hz h6 hT hS h
  exact lv_ldc2 V.1 V.2.1 V.2.2.2.2.1 (V.2.2.2.2.2.1 _ hl) d (kk hE p e s m args below meth c H locs ls V hP hz h6 hT hS h)
end QH
end
section
/-! THE LAYER's RULES: calls, ends, new cells, a method's contract -/
theorem q_good : lw_gd.all goodWord = true := List.all_eq_true.mpr (fun w hw => (List.mem_filter.mp hw).2)
theorem q_gi {ws : List Cond} (h : ∀ w ∈ ws, w ∈ lw_gd) : GoodIn lw_gd ws := fun w hw => ⟨h w hw, good_of_word (List.all_eq_true.mp q_good w (h w hw))⟩
def q_MF (M : q_Mt) (n : Nat) : Prop := plainName M.1.cls = true ∧ (M.1.cls ≠ "java/lang/invoke/MethodHandle" ∧ M.1.cls ≠ "java/lang/invoke/VarHandle" ∧ (parseMethodDescriptor M.1.desc).map (fun d => d.parameters.length) = some n) ∧ Cond.initialized M.1.cls ∈ lw_gd ∧ Cond.code M.1 M.2.1 M.2.2.1 M.2.2.2.1 ∈ lw_gd
theorem q_wsin {M : q_Mt} {n : Nat} (h : q_MF M n) : ∀ w ∈ q_ws M, w ∈ lw_gd := fun w hw => by
  rcases List.mem_cons.mp hw with rfl | h1
  · exact h.2.2.2
  · exact h1
def q_LV (own : String) (idx : Nat) (y : MethodName) : Prop := Cond.methodLink own idx y ∈ lw_gd ∧ Cond.instanceMethod y ∈ lw_gd ∧ Cond.selects y.cls y y ∈ lw_gd
def q_LS (own : String) (idx : Nat) (y : MethodName) : Prop := Cond.methodLink own idx y ∈ lw_gd ∧ Cond.static y ∈ lw_gd
def q_LSN (own : String) (idx : Nat) (y : MethodName) : Prop := (own, idx, y) ∈ q_nests ∧ Cond.static y ∈ lw_gd
def q_LI (own : String) (idx : Nat) (y : MethodName) : Prop := Cond.methodLink own idx y ∈ lw_gd ∧ Cond.instanceMethod y ∈ lw_gd ∧ y.name = "<init>"
def q_LIN (own : String) (idx : Nat) (y : MethodName) : Prop := (own, idx, y) ∈ q_nests ∧ Cond.instanceMethod y ∈ lw_gd ∧ y.name = "<init>"
theorem q_Tback {X : q_Cx} {ty : FieldType} {a N : Nat} {f f' : Nat → Value} {s t : State} {H1 : Heap} {locs : List Loc} (h0 : va_T ty a N f (q_A X) s s.heap) (h1 : va_T ty a N f' (q_A X) t H1) (hS : va_S (q_A X) s.heap H1 locs) : va_T ty a N f' (q_A X) s s.heap := by
  obtain ⟨c0, a1, a2, a3, a4, a5, a6, a7⟩ := h0
  obtain ⟨c1, b1, b2, b3, b4, b5, b6, b7⟩ := h1
  rw [hS.2.1 a (Array.getElem?_eq_some_iff.mp a1).1 a7, a1] at b1
  cases b1
  exact ⟨c0, a1, a2, a3, a4, a5, b6, a7⟩
def q_isI (t : Option FieldType) : Bool := match t with
  | none => false
  | some .long => false
  | some _ => true
section QC
variable {X : q_Cx} {M Mc : q_Mt} {Q : q_Fin} {σ : Sg} {pc pc' cs ns cs' ns' idx n : Nat} {Λ Λe : q_Lay} {l : List (Nat × Value)} {st rest As : List Value} {Ec : Rs} {E' : Sg → Int32 → Rs}
/-- what a call site owes: that the callee's run is one -/
def q_Site (X : q_Cx) (M Mc : q_Mt) (Λ Λe : q_Lay) (cs ns : Nat) (σ : Sg) (pc : Nat) (l : List (Nat × Value)) (st rest : List Value) (Ec : Rs) : Prop :=
  (∃ x, Ec = some x) → ∀ (p : Program) (e : Env) (s : State) (m : MethodId) (args : Array Value) (below : List Frame) (meth : Method) (c : Code) (H : Heap) (locs : List Loc) (ls : Array Slot), q_MC X M p s m args meth c →
    va_P (xD X) vwCl (q_W X Λ σ) H → H.size = xb X + Λ.length → Λ.length ≤ 64 → q_ST X σ s s.heap → va_S (q_A X) s.heap H locs → lv_has ls M.2.2.1 l →
    va_Run p (xl X) e M.2.2.2.2 s m args below meth c H locs cs ns Mc.2.2.2.2.cells Mc.2.2.2.2.slots (F0 m pc ls st) rest (q_QE X Λe Mc Ec #[]) (q_A X)
theorem gq_call (hr : q_Site X M Mc Λ Λe cs ns σ pc l st rest Ec) (hc : cs + Mc.2.2.2.2.cells = cs') (hn : ns + Mc.2.2.2.2.slots = ns') (hp : pc + 3 = pc')
    (kk : ∀ (σ' : Sg) (r : Int32), Ec = some (σ', r) → q_G X M Q (Λe, cs', ns') σ' pc' l ((q_rv Mc.2.2.2.1 σ' r).toList ++ rest) (E' σ' r)) : q_G X M Q (Λ, cs, ns) σ pc l st (q_bnd Ec E') := by
  subst hc; subst hn; subst hp
  intro hE p e s m args below meth c H locs ls V hP hz h6 hT hS h
  have hEc : ∃ x, Ec = some x := by
    cases hx : Ec with
    | none => rw [hx] at hE; obtain ⟨x, hE⟩ := hE; cases hE
    | some x => exact ⟨x, rfl⟩
  intro T hTT Xs
  obtain ⟨v, st₀, t, T', L, h0, X', hL, e1, e2, ⟨σ', r, hEr, hv, ⟨i1, i2, i3, i4, i5⟩, hF1, hF2⟩, stp⟩ := hr hEc p e s m args below meth c H locs ls V hP hz h6 hT hS h T hTT Xs
  cases hv
  rw [h0] at hF1 hF2
  have hS1 : va_S (q_A X) s.heap T'.heap (locs ++ L) := ⟨Nat.le_trans hS.1 (by rw [e1]; exact hF1), fun q h1 h2 => by rw [e1, hF2 q (Nat.lt_of_lt_of_le h1 hS.1) h2]; exact hS.2.1 q h1 h2, fun q hq => by
    rcases List.mem_append.mp hq with h | h
    · exact hS.2.2 q h
    · exact hL q h⟩
  have hT1 : q_ST X σ' s s.heap := q_Tback hT i5 (by rw [← e1]; exact hS1)
  have hE2 : ∃ x, E' σ' r = some x := by rw [hEr] at hE; exact hE
  have hQ : q_bnd Ec E' = E' σ' r := by rw [hEr]; rfl
  obtain ⟨t2, a1, b1⟩ := kk σ' r hEr hE2 p e s m args below meth c T'.heap (locs ++ L) ls V (by rw [e1]; exact i1) (by rw [e1]; exact i2) i3 hT1 hS1 h T' rfl X'
  rw [hQ]
  exact ⟨t2, stp t2 a1, b1⟩
theorem gq_callj (hr : q_Site X M Mc Λ Λe cs ns σ pc l st rest Ec) (hc : cs + Mc.2.2.2.2.cells = cs') (hn : ns + Mc.2.2.2.2.slots = ns') (hp : pc + 3 = pc') (ht : Mc.2.2.2.1 = some .long)
    (kk : ∀ (σ' : Sg) (r : Int32), Ec = some (σ', r) → q_G X M Q (Λe, cs', ns') σ' pc' l (.long (q_lg σ' 200 0) :: rest) (E' σ' r)) : q_G X M Q (Λ, cs, ns) σ pc l st (q_bnd Ec E') := by
  refine gq_call hr hc hn hp (fun σ' r hh => ?_)
  have h1 : (q_rv Mc.2.2.2.1 σ' r).toList ++ rest = .long (q_lg σ' 200 0) :: rest := by rw [ht]; rfl
  rw [h1]
  exact kk σ' r hh
theorem gq_calli (hr : q_Site X M Mc Λ Λe cs ns σ pc l st rest Ec) (hc : cs + Mc.2.2.2.2.cells = cs') (hn : ns + Mc.2.2.2.2.slots = ns') (hp : pc + 3 = pc') (ht : q_isI Mc.2.2.2.1 = true)
    (kk : ∀ (σ' : Sg) (r : Int32), Ec = some (σ', r) → q_G X M Q (Λe, cs', ns') σ' pc' l (.int r :: rest) (E' σ' r)) : q_G X M Q (Λ, cs, ns) σ pc l st (q_bnd Ec E') := by
  refine gq_call hr hc hn hp (fun σ' r hh => ?_)
  have h1 : (q_rv Mc.2.2.2.1 σ' r).toList ++ rest = .int r :: rest := by
    generalize Mc.2.2.2.1 = z at ht
    cases z with
    | none => cases ht
    | some t => cases t <;> first | rfl | cases ht
  rw [h1]
  exact kk σ' r hh
theorem gq_callv (hr : q_Site X M Mc Λ Λe cs ns σ pc l st rest Ec) (hc : cs + Mc.2.2.2.2.cells = cs') (hn : ns + Mc.2.2.2.2.slots = ns') (hp : pc + 3 = pc') (ht : Mc.2.2.2.1 = none)
    (kk : ∀ (σ' : Sg) (r : Int32), Ec = some (σ', r) → q_G X M Q (Λe, cs', ns') σ' pc' l rest (E' σ' r)) : q_G X M Q (Λ, cs, ns) σ pc l st (q_bnd Ec E') := by
  refine gq_call hr hc hn hp (fun σ' r hh => ?_)
  have h1 : (q_rv Mc.2.2.2.1 σ' r).toList ++ rest = rest := by rw [ht]; rfl
  rw [h1]
  exact kk σ' r hh
/-- the callee's start, out of the caller's world -/
theorem q_pre {args0 : List Value} {s : State} {H : Heap} {locs : List Loc} (hEc : ∃ x, Ec = some x) (hX : q_FX X s) (hP : va_P (xD X) vwCl (q_W X Λ σ) H) (hz : H.size = xb X + Λ.length) (h6 : Λ.length ≤ 64) (hT : q_ST X σ s s.heap) (hS : va_S (q_A X) s.heap H locs) :
    PreS s H (va_Pc args0 (fun U => (∃ x, Ec = some x) ∧ q_INV X Λ σ U)) args0 := by
  refine ⟨fun a U g mk q => ⟨q.1, q.2.1, q.2.2.1, q.2.2.2.1, q.2.2.2.2.1, q.2.2.2.2.2.1.same (u := U) (U := U.calling g mk a) rfl, q.2.2.2.2.2.2.moved (u := U) (U := U.calling g mk a) (Vm.Alike.refl U.vm) (fun _ _ _ => rfl)⟩, fun U hU hW => ?_⟩
  refine ⟨rfl, hEc, by rw [hU]; exact hP, by rw [hU]; exact hz, h6, hX.moved hW, hT.moved hW.alike ?_⟩
  intro a h1 h2
  rw [hU]
  exact hS.2.1 a h1 h2
theorem gq_siteV {o ci N : Nat} {T : u_T} {fs : List (Option (Option Nat))} (d : decode M.2.1 pc = .ok (.invokevirtual idx, 3)) (lk : q_LV M.1.cls idx Mc.1) (mf : q_MF Mc n) (hx : q_Ex X Mc Λ Λe (.ref (xa X o) :: As) σ Ec) (ho : Λ[o]? = some (.inr (ci, fs))) (hci : vwCl[ci]? = some (Mc.1.cls, T, N)) (hn : As.length = n)
    (hR : Mc.2.2.2.2.frames + 1 ≤ M.2.2.2.2.frames ∧ 8 + (Mc.2.2.1 + 11) + Mc.2.2.2.2.locals ≤ M.2.2.2.2.locals) (hf : cs + Mc.2.2.2.2.cells ≤ M.2.2.2.2.cells ∧ ns + Mc.2.2.2.2.slots ≤ M.2.2.2.2.slots) (hst : st = As.reverse ++ .ref (xa X o) :: rest) (hw : (rest.map fun v => v.category).sum ≤ 8) : q_Site X M Mc Λ Λe cs ns σ pc l st rest Ec := by
  subst hst
  intro hEc p e s m args below meth c H locs ls V hP hz h6 hT hS h
  have hG : GoodIn lw_gd (wsV M.1.cls idx Mc.1.cls Mc.1 (q_ws Mc)) := q_gi (fun w hw => by
    rcases List.mem_append.mp hw with h1 | h1
    · simp only [List.mem_cons, List.not_mem_nil, or_false] at h1
      rcases h1 with rfl | rfl | rfl | rfl
      · exact lk.1
      · exact lk.2.1
      · exact lk.2.2
      · exact mf.2.2.1
    · exact q_wsin mf w h1)
  have hpre := q_pre (args0 := .ref (xa X o) :: As) hEc V.2.2.2.2.2.2.2.2 hP hz h6 hT hS
  exact va_runV (As := As) (rest := rest) ⟨V.1, V.2.1, V.2.2.2.1, V.2.2.2.2.1, V.2.2.2.2.2.1⟩ hx (cwV n V.2.2.2.2.2.1 hG rfl rfl rfl ⟨rfl, mf.2.1⟩ hR) ⟨hpre.1, va_recv V.2.2.2.2.2.2.2.2.1 hP hci (q_Wget ho), hpre.2⟩ rfl hn h.1 rfl (lv_room hw) d hf
theorem gq_siteS (d : decode M.2.1 pc = .ok (.invokestatic idx, 3)) (lk : q_LS M.1.cls idx Mc.1) (mf : q_MF Mc n) (hx : q_Ex X Mc Λ Λe As σ Ec) (hn : As.length = n)
    (hR : Mc.2.2.2.2.frames + 1 ≤ M.2.2.2.2.frames ∧ 8 + (Mc.2.2.1 + 11) + Mc.2.2.2.2.locals ≤ M.2.2.2.2.locals) (hf : cs + Mc.2.2.2.2.cells ≤ M.2.2.2.2.cells ∧ ns + Mc.2.2.2.2.slots ≤ M.2.2.2.2.slots) (hst : st = As.reverse ++ rest) (hw : (rest.map fun v => v.category).sum ≤ 8) : q_Site X M Mc Λ Λe cs ns σ pc l st rest Ec := by
  subst hst
  intro hEc p e s m args below meth c H locs ls V hP hz h6 hT hS h
  have hG : GoodIn lw_gd (va_wsS M.1.cls idx Mc.1 (q_ws Mc)) := q_gi (fun w hw => by
    rcases List.mem_append.mp hw with h1 | h1
    · simp only [List.mem_cons, List.not_mem_nil, or_false] at h1
      rcases h1 with rfl | rfl | rfl
      · exact lk.1
      · exact lk.2
      · exact mf.2.2.1
    · exact q_wsin mf w h1)
  have hpre := q_pre (args0 := As) hEc V.2.2.2.2.2.2.2.2 hP hz h6 hT hS
  exact va_runS (As := As) (rest := rest) ⟨V.1, V.2.1, V.2.2.2.1, V.2.2.2.2.1, V.2.2.2.2.2.1⟩ hx (va_cwS n V.2.2.2.2.2.1 hG rfl rfl rfl mf.2.1 hR) hpre rfl hn h.1 rfl (lv_room hw) d hf
theorem gq_siteSN (d : decode M.2.1 pc = .ok (.invokestatic idx, 3)) (lk : q_LSN M.1.cls idx Mc.1) (mf : q_MF Mc n) (hx : q_Ex X Mc Λ Λe As σ Ec) (hn : As.length = n)
    (hR : Mc.2.2.2.2.frames + 1 ≤ M.2.2.2.2.frames ∧ 8 + (Mc.2.2.1 + 11) + Mc.2.2.2.2.locals ≤ M.2.2.2.2.locals) (hf : cs + Mc.2.2.2.2.cells ≤ M.2.2.2.2.cells ∧ ns + Mc.2.2.2.2.slots ≤ M.2.2.2.2.slots) (hst : st = As.reverse ++ rest) (hw : (rest.map fun v => v.category).sum ≤ 8) : q_Site X M Mc Λ Λe cs ns σ pc l st rest Ec := by
  subst hst
  intro hEc p e s m args below meth c H locs ls V hP hz h6 hT hS h
  have hpre := q_pre (args0 := As) hEc V.2.2.2.2.2.2.2.2 hP hz h6 hT hS
  exact va_runSN (As := As) (rest := rest) ⟨V.1, V.2.1, V.2.2.2.1, V.2.2.2.2.1, V.2.2.2.2.2.1⟩ hx ⟨va_cnB n V.2.2.2.2.2.1 (q_gi (q_wsin mf)) rfl rfl rfl (V.2.2.2.2.2.2.2.2.2.1 _ lk.1) (V.2.2.2.2.2.1 _ mf.2.2.1) mf.2.1 hR, V.2.2.2.2.2.1 _ lk.2, trivial⟩ hpre rfl hn h.1 rfl (lv_room hw) d hf
theorem gq_siteI {o : Nat} (d : decode M.2.1 pc = .ok (.invokespecial idx, 3)) (lk : q_LI M.1.cls idx Mc.1) (mf : q_MF Mc n) (hret : Mc.2.2.2.1 = none) (hx : q_Ex X Mc Λ Λe (.ref (xa X o) :: As) σ Ec) (hn : As.length = n)
    (hR : Mc.2.2.2.2.frames + 1 ≤ M.2.2.2.2.frames ∧ 8 + (Mc.2.2.1 + 11) + Mc.2.2.2.2.locals ≤ M.2.2.2.2.locals) (hf : cs + Mc.2.2.2.2.cells ≤ M.2.2.2.2.cells ∧ ns + Mc.2.2.2.2.slots ≤ M.2.2.2.2.slots) (hst : st = As.reverse ++ .ref (xa X o) :: rest) (hw : (rest.map fun v => v.category).sum ≤ 8) : q_Site X M Mc Λ Λe cs ns σ pc l st rest Ec := by
  subst hst
  intro hEc p e s m args below meth c H locs ls V hP hz h6 hT hS h
  have hpre := q_pre (args0 := .ref (xa X o) :: As) hEc V.2.2.2.2.2.2.2.2 hP hz h6 hT hS
  exact va_runI (As := As) (rest := rest) ⟨V.1, V.2.1, V.2.2.2.1, V.2.2.2.2.1, V.2.2.2.2.2.1⟩ hx (cwI n V.2.2.2.2.2.1 (q_gi (q_wsin mf)) (by unfold q_ws; rw [hret]) rfl rfl (V.2.2.2.2.2.1 _ mf.2.2.1) (V.2.2.2.2.2.1 _ lk.1) (V.2.2.2.2.2.1 _ lk.2.1) lk.2.2 mf.2.1 hR) hpre rfl hn h.1 rfl (lv_room hw) d hf
theorem gq_siteIN {o : Nat} (d : decode M.2.1 pc = .ok (.invokespecial idx, 3)) (lk : q_LIN M.1.cls idx Mc.1) (mf : q_MF Mc n) (hret : Mc.2.2.2.1 = none) (hx : q_Ex X Mc Λ Λe (.ref (xa X o) :: As) σ Ec) (hn : As.length = n)
    (hR : Mc.2.2.2.2.frames + 1 ≤ M.2.2.2.2.frames ∧ 8 + (Mc.2.2.1 + 11) + Mc.2.2.2.2.locals ≤ M.2.2.2.2.locals) (hf : cs + Mc.2.2.2.2.cells ≤ M.2.2.2.2.cells ∧ ns + Mc.2.2.2.2.slots ≤ M.2.2.2.2.slots) (hst : st = As.reverse ++ .ref (xa X o) :: rest) (hw : (rest.map fun v => v.category).sum ≤ 8) : q_Site X M Mc Λ Λe cs ns σ pc l st rest Ec := by
  subst hst
  intro hEc p e s m args below meth c H locs ls V hP hz h6 hT hS h
  have hpre := q_pre (args0 := .ref (xa X o) :: As) hEc V.2.2.2.2.2.2.2.2 hP hz h6 hT hS
  exact va_runIN (As := As) (rest := rest) ⟨V.1, V.2.1, V.2.2.2.1, V.2.2.2.2.1, V.2.2.2.2.2.1⟩ hx ⟨va_cnB n V.2.2.2.2.2.1 (q_gi (q_wsin mf)) (by unfold q_ws; rw [hret]) rfl rfl (V.2.2.2.2.2.2.2.2.2.1 _ lk.1) (V.2.2.2.2.2.1 _ mf.2.2.1) mf.2.1 hR, lk.2.2, V.2.2.2.2.2.1 _ lk.2.1⟩ hpre rfl hn h.1 rfl (lv_room hw) d hf
end QC
end
section
/-! THE LAYER's RULES: ends, new cells, a method's contract out of its walk -/
section QN
variable {X : q_Cx} {M Mc : q_Mt} {Q : q_Fin} {ph : q_Lay × Nat × Nat} {σ : Sg} {pc pc' cs ns cs' ns' idx n : Nat} {Λ Λ' Λe : q_Lay} {l : List (Nat × Value)} {st rest As : List Value} {E : Rs}
theorem q_fin {E : Rs} {σ : Sg} {r : Int32} {s t : State} {args : Array Value} {H : Heap} {locs : List Loc} {p : Program} {m : MethodId} {meth : Method} {c : Code} (V : q_MC X M p s m args meth c) (hEr : E = some (σ, r)) (hP : va_P (xD X) vwCl (q_W X Λe σ) H) (hz : H.size = xb X + Λe.length) (h6 : Λe.length ≤ 64) (hT : q_ST X σ s s.heap) (hS : va_S (q_A X) s.heap H locs) (ht : t.heap = H) (hW : s.WarmedH t.vm) {o : Outcome} (ho : o = .returned (q_rv M.2.2.2.1 σ r)) : q_QE X Λe M E args s o t :=
  ⟨σ, r, hEr, ho, ⟨by rw [ht]; exact hP, by rw [ht]; exact hz, h6, V.2.2.2.2.2.2.2.2.moved hW, hT.moved hW.alike (by rw [ht]; exact hS.2.1)⟩, hS.F ht⟩
theorem gq_iret {r : Int32} (d : decode M.2.1 pc = .ok (.ireturn, 1)) (ht : M.2.2.2.1 = some .int) (hc : M.2.2.2.2.cells = cs) (hn : M.2.2.2.2.slots = ns) : q_G X M (q_QM X Λ M) (Λ, cs, ns) σ pc l [.int r] (some (σ, r)) := by
  subst hc; subst hn
  intro hE p e s m args below meth c H locs ls V hP hz h6 hT hS h
  exact W.iret (v := r) V.1 V.2.1 (V.2.2.1.trans ht) (fun t ht' hW => q_fin V rfl hP hz h6 hT hS ht' hW (by rw [ht]; rfl)) hS.2.2 d V.2.2.2.2.2.2.1
theorem gq_zret {r : Int32} (d : decode M.2.1 pc = .ok (.ireturn, 1)) (ht : M.2.2.2.1 = some .boolean) (hr : narrow .boolean (.int r) = .int r) (hc : M.2.2.2.2.cells = cs) (hn : M.2.2.2.2.slots = ns) : q_G X M (q_QM X Λ M) (Λ, cs, ns) σ pc l [.int r] (some (σ, r)) := by
  subst hc; subst hn
  intro hE p e s m args below meth c H locs ls V hP hz h6 hT hS h
  exact W.zret (v := r) V.1 V.2.1 (V.2.2.1.trans ht) hr (fun t ht' hW => q_fin V rfl hP hz h6 hT hS ht' hW (by rw [ht]; rfl)) hS.2.2 d V.2.2.2.2.2.2.1
/-- a boolean that isn't written out: nothing is said where it isn't one -/
theorem gq_zretq {r : Int32} (d : decode M.2.1 pc = .ok (.ireturn, 1)) (ht : M.2.2.2.1 = some .boolean) (hc : M.2.2.2.2.cells = cs) (hn : M.2.2.2.2.slots = ns) : q_G X M (q_QM X Λ M) (Λ, cs, ns) σ pc l [.int r] (if vp_nar .boolean r = r then some (σ, r) else none) := by
  refine gq_ite (fun h => gq_zret d ht ?_ hc hn) (fun _ => gq_none)
  have e : narrow .boolean (.int r) = .int (vp_nar .boolean r) := rfl
  rw [e, h]
theorem gq_vret (d : decode M.2.1 pc = .ok (.return_, 1)) (ht : M.2.2.2.1 = none) (hc : M.2.2.2.2.cells = cs) (hn : M.2.2.2.2.slots = ns) : q_G X M (q_QM X Λ M) (Λ, cs, ns) σ pc l [] (some (σ, 0)) := by
  subst hc; subst hn
  intro hE p e s m args below meth c H locs ls V hP hz h6 hT hS h
  exact W.vret V.1 V.2.1 (V.2.2.1.trans ht) (fun t ht' hW => q_fin V rfl hP hz h6 hT hS ht' hW (by rw [ht]; rfl)) hS.2.2 d V.2.2.2.2.2.2.1
theorem gq_lret {v : Int64} (d : decode M.2.1 pc = .ok (.lreturn, 1)) (ht : M.2.2.2.1 = some .long) (hc : M.2.2.2.2.cells = cs) (hn : M.2.2.2.2.slots = ns) : q_G X M (q_QM X Λ M) (Λ, cs, ns) σ pc l [.long v] (some (q_wrl σ 200 0 v, 0)) := by
  subst hc; subst hn
  intro hE p e s m args below meth c H locs ls V hP hz h6 hT hS h
  have hw : ∀ o, o ≠ 200 → q_wrl σ 200 0 v o = σ o := fun o ho => q_wrl_ne ho
  have eW : q_W X Λ (q_wrl σ 200 0 v) = q_W X Λ σ := by
    apply List.ext_getElem?
    intro i
    simp only [q_W, List.getElem?_mapIdx]
    by_cases hi : i < Λ.length
    · rw [List.getElem?_eq_getElem hi]
      simp [q_cell_ne (hw i (by have h7 : Λ.length ≤ 64 := h6; omega))]
    · rw [List.getElem?_eq_none (by omega)]
      rfl
  exact W.lret (v := v) V.1 V.2.1 (V.2.2.1.trans ht) (fun t ht' hW => q_fin (r := 0) V rfl (by rw [eW]; exact hP) hz h6 (q_STw hT (fun o ho => hw o (by omega))) hS ht' hW (by rw [ht]; show _ = Outcome.returned (some (.long (q_lg (q_wrl σ 200 0 v) 200 0))); rw [q_lg_wrl])) hS.2.2 d V.2.2.2.2.2.2.1
/-- a method's contract out of its walk -/
theorem gq_ex {args : List Value} (mf : q_MF M n) (hl : (lg_sl args).length ≤ M.2.2.1) (hG : q_G X M (q_QM X Λe M) (Λ, 0, 0) σ 0 (lv_args 0 args) [] E) : q_Ex X M Λ Λe args σ E := by
  refine Met.ofW (cc := M.2.1) (maxL := M.2.2.1) (ret := M.2.2.2.1) mf.1 rfl ?_
  intro p e s m args' below meth c s₁ B hml hv
  obtain ⟨rfl, hE, hP, hsz, h64, hFX, hST⟩ := hv
  have hts := atoms_spec (ws := q_ws M) B.pre
  rw [lg_entry_eq]
  exact hG hE p e s m _ below meth c s.heap [] _ ⟨B.exec, B.bytes, B.returns, hml, findClass_of_methodNamed B.named, fun w h => hts w (List.mem_cons_of_mem _ h), B.notSynchronized, fun h => (name_of_methodNamed B.named B.method).1.trans h, hFX⟩ hP hsz h64 hST va_S.rf (lv_entry args hl)
/-- Object's constructor -/
theorem gq_objI {a : Nat} (d : decode M.2.1 pc = .ok (.invokespecial idx, 3)) (hp : pc + 3 = pc') (h1 : Cond.methodLink M.1.cls idx Lib.objectInit ∈ lw_gd) (h2 : Cond.instanceMethod Lib.objectInit ∈ lw_gd) (h3 : Cond.code Lib.objectInit ⟨#[0xb1]⟩ 1 none ∈ lw_gd) (hf : 1 ≤ M.2.2.2.2.frames) (hlo : (st.map fun v => v.category).sum + 12 ≤ M.2.2.2.2.locals) (kk : q_G X M Q ph σ pc' l st E) : q_G X M Q ph σ pc l (.ref a :: st) E := by
  subst hp
  intro hE p e s m args below meth c H locs ls V hP hz h6 hT hS h
  refine W.objInit V.1 V.2.1 V.2.2.2.2.1 (V.2.2.2.2.2.1 _ h1) (V.2.2.2.2.2.1 _ h2) (V.2.2.2.2.2.1 _ h3) rfl (by rw [V.2.2.2.1]; exact h.1) rfl d hf ?_ ?_
  · have e : (F0 m pc ls (.ref a :: st)).monitorRoom = 0 := rfl
    rw [e]; omega
  · exact W.eq (g2 := F0 m (pc + 3) ls st) rfl (kk hE p e s m args below meth c H locs ls V hP hz h6 hT hS h)
/-- a new object: the next one -/
theorem gq_new {ci N : Nat} {C : String} {T : u_T} {ty : Nat → FieldType} {fs : List (Option (Option Nat))} (d : decode M.2.1 pc = .ok (.new idx, 3)) (hp : pc + 3 = pc') (h1 : Cond.classLink M.1.cls idx C ∈ lw_gd) (h2 : Cond.instantiable C N ∈ lw_gd) (h3 : Cond.initialized C ∈ lw_gd) (hin : ∀ w ∈ u_ws C T N, w ∈ lw_gd) (hty : ∀ k, k < N → parseFieldDescriptor (T k).2.2.1 = some (ty k)) (hc : vwCl[ci]? = some (C, T, N))
    (hfs : ∀ j, j < N → defaultValue (ty j) = (match fs[j]? with | some none => .int 0 | _ => .null)) (hfl : fs.length = N) (hfn : ∀ t ∈ fs, t = none ∨ t = some none) (hcs : cs + 1 ≤ M.2.2.2.2.cells) (hns : ns + N ≤ M.2.2.2.2.slots) {o : Nat} (ho : Λ.length = o) (h64 : o < 64) (hcs' : cs + 1 = cs') (hns' : ns + N = ns') (hΛ : Λ ++ [.inr (ci, fs)] = Λ')
    (kk : q_G X M Q (Λ', cs', ns') (q_clr σ o) pc' l (.ref (xa X o) :: st) E) : q_G X M Q (Λ, cs, ns) σ pc l st E := by
  subst hp; subst ho; subst hcs'; subst hns'; subst hΛ
  intro hE p e s m args below meth c H locs ls V hP hz h6 hT hS h
  have hK := V.2.2.2.2.2.2.2.2.1
  have hKn := hK.1 ci _ hc
  have hb := V.2.2.2.2.2.2.2.2.2.2 Λ.length h64
  have hzz : H.size = xa X Λ.length := by rw [hb]; exact hz
  refine W.newcK V.1 V.2.1 V.2.2.2.2.1 (V.2.2.2.2.2.1 _ h1) (V.2.2.2.2.2.1 _ h2) (V.2.2.2.2.2.1 _ h3) rfl d hcs hns hKn.2.1 rfl fun H1 kC hkC e1 z1 o1 => ?_
  have hk : ∀ (k : Nat) (x : Nat × va_E), (q_W X Λ σ)[k]? = some x → H1[x.1]? = H[x.1]? := fun k x hx => o1 x.1 ((hP k x hx).lt)
  have hcell : q_cell X (q_clr σ Λ.length) Λ.length (.inr (ci, fs)) = .inr (ci, fs.mapIdx (fun k r => q_fv X (q_clr σ Λ.length) Λ.length k r)) := rfl
  have hP1 : va_P (xD X) vwCl (q_W X (Λ ++ [.inr (ci, fs)]) (q_clr σ Λ.length)) H1 := by
    rw [← q_Wpush hcell]
    refine (hP.kept hk).app (fun k x hx => ?_)
    have hz : k < 1 := (List.getElem?_eq_some_iff.mp hx).1
    rw [show k = 0 by omega] at hx
    cases hx
    refine ⟨_, hc, (u_born ty V.2.2.2.2.2.1 hin hKn hkC (by rw [← hzz]; exact e1) hty).to (fun j hj => ?_)⟩
    rw [hfs j hj]
    have hj2 : j < fs.length := by omega
    simp only [vp_V, List.getD_eq_getElem?_getD, List.getElem?_mapIdx, List.getElem?_eq_getElem hj2, Option.map_some, Option.getD_some]
    rcases hfn _ (List.getElem_mem hj2) with h | h <;> rw [h] <;> simp [q_fv, q_clr]
  rw [hzz]
  exact kk hE p e s m args below meth c H1 locs ls V hP1 (by rw [z1, hz]; simp; omega) (by simp; omega) (q_STw hT (fun o' h => q_clr_ne (by omega))) ⟨Nat.le_trans hS.1 (by omega), fun x h1 h2 => (o1 x (Nat.lt_of_lt_of_le h1 hS.1)).trans (hS.2.1 x h1 h2), hS.2.2⟩ h
theorem gq_newa {atype : ArrayType} {v : Int32} (d : decode M.2.1 pc = .ok (.newarray atype, 2)) (hp : pc + 2 = pc') (h1 : Cond.arrayClass (newarray.typeOf atype) ∈ lw_gd) (hz0 : newarray.typeOf atype = .int) (hn : ¬ v < 0) (hN : v.toNatClampNeg = n) (hbytes : n * componentBytes (newarray.typeOf atype) ≤ 536870912) (hcs : cs + 1 ≤ M.2.2.2.2.cells) (hns : ns + n ≤ M.2.2.2.2.slots) {o : Nat} (ho : Λ.length = o) (h64 : o < 64) (hcs' : cs + 1 = cs') (hns' : ns + n = ns') (hΛ : Λ ++ [.inl (false, n)] = Λ')
    (kk : q_G X M Q (Λ', cs', ns') (q_clr σ o) pc' l (.ref (xa X o) :: st) E) : q_G X M Q (Λ, cs, ns) σ pc l (.int v :: st) E := by
  subst hp; subst ho; subst hcs'; subst hns'; subst hΛ
  intro hE p e s m args below meth c H locs ls V hP hz h6 hT hS h
  have hK := V.2.2.2.2.2.2.2.2.1
  have hb := V.2.2.2.2.2.2.2.2.2.2 Λ.length h64
  have hzz : H.size = xa X Λ.length := by rw [hb]; exact hz
  refine va_newaK V.1 V.2.1 (V.2.2.2.2.2.1 _ h1) rfl d rfl hn hN hbytes hcs hns hzz fun H1 cA e1 z1 o1 hAr hNm => ?_
  have hk : ∀ (k : Nat) (x : Nat × va_E), (q_W X Λ σ)[k]? = some x → H1[x.1]? = H[x.1]? := fun k x hx => o1 x.1 (by rw [← hzz]; exact (hP k x hx).lt)
  have hcA : cA = xI X := by
    have h2 := (hK.2 0 (xI X, .int) rfl).2
    rw [hz0] at hNm
    exact Option.some.inj (hNm.symm.trans h2)
  have hcell : q_cell X (q_clr σ Λ.length) Λ.length (.inl (false, n)) = .inl (cA, n, .inl (fun _ => 0)) := by
    rw [hcA]; simp [q_cell, q_clr]
  have hP1 : va_P (xD X) vwCl (q_W X (Λ ++ [.inl (false, n)]) (q_clr σ Λ.length)) H1 := by
    rw [← q_Wpush hcell]
    refine (hP.kept hk).app (fun k x hx => ?_)
    have hz : k < 1 := (List.getElem?_eq_some_iff.mp hx).1
    rw [show k = 0 by omega] at hx
    cases hx
    show H1[_]? = some (vp_cell _ _)
    rw [e1, vp_cell_i, hz0]
    rfl
  exact kk hE p e s m args below meth c H1 locs ls V hP1 (by rw [z1, ← hzz, hz]; simp; omega) (by simp; omega) (q_STw hT (fun o' h => q_clr_ne (by omega))) ⟨Nat.le_trans hS.1 (by omega), fun x h1 h2 => (o1 x (by rw [← hzz]; exact Nat.lt_of_lt_of_le h1 hS.1)).trans (hS.2.1 x h1 h2), hS.2.2⟩ h
theorem gq_newl {atype : ArrayType} {v : Int32} (d : decode M.2.1 pc = .ok (.newarray atype, 2)) (hp : pc + 2 = pc') (h1 : Cond.arrayClass (newarray.typeOf atype) ∈ lw_gd) (hz0 : newarray.typeOf atype = .long) (hn : ¬ v < 0) (hN : v.toNatClampNeg = n) (hbytes : n * componentBytes (newarray.typeOf atype) ≤ 536870912) (hcs : cs + 1 ≤ M.2.2.2.2.cells) (hns : ns + n ≤ M.2.2.2.2.slots) {o : Nat} (ho : Λ.length = o) (h64 : o < 64) (hcs' : cs + 1 = cs') (hns' : ns + n = ns') (hΛ : Λ ++ [.inl (true, n)] = Λ')
    (kk : q_G X M Q (Λ', cs', ns') (q_clr σ o) pc' l (.ref (xa X o) :: st) E) : q_G X M Q (Λ, cs, ns) σ pc l (.int v :: st) E := by
  subst hp; subst ho; subst hcs'; subst hns'; subst hΛ
  intro hE p e s m args below meth c H locs ls V hP hz h6 hT hS h
  have hK := V.2.2.2.2.2.2.2.2.1
  have hb := V.2.2.2.2.2.2.2.2.2.2 Λ.length h64
  have hzz : H.size = xa X Λ.length := by rw [hb]; exact hz
  refine va_newaK V.1 V.2.1 (V.2.2.2.2.2.1 _ h1) rfl d rfl hn hN hbytes hcs hns hzz fun H1 cA e1 z1 o1 hAr hNm => ?_
  have hk : ∀ (k : Nat) (x : Nat × va_E), (q_W X Λ σ)[k]? = some x → H1[x.1]? = H[x.1]? := fun k x hx => o1 x.1 (by rw [← hzz]; exact (hP k x hx).lt)
  have hcA : cA = xZ X := by
    have h2 := (hK.2 1 (xZ X, .long) rfl).2
    rw [hz0] at hNm
    exact Option.some.inj (hNm.symm.trans h2)
  have hcell : q_cell X (q_clr σ Λ.length) Λ.length (.inl (true, n)) = .inl (cA, n, .inr (.inl (fun _ => 0))) := by
    rw [hcA]
    have e : q_lg (q_clr σ Λ.length) Λ.length = fun _ => 0 := funext (fun k => q_lg_clr σ _ k)
    simp [q_cell, e]
  have hP1 : va_P (xD X) vwCl (q_W X (Λ ++ [.inl (true, n)]) (q_clr σ Λ.length)) H1 := by
    rw [← q_Wpush hcell]
    refine (hP.kept hk).app (fun k x hx => ?_)
    have hz : k < 1 := (List.getElem?_eq_some_iff.mp hx).1
    rw [show k = 0 by omega] at hx
    cases hx
    show H1[_]? = some (vp_cell _ _)
    rw [e1, vp_cell_l, hz0]
    rfl
  exact kk hE p e s m args below meth c H1 locs ls V hP1 (by rw [z1, ← hzz, hz]; simp; omega) (by simp; omega) (q_STw hT (fun o' h => q_clr_ne (by omega))) ⟨Nat.le_trans hS.1 (by omega), fun x h1 h2 => (o1 x (by rw [← hzz]; exact Nat.lt_of_lt_of_le h1 hS.1)).trans (hS.2.1 x h1 h2), hS.2.2⟩ h
end QN
end
section
-- GENERATED by wip/p23/gen.py out of the landed bytecode: what each method does to the state (f_), the world's shape
def q_let (x : Int32) (f : Int32 → Rs) : Rs := f x
def q_letJ (x : Int64) (f : Int64 → Rs) : Rs := f x
def q_lets (x : Sg) (f : Sg → Rs) : Rs := f x
def q_L0 : q_Lay := [.inr (5, [some (some 1), some (some 15), some (some 21), some (some 23)]), .inr (2, [some (some 2), some (some 3), some (some 4), some (some 5), some (some 6), some (some 7), some (some 8), some (some 9), some (some 12), none, none, none, none]), .inl (false, 150), .inl (false, 150), .inl (false, 150), .inl (false, 150), .inl (false, 150), .inl (false, 151), .inl (false, 2), .inr (3, [some (some 10), some (some 11), none, none, none, none, none, none]), .inl (false, 4), .inl (false, 2), .inr (3, [some (some 13), some (some 14), none, none, none, none, none, none]), .inl (false, 4), .inl (false, 2), .inr (0, [some (some 16), none, none, some (some 17), some (some 18), some (some 19), some (some 20)]), .inl (false, 30), .inl (false, 2), .inl (false, 2), .inl (false, 2), .inl (false, 2), .inr (4, [some (some 22)]), .inl (false, 8), .inr (1, [some (some 24), some (some 25), none]), .inl (false, 15), .inl (false, 15)]
def q_LA (Λr : q_Lay) : q_Lay := q_L0 ++ Λr
theorem lo_0 {Λr : q_Lay} : (q_LA Λr)[0]? = some (.inr (5, [some (some 1), some (some 15), some (some 21), some (some 23)])) := rfl
theorem lo_1 {Λr : q_Lay} : (q_LA Λr)[1]? = some (.inr (2, [some (some 2), some (some 3), some (some 4), some (some 5), some (some 6), some (some 7), some (some 8), some (some 9), some (some 12), none, none, none, none])) := rfl
theorem lo_2 {Λr : q_Lay} : (q_LA Λr)[2]? = some (.inl (false, 150)) := rfl
theorem lo_3 {Λr : q_Lay} : (q_LA Λr)[3]? = some (.inl (false, 150)) := rfl
theorem lo_4 {Λr : q_Lay} : (q_LA Λr)[4]? = some (.inl (false, 150)) := rfl
theorem lo_5 {Λr : q_Lay} : (q_LA Λr)[5]? = some (.inl (false, 150)) := rfl
theorem lo_6 {Λr : q_Lay} : (q_LA Λr)[6]? = some (.inl (false, 150)) := rfl
theorem lo_7 {Λr : q_Lay} : (q_LA Λr)[7]? = some (.inl (false, 151)) := rfl
theorem lo_8 {Λr : q_Lay} : (q_LA Λr)[8]? = some (.inl (false, 2)) := rfl
theorem lo_9 {Λr : q_Lay} : (q_LA Λr)[9]? = some (.inr (3, [some (some 10), some (some 11), none, none, none, none, none, none])) := rfl
theorem lo_10 {Λr : q_Lay} : (q_LA Λr)[10]? = some (.inl (false, 4)) := rfl
theorem lo_11 {Λr : q_Lay} : (q_LA Λr)[11]? = some (.inl (false, 2)) := rfl
theorem lo_12 {Λr : q_Lay} : (q_LA Λr)[12]? = some (.inr (3, [some (some 13), some (some 14), none, none, none, none, none, none])) := rfl
theorem lo_13 {Λr : q_Lay} : (q_LA Λr)[13]? = some (.inl (false, 4)) := rfl
theorem lo_14 {Λr : q_Lay} : (q_LA Λr)[14]? = some (.inl (false, 2)) := rfl
theorem lo_15 {Λr : q_Lay} : (q_LA Λr)[15]? = some (.inr (0, [some (some 16), none, none, some (some 17), some (some 18), some (some 19), some (some 20)])) := rfl
theorem lo_16 {Λr : q_Lay} : (q_LA Λr)[16]? = some (.inl (false, 30)) := rfl
theorem lo_17 {Λr : q_Lay} : (q_LA Λr)[17]? = some (.inl (false, 2)) := rfl
theorem lo_18 {Λr : q_Lay} : (q_LA Λr)[18]? = some (.inl (false, 2)) := rfl
theorem lo_19 {Λr : q_Lay} : (q_LA Λr)[19]? = some (.inl (false, 2)) := rfl
theorem lo_20 {Λr : q_Lay} : (q_LA Λr)[20]? = some (.inl (false, 2)) := rfl
theorem lo_21 {Λr : q_Lay} : (q_LA Λr)[21]? = some (.inr (4, [some (some 22)])) := rfl
theorem lo_22 {Λr : q_Lay} : (q_LA Λr)[22]? = some (.inl (false, 8)) := rfl
theorem lo_23 {Λr : q_Lay} : (q_LA Λr)[23]? = some (.inr (1, [some (some 24), some (some 25), none])) := rfl
theorem lo_24 {Λr : q_Lay} : (q_LA Λr)[24]? = some (.inl (false, 15)) := rfl
theorem lo_25 {Λr : q_Lay} : (q_LA Λr)[25]? = some (.inl (false, 15)) := rfl
def q_pos (o : Nat) : Prop := o = 9 ∨ o = 12
theorem q_pos0 {Λr : q_Lay} {o : Nat} (h : q_pos o) : (q_LA Λr)[o]? = some (.inr (3, [some (some (o + 1)), some (some (o + 2)), none, none, none, none, none, none])) := by rcases h with rfl | rfl <;> rfl
theorem q_pos1 {Λr : q_Lay} {o : Nat} (h : q_pos o) : (q_LA Λr)[o + 1]? = some (.inl (false, 4)) := by rcases h with rfl | rfl <;> rfl
theorem q_pos2 {Λr : q_Lay} {o : Nat} (h : q_pos o) : (q_LA Λr)[o + 2]? = some (.inl (false, 2)) := by rcases h with rfl | rfl <;> rfl
def q_Ls_X3_init_9 : q_Lay := [.inr (5, [some none, some none, some none, some none]), .inr (2, [some (some 2), some (some 3), some (some 4), some (some 5), some (some 6), some (some 7), some (some 8), some none, some none, none, none, none, none]), .inl (false, 150), .inl (false, 150), .inl (false, 150), .inl (false, 150), .inl (false, 150), .inl (false, 151), .inl (false, 2), .inr (3, [some none, some none, none, none, none, none, none, none])]
def q_Le_X3_init_9 : q_Lay := [.inr (5, [some none, some none, some none, some none]), .inr (2, [some (some 2), some (some 3), some (some 4), some (some 5), some (some 6), some (some 7), some (some 8), some none, some none, none, none, none, none]), .inl (false, 150), .inl (false, 150), .inl (false, 150), .inl (false, 150), .inl (false, 150), .inl (false, 151), .inl (false, 2), .inr (3, [some (some 10), some (some 11), none, none, none, none, none, none]), .inl (false, 4), .inl (false, 2)]
def q_Ls_X3_init_12 : q_Lay := [.inr (5, [some none, some none, some none, some none]), .inr (2, [some (some 2), some (some 3), some (some 4), some (some 5), some (some 6), some (some 7), some (some 8), some (some 9), some none, none, none, none, none]), .inl (false, 150), .inl (false, 150), .inl (false, 150), .inl (false, 150), .inl (false, 150), .inl (false, 151), .inl (false, 2), .inr (3, [some (some 10), some (some 11), none, none, none, none, none, none]), .inl (false, 4), .inl (false, 2), .inr (3, [some none, some none, none, none, none, none, none, none])]
def q_Le_X3_init_12 : q_Lay := [.inr (5, [some none, some none, some none, some none]), .inr (2, [some (some 2), some (some 3), some (some 4), some (some 5), some (some 6), some (some 7), some (some 8), some (some 9), some none, none, none, none, none]), .inl (false, 150), .inl (false, 150), .inl (false, 150), .inl (false, 150), .inl (false, 150), .inl (false, 151), .inl (false, 2), .inr (3, [some (some 10), some (some 11), none, none, none, none, none, none]), .inl (false, 4), .inl (false, 2), .inr (3, [some (some 13), some (some 14), none, none, none, none, none, none]), .inl (false, 4), .inl (false, 2)]
def q_Ls_X2_init_1 : q_Lay := [.inr (5, [some none, some none, some none, some none]), .inr (2, [some none, some none, some none, some none, some none, some none, some none, some none, some none, none, none, none, none])]
def q_Le_X2_init_1 : q_Lay := [.inr (5, [some none, some none, some none, some none]), .inr (2, [some (some 2), some (some 3), some (some 4), some (some 5), some (some 6), some (some 7), some (some 8), some (some 9), some (some 12), none, none, none, none]), .inl (false, 150), .inl (false, 150), .inl (false, 150), .inl (false, 150), .inl (false, 150), .inl (false, 151), .inl (false, 2), .inr (3, [some (some 10), some (some 11), none, none, none, none, none, none]), .inl (false, 4), .inl (false, 2), .inr (3, [some (some 13), some (some 14), none, none, none, none, none, none]), .inl (false, 4), .inl (false, 2)]
def q_Ls_X0_init_15 : q_Lay := [.inr (5, [some (some 1), some none, some none, some none]), .inr (2, [some (some 2), some (some 3), some (some 4), some (some 5), some (some 6), some (some 7), some (some 8), some (some 9), some (some 12), none, none, none, none]), .inl (false, 150), .inl (false, 150), .inl (false, 150), .inl (false, 150), .inl (false, 150), .inl (false, 151), .inl (false, 2), .inr (3, [some (some 10), some (some 11), none, none, none, none, none, none]), .inl (false, 4), .inl (false, 2), .inr (3, [some (some 13), some (some 14), none, none, none, none, none, none]), .inl (false, 4), .inl (false, 2), .inr (0, [some none, none, none, some none, some none, some none, some none])]
def q_Le_X0_init_15 : q_Lay := [.inr (5, [some (some 1), some none, some none, some none]), .inr (2, [some (some 2), some (some 3), some (some 4), some (some 5), some (some 6), some (some 7), some (some 8), some (some 9), some (some 12), none, none, none, none]), .inl (false, 150), .inl (false, 150), .inl (false, 150), .inl (false, 150), .inl (false, 150), .inl (false, 151), .inl (false, 2), .inr (3, [some (some 10), some (some 11), none, none, none, none, none, none]), .inl (false, 4), .inl (false, 2), .inr (3, [some (some 13), some (some 14), none, none, none, none, none, none]), .inl (false, 4), .inl (false, 2), .inr (0, [some (some 16), none, none, some (some 17), some (some 18), some (some 19), some (some 20)]), .inl (false, 30), .inl (false, 2), .inl (false, 2), .inl (false, 2), .inl (false, 2)]
def q_Ls_X4_init_21 : q_Lay := [.inr (5, [some (some 1), some (some 15), some none, some none]), .inr (2, [some (some 2), some (some 3), some (some 4), some (some 5), some (some 6), some (some 7), some (some 8), some (some 9), some (some 12), none, none, none, none]), .inl (false, 150), .inl (false, 150), .inl (false, 150), .inl (false, 150), .inl (false, 150), .inl (false, 151), .inl (false, 2), .inr (3, [some (some 10), some (some 11), none, none, none, none, none, none]), .inl (false, 4), .inl (false, 2), .inr (3, [some (some 13), some (some 14), none, none, none, none, none, none]), .inl (false, 4), .inl (false, 2), .inr (0, [some (some 16), none, none, some (some 17), some (some 18), some (some 19), some (some 20)]), .inl (false, 30), .inl (false, 2), .inl (false, 2), .inl (false, 2), .inl (false, 2), .inr (4, [some none])]
def q_Le_X4_init_21 : q_Lay := [.inr (5, [some (some 1), some (some 15), some none, some none]), .inr (2, [some (some 2), some (some 3), some (some 4), some (some 5), some (some 6), some (some 7), some (some 8), some (some 9), some (some 12), none, none, none, none]), .inl (false, 150), .inl (false, 150), .inl (false, 150), .inl (false, 150), .inl (false, 150), .inl (false, 151), .inl (false, 2), .inr (3, [some (some 10), some (some 11), none, none, none, none, none, none]), .inl (false, 4), .inl (false, 2), .inr (3, [some (some 13), some (some 14), none, none, none, none, none, none]), .inl (false, 4), .inl (false, 2), .inr (0, [some (some 16), none, none, some (some 17), some (some 18), some (some 19), some (some 20)]), .inl (false, 30), .inl (false, 2), .inl (false, 2), .inl (false, 2), .inl (false, 2), .inr (4, [some (some 22)]), .inl (false, 8)]
def q_Ls_X1_init_23 : q_Lay := [.inr (5, [some (some 1), some (some 15), some (some 21), some none]), .inr (2, [some (some 2), some (some 3), some (some 4), some (some 5), some (some 6), some (some 7), some (some 8), some (some 9), some (some 12), none, none, none, none]), .inl (false, 150), .inl (false, 150), .inl (false, 150), .inl (false, 150), .inl (false, 150), .inl (false, 151), .inl (false, 2), .inr (3, [some (some 10), some (some 11), none, none, none, none, none, none]), .inl (false, 4), .inl (false, 2), .inr (3, [some (some 13), some (some 14), none, none, none, none, none, none]), .inl (false, 4), .inl (false, 2), .inr (0, [some (some 16), none, none, some (some 17), some (some 18), some (some 19), some (some 20)]), .inl (false, 30), .inl (false, 2), .inl (false, 2), .inl (false, 2), .inl (false, 2), .inr (4, [some (some 22)]), .inl (false, 8), .inr (1, [some none, some none, none])]
def q_Le_X1_init_23 : q_Lay := [.inr (5, [some (some 1), some (some 15), some (some 21), some none]), .inr (2, [some (some 2), some (some 3), some (some 4), some (some 5), some (some 6), some (some 7), some (some 8), some (some 9), some (some 12), none, none, none, none]), .inl (false, 150), .inl (false, 150), .inl (false, 150), .inl (false, 150), .inl (false, 150), .inl (false, 151), .inl (false, 2), .inr (3, [some (some 10), some (some 11), none, none, none, none, none, none]), .inl (false, 4), .inl (false, 2), .inr (3, [some (some 13), some (some 14), none, none, none, none, none, none]), .inl (false, 4), .inl (false, 2), .inr (0, [some (some 16), none, none, some (some 17), some (some 18), some (some 19), some (some 20)]), .inl (false, 30), .inl (false, 2), .inl (false, 2), .inl (false, 2), .inl (false, 2), .inr (4, [some (some 22)]), .inl (false, 8), .inr (1, [some (some 24), some (some 25), none]), .inl (false, 15), .inl (false, 15)]
def q_Ls_X5_init_0 : q_Lay := [.inr (5, [some none, some none, some none, some none])]
def q_Le_X5_init_0 : q_Lay := [.inr (5, [some (some 1), some (some 15), some (some 21), some (some 23)]), .inr (2, [some (some 2), some (some 3), some (some 4), some (some 5), some (some 6), some (some 7), some (some 8), some (some 9), some (some 12), none, none, none, none]), .inl (false, 150), .inl (false, 150), .inl (false, 150), .inl (false, 150), .inl (false, 150), .inl (false, 151), .inl (false, 2), .inr (3, [some (some 10), some (some 11), none, none, none, none, none, none]), .inl (false, 4), .inl (false, 2), .inr (3, [some (some 13), some (some 14), none, none, none, none, none, none]), .inl (false, 4), .inl (false, 2), .inr (0, [some (some 16), none, none, some (some 17), some (some 18), some (some 19), some (some 20)]), .inl (false, 30), .inl (false, 2), .inl (false, 2), .inl (false, 2), .inl (false, 2), .inr (4, [some (some 22)]), .inl (false, 8), .inr (1, [some (some 24), some (some 25), none]), .inl (false, 15), .inl (false, 15)]
noncomputable section
def f_X0_byteOf (σ : Sg) (p0 : Int64) (p1 : Int32) : Rs :=
  some (σ, (((p0.toUInt64 >>> (((8 : Int32) * p1).toInt64.toUInt64 &&& Int64.toUInt64 63)).toInt64) &&& (255 : Int64)).toInt32)
def f_X2_begins (σ : Sg) (p0 : Int32) : Rs :=
  if p0 = 0 then
    some (σ, (1 : Int32))
  else
    if p0 = (6 : Int32) then
      some (σ, (1 : Int32))
    else
      some (σ, (0 : Int32))
def f_X5_within (σ : Sg) (p0 : Int32) (p1 : Int32) (p2 : Int32) : Rs :=
  if p0 < p1 then
    some (σ, (0 : Int32))
  else
    if p2 < p0 then
      some (σ, (0 : Int32))
    else
      some (σ, (1 : Int32))
def f_X5_isPlayer (σ : Sg) (p0 : Int32) : Rs :=
  q_bnd (f_X5_within σ p0 (0 : Int32) (7 : Int32)) fun s1 r2 =>
  if vp_nar .boolean r2 = r2 then some (s1, r2) else none
def f_X5_at (a n : Nat) (σ : Sg) (p1 : Int32) : Rs :=
  if p1 < 0 then
    some (σ, (-4 : Int32))
  else
    if (Int32.ofNat n) ≤ p1 then
      some (σ, (-4 : Int32))
    else
      if q_oob p1 n then none else
      some (σ, σ a p1.toNatClampNeg)
def f_X5_set (a n : Nat) (σ : Sg) (p1 : Int32) (p2 : Int32) : Rs :=
  if p1 < 0 then
    some (σ, 0)
  else
    if (Int32.ofNat n) ≤ p1 then
      some (σ, 0)
    else
      if q_oob p1 n then none else
      q_lets (q_wr σ a p1.toNatClampNeg p2) fun s3 =>
      some (s3, 0)
def s_J7_fill_53178_L5 (a n : Nat) (rec : Sg → Int32 → Int32 → Int32 → Rs) (σ : Sg) (x1 : Int32) (x2 : Int32) (x3 : Int32) : Rs :=
  if x3 ≤ x2 then
    some (σ, 0)
  else
    if q_oob x2 n then none else
    q_lets (q_wr σ a x2.toNatClampNeg x1) fun s3 =>
    q_let (x2 + (1 : Int32)) fun v4 =>
    rec s3 x1 v4 x3
def f_J7_fill_53178_L5 (a n : Nat) (qn : Nat) : Sg → Int32 → Int32 → Int32 → Rs := Nat.rec (fun _ _ _ _ => none) (fun _ rec => s_J7_fill_53178_L5 a n rec) qn
def f_J7_fill_53178 (a n : Nat) (σ : Sg) (p1 : Int32) : Rs :=
  q_let (Int32.ofNat n) fun v1 =>
  f_J7_fill_53178_L5 a n 1000 σ p1 (0 : Int32) v1
def f_L_cell (a n : Nat) (σ : Sg) (p1 : Int32) : Rs :=
  if (Int32.ofNat n) ≤ p1 then
    some (σ, (625341585 : Int32) * (p1 + (3 : Int32)))
  else
    if q_oob p1 n then none else
    some (σ, σ a p1.toNatClampNeg)
def f_L_some (σ : Sg) (p0 : Int32) (p1 : Int32) : Rs :=
  if p1 = 0 then none else
  some (σ, (p0 &&& (2147483647 : Int32)) - (p0 &&& (2147483647 : Int32)) / p1 * p1)
def f_X3_init_9 (σ : Sg) : Rs :=
  q_lets (q_clr σ 10) fun s1 =>
  q_lets (q_clr s1 11) fun s2 =>
  some (s2, 0)
def f_X3_init_12 (σ : Sg) : Rs :=
  q_lets (q_clr σ 13) fun s1 =>
  q_lets (q_clr s1 14) fun s2 =>
  some (s2, 0)
def f_X2_init_1 (σ : Sg) : Rs :=
  q_lets (q_clr σ 2) fun s1 =>
  q_lets (q_clr s1 3) fun s2 =>
  q_lets (q_clr s2 4) fun s3 =>
  q_lets (q_clr s3 5) fun s4 =>
  q_lets (q_clr s4 6) fun s5 =>
  q_lets (q_clr s5 7) fun s6 =>
  q_lets (q_clr s6 8) fun s7 =>
  q_lets (q_clr s7 9) fun s8 =>
  q_bnd (f_X3_init_9 s8) fun s9 _ =>
  q_lets (q_clr s9 12) fun s11 =>
  q_bnd (f_X3_init_12 s11) fun s12 _ =>
  some (s12, 0)
def f_X0_init_15 (σ : Sg) : Rs :=
  q_lets (q_clr σ 16) fun s1 =>
  q_lets (q_clr s1 17) fun s2 =>
  q_lets (q_clr s2 18) fun s3 =>
  q_lets (q_clr s3 19) fun s4 =>
  q_lets (q_clr s4 20) fun s5 =>
  q_bnd (f_X5_set 17 2 s5 (0 : Int32) (5 : Int32)) fun s6 _ =>
  q_bnd (f_X5_set 18 2 s6 (0 : Int32) (82 : Int32)) fun s8 _ =>
  q_bnd (f_X5_set 17 2 s8 (1 : Int32) (2 : Int32)) fun s10 _ =>
  q_bnd (f_X5_set 18 2 s10 (1 : Int32) (78 : Int32)) fun s12 _ =>
  some (s12, 0)
def f_X4_init_21 (σ : Sg) : Rs :=
  q_lets (q_clr σ 22) fun s1 =>
  q_bnd (f_J7_fill_53178 22 8 s1 (1000 : Int32)) fun s2 _ =>
  some (s2, 0)
def f_X1_init_23 (σ : Sg) : Rs :=
  q_lets (q_clr σ 24) fun s1 =>
  q_lets (q_clr s1 25) fun s2 =>
  q_lets (q_wr s2 23 2 (2 : Int32)) fun s3 =>
  q_bnd (f_J7_fill_53178 24 15 s3 (-4 : Int32)) fun s4 _ =>
  q_bnd (f_J7_fill_53178 25 15 s4 (-4 : Int32)) fun s6 _ =>
  some (s6, 0)
def f_X5_init_0 (σ : Sg) : Rs :=
  q_lets (q_clr σ 1) fun s1 =>
  q_bnd (f_X2_init_1 s1) fun s2 _ =>
  q_lets (q_clr s2 15) fun s4 =>
  q_bnd (f_X0_init_15 s4) fun s5 _ =>
  q_lets (q_clr s5 21) fun s7 =>
  q_bnd (f_X4_init_21 s7) fun s8 _ =>
  q_lets (q_clr s8 23) fun s10 =>
  q_bnd (f_X1_init_23 s10) fun s11 _ =>
  some (s11, 0)
def f_X0_letterFor_J9 (σ : Sg) (x2 : Int32) (y0 : Int32) : Rs :=
  q_bnd (f_X5_at 17 2 σ y0) fun s2 r3 =>
  if r3 < x2 then
    some (s2, (-4 : Int32))
  else
    q_bnd (f_X5_at 18 2 s2 y0) fun s5 r6 =>
    some (s5, r6)
def f_X0_letterFor (σ : Sg) (p0 : Int32) (p1 : Int32) : Rs :=
  if p0 = 0 then
    f_X0_letterFor_J9 σ p1 (0 : Int32)
  else
    f_X0_letterFor_J9 σ p1 (1 : Int32)
def s_X0_append_L64 (rec : Sg → Int64 → Int32 → Rs) (σ : Sg) (x1 : Int64) (x4 : Int32) : Rs :=
  if x4 < 0 then
    some (σ, σ 15 1)
  else
    q_bnd (f_X0_byteOf σ x1 x4) fun s8 r9 =>
    q_bnd (f_X5_set 16 30 s8 (σ 15 1) r9) fun s10 _ =>
    q_lets (q_wr s10 15 1 ((s10 15 1) + (1 : Int32))) fun s12 =>
    q_let (x4 + (-1 : Int32)) fun v13 =>
    rec s12 x1 v13
def f_X0_append_L64 (qn : Nat) : Sg → Int64 → Int32 → Rs := Nat.rec (fun _ _ _ => none) (fun _ rec => s_X0_append_L64 rec) qn
def s_X0_append_L15 (rec : Sg → Int64 → Int32 → Int32 → Rs) (σ : Sg) (x1 : Int64) (x3 : Int32) (x4 : Int32) : Rs :=
  if x3 ≤ x4 then
    if ((σ 15 1) + x3) ≤ (30 : Int32) then
      q_let (x3 - (1 : Int32)) fun v6 =>
      f_X0_append_L64 1000 σ x1 v6
    else
      some (σ, (-3 : Int32))
  else
    q_bnd (f_X0_byteOf σ x1 x4) fun s14 r15 =>
    q_bnd (f_X5_within s14 r15 (32 : Int32) (126 : Int32)) fun s16 r17 =>
    if r17 = 0 then
      some (s16, (-1 : Int32))
    else
      q_let (x4 + (1 : Int32)) fun v19 =>
      rec s16 x1 x3 v19
def f_X0_append_L15 (qn : Nat) : Sg → Int64 → Int32 → Int32 → Rs := Nat.rec (fun _ _ _ _ => none) (fun _ rec => s_X0_append_L15 rec) qn
def f_X0_append (σ : Sg) (p0 : Int64) (p1 : Int32) : Rs :=
  q_bnd (f_X5_within σ p1 (1 : Int32) (8 : Int32)) fun s1 r2 =>
  if r2 = 0 then
    some (s1, (-1 : Int32))
  else
    f_X0_append_L15 1000 s1 p0 p1 (0 : Int32)
def f_X0_here (σ : Sg) : Rs :=
  if (σ 15 1) ≤ (σ 15 2) then
    some (σ, (-4 : Int32))
  else
    q_bnd (f_X5_at 16 30 σ (σ 15 2)) fun s2 r3 =>
    some (s2, r3)
def s_X0_skipBlanks_L0 (rec : Sg → Rs) (σ : Sg) : Rs :=
  if (σ 15 1) ≤ (σ 15 2) then
    some (σ, 0)
  else
    q_bnd (f_X0_here σ) fun s2 r3 =>
    if r3 = (32 : Int32) then
      q_lets (q_wr s2 15 2 ((s2 15 2) + (1 : Int32))) fun s5 =>
      rec s5
    else
      some (s2, 0)
def f_X0_skipBlanks_L0 (qn : Nat) : Sg → Rs := Nat.rec (fun _ => none) (fun _ rec => s_X0_skipBlanks_L0 rec) qn
def f_X0_skipBlanks (σ : Sg) : Rs :=
  f_X0_skipBlanks_L0 1000 σ
def f_X0_atEnd (σ : Sg) : Rs :=
  q_bnd (f_X0_skipBlanks σ) fun s1 _ =>
  if (s1 15 2) < (s1 15 1) then
    some (s1, (0 : Int32))
  else
    some (s1, (1 : Int32))
def f_X0_readNumber_J63 (σ : Sg) (x1 : Int32) (x2 : Int32) : Rs :=
  if (σ 15 2) = x1 then
    some (σ, (-4 : Int32))
  else
    if x2 ≤ (99 : Int32) then
      some (σ, x2)
    else
      q_lets (q_wr σ 15 2 x1) fun s5 =>
      some (s5, (-4 : Int32))
def s_X0_readNumber_L7 (rec : Sg → Int32 → Int32 → Rs) (σ : Sg) (x1 : Int32) (x2 : Int32) : Rs :=
  if (σ 15 1) ≤ (σ 15 2) then
    f_X0_readNumber_J63 σ x1 x2
  else
    q_bnd (f_X0_here σ) fun s6 r7 =>
    q_bnd (f_X5_within s6 r7 (48 : Int32) (57 : Int32)) fun s8 r9 =>
    if r9 = 0 then
      f_X0_readNumber_J63 s8 x1 x2
    else
      q_bnd (f_X0_here s8) fun s11 r12 =>
      q_let (if (((x2 * (10 : Int32)) + r12) - (48 : Int32)) < (100 : Int32) then (((x2 * (10 : Int32)) + r12) - (48 : Int32)) else (100 : Int32)) fun v13 =>
      q_lets (q_wr s11 15 2 ((s11 15 2) + (1 : Int32))) fun s14 =>
      rec s14 x1 v13
def f_X0_readNumber_L7 (qn : Nat) : Sg → Int32 → Int32 → Rs := Nat.rec (fun _ _ _ => none) (fun _ rec => s_X0_readNumber_L7 rec) qn
def f_X0_readNumber (σ : Sg) : Rs :=
  q_let (σ 15 2) fun v1 =>
  f_X0_readNumber_L7 1000 σ v1 (0 : Int32)
def f_X0_readClause_J98 (σ : Sg) (x1 : Int32) (x2 : Int32) (x3 : Int32) (y1 : Int32) : Rs :=
  q_bnd (f_X5_set 19 2 σ y1 x2) fun s19 _ =>
  if x1 = (112 : Int32) then
    q_bnd (f_X5_set 20 2 s19 (0 : Int32) x3) fun s22 _ =>
    some (s22, (1 : Int32))
  else
    q_bnd (f_X5_set 20 2 s19 (1 : Int32) x3) fun s24 _ =>
    some (s24, (1 : Int32))
def f_X0_readClause_J73 (σ : Sg) (x1 : Int32) (x2 : Int32) (x3 : Int32) : Rs :=
  q_lets (q_wr σ 15 2 ((σ 15 2) + (1 : Int32))) fun s17 =>
  if x1 = (112 : Int32) then
    f_X0_readClause_J98 s17 x1 x2 x3 (0 : Int32)
  else
    f_X0_readClause_J98 s17 x1 x2 x3 (1 : Int32)
def f_X0_readClause_J23 (σ : Sg) (x1 : Int32) : Rs :=
  q_lets (q_wr σ 15 2 ((σ 15 2) + (1 : Int32))) fun s6 =>
  q_bnd (f_X0_skipBlanks s6) fun s7 _ =>
  q_bnd (f_X0_readNumber s7) fun s9 r10 =>
  if r10 = (-4 : Int32) then
    some (s9, (0 : Int32))
  else
    q_bnd (f_X0_skipBlanks s9) fun s12 _ =>
    q_bnd (f_X0_here s12) fun s14 r15 =>
    if r15 = (82 : Int32) then
      f_X0_readClause_J73 s14 x1 r10 r15
    else
      if r15 = (78 : Int32) then
        f_X0_readClause_J73 s14 x1 r10 r15
      else
        some (s14, (0 : Int32))
def f_X0_readClause (σ : Sg) : Rs :=
  q_bnd (f_X0_skipBlanks σ) fun s1 _ =>
  q_bnd (f_X0_here s1) fun s3 r4 =>
  if r4 = (112 : Int32) then
    f_X0_readClause_J23 s3 r4
  else
    if r4 = (114 : Int32) then
      f_X0_readClause_J23 s3 r4
    else
      some (s3, (0 : Int32))
def f_X0_read (σ : Sg) : Rs :=
  q_bnd (f_X0_atEnd σ) fun s1 r2 =>
  if r2 = 0 then
    q_bnd (f_X0_readClause s1) fun s4 r5 =>
    if r5 = 0 then
      some (s4, (-20 : Int32) - (s4 15 2))
    else
      q_bnd (f_X0_atEnd s4) fun s7 r8 =>
      if r8 = 0 then
        q_bnd (f_X0_here s7) fun s10 r11 =>
        if r11 = (59 : Int32) then
          q_lets (q_wr s10 15 2 ((s10 15 2) + (1 : Int32))) fun s13 =>
          q_bnd (f_X0_readClause s13) fun s14 r15 =>
          if r15 = 0 then
            some (s14, (-20 : Int32) - (s14 15 2))
          else
            q_bnd (f_X0_atEnd s14) fun s17 r18 =>
            if r18 = 0 then
              some (s17, (-20 : Int32) - (s17 15 2))
            else
              some (s17, (2 : Int32))
        else
          some (s10, (-20 : Int32) - (s10 15 2))
      else
        some (s7, (1 : Int32))
  else
    some (s1, (0 : Int32))
def s_X0_adoptDraft_L2 (rec : Sg → Int32 → Rs) (σ : Sg) (x1 : Int32) : Rs :=
  if (2 : Int32) ≤ x1 then
    some (σ, 0)
  else
    q_bnd (f_X5_at 19 2 σ x1) fun s2 r3 =>
    q_bnd (f_X5_set 17 2 s2 x1 r3) fun s4 _ =>
    q_bnd (f_X5_at 20 2 s4 x1) fun s6 r7 =>
    q_bnd (f_X5_set 18 2 s6 x1 r7) fun s8 _ =>
    q_let (x1 + (1 : Int32)) fun v10 =>
    rec s8 v10
def f_X0_adoptDraft_L2 (qn : Nat) : Sg → Int32 → Rs := Nat.rec (fun _ _ => none) (fun _ rec => s_X0_adoptDraft_L2 rec) qn
def f_X0_adoptDraft (σ : Sg) : Rs :=
  f_X0_adoptDraft_L2 1000 σ (0 : Int32)
def f_X0_takeTape (σ : Sg) : Rs :=
  q_lets (q_wr σ 15 2 (0 : Int32)) fun s1 =>
  q_bnd (f_J7_fill_53178 20 2 s1 (-4 : Int32)) fun s2 _ =>
  q_bnd (f_X0_read s2) fun s4 r5 =>
  if r5 < 0 then
    q_lets (q_wr s4 15 1 (0 : Int32)) fun s7 =>
    some (s7, r5)
  else
    q_bnd (f_X0_adoptDraft s4) fun s8 _ =>
    q_lets (q_wr s8 15 1 (0 : Int32)) fun s10 =>
    some (s10, r5)
def f_X3_stopFor (o : Nat) (σ : Sg) (p0 : Int32) : Rs :=
  q_lets (q_wr σ o 2 p0) fun s1 =>
  q_lets (q_wr s1 o 3 (-4 : Int32)) fun s2 =>
  q_lets (q_wr s2 o 4 (0 : Int32)) fun s3 =>
  q_lets (q_wr s3 o 5 (0 : Int32)) fun s4 =>
  q_lets (q_wr s4 o 6 (-4 : Int32)) fun s5 =>
  q_lets (q_wr s5 o 7 (-4 : Int32)) fun s6 =>
  some (s6, 0)
def f_X3_begin (o : Nat) (σ : Sg) (p0 : Int32) (p1 : Int32) : Rs :=
  q_bnd (f_J7_fill_53178 (o + 1) 4 σ (0 : Int32)) fun s1 _ =>
  q_bnd (f_X5_set (o + 2) 2 s1 (0 : Int32) p0) fun s3 _ =>
  q_bnd (f_X5_set (o + 2) 2 s3 (1 : Int32) p1) fun s5 _ =>
  q_bnd (f_X3_stopFor o s5 (0 : Int32)) fun s7 _ =>
  some (s7, 0)
def f_X2_begin (σ : Sg) (p0 : Int32) (p1 : Int32) (p2 : Int32) (p3 : Int32) : Rs :=
  q_bnd (f_X5_set 8 2 σ (0 : Int32) p0) fun s1 _ =>
  q_bnd (f_X5_set 8 2 s1 (1 : Int32) p1) fun s3 _ =>
  q_lets (q_wr s3 1 11 p2) fun s5 =>
  q_lets (q_wr s5 1 12 p3) fun s6 =>
  q_lets (q_wr s6 1 9 (1 : Int32)) fun s7 =>
  q_lets (q_wr s7 1 10 (0 : Int32)) fun s8 =>
  q_bnd (f_X5_set 7 151 s8 (0 : Int32) (0 : Int32)) fun s9 _ =>
  q_bnd (f_X3_begin 9 s9 (s9 1 11) (s9 1 12)) fun s11 _ =>
  some (s11, 0)
def f_X3_isOut (o : Nat) (σ : Sg) (p0 : Int32) : Rs :=
  q_bnd (f_X5_at (o + 1) 4 σ p0) fun s1 r2 =>
  if r2 = (7 : Int32) then
    some (s1, (1 : Int32))
  else
    some (s1, (0 : Int32))
def f_X3_winner_J18 (o : Nat) (σ : Sg) : Rs :=
  q_bnd (f_X3_isOut o σ (1 : Int32)) fun s4 r5 =>
  if r5 = 0 then
    some (s4, (-4 : Int32))
  else
    q_bnd (f_X3_isOut o s4 (3 : Int32)) fun s7 r8 =>
    if r8 = 0 then
      some (s7, (-4 : Int32))
    else
      some (s7, (1 : Int32))
def f_X3_winner (o : Nat) (σ : Sg) : Rs :=
  q_bnd (f_X3_isOut o σ (0 : Int32)) fun s1 r2 =>
  if r2 = 0 then
    f_X3_winner_J18 o s1
  else
    q_bnd (f_X3_isOut o s1 (2 : Int32)) fun s10 r11 =>
    if r11 = 0 then
      f_X3_winner_J18 o s10
    else
      some (s10, (0 : Int32))
def f_X3_allowsFree (o : Nat) (σ : Sg) : Rs :=
  if (σ o 7) = (-4 : Int32) then
    some (σ, (0 : Int32))
  else
    q_bnd (f_X3_isOut o σ (σ o 7)) fun s2 r3 =>
    if r3 = 0 then
      q_bnd (f_X5_at (o + 2) 2 s2 ((1 : Int32) - (s2 o 2))) fun s5 r6 =>
      if r6 ≤ 0 then
        some (s5, (0 : Int32))
      else
        some (s5, (1 : Int32))
    else
      some (s2, (0 : Int32))
def f_X3_allowsFresh (o : Nat) (σ : Sg) (p0 : Int32) (p1 : Int32) : Rs :=
  if p0 < (2 : Int32) then
    some (σ, (1 : Int32))
  else
  if (5 : Int32) < p0 then
    some (σ, (1 : Int32))
  else
  if p0 = (2 : Int32) then
    q_bnd (f_X5_at (o + 1) 4 σ (σ o 3)) fun s4 r5 =>
    if (6 : Int32) ≤ r5 then
      some (s4, (0 : Int32))
    else
      some (s4, (1 : Int32))
  else
  if p0 = (3 : Int32) then
    if p1 = (σ o 3) then
      some (σ, (0 : Int32))
    else
      q_bnd (f_X3_isOut o σ p1) fun s9 r10 =>
      if r10 = 0 then
        some (s9, (1 : Int32))
      else
        some (s9, (0 : Int32))
  else
  if p0 = (4 : Int32) then
    some (σ, (1 : Int32))
  else
  if p0 = (5 : Int32) then
    q_bnd (f_X5_at (o + 1) 4 σ (σ o 3)) fun s14 r15 =>
    if r15 = (6 : Int32) then
      some (s14, (1 : Int32))
    else
      some (s14, (0 : Int32))
  else
  none
def f_X3_allows (o : Nat) (σ : Sg) (p0 : Int32) (p1 : Int32) : Rs :=
  q_bnd (f_X3_winner o σ) fun s1 r2 =>
  if r2 = (-4 : Int32) then
    if p0 = 0 then
      if (s1 o 3) = (-4 : Int32) then
        q_bnd (f_X3_isOut o s1 p1) fun s6 r7 =>
        if r7 = 0 then
          some (s6, (1 : Int32))
        else
          some (s6, (0 : Int32))
      else
        some (s1, (0 : Int32))
    else
      if p0 = (6 : Int32) then
        if (s1 o 3) = (-4 : Int32) then
          q_bnd (f_X3_allowsFree o s1) fun s11 r12 =>
          if r12 = 0 then
            some (s11, (0 : Int32))
          else
            some (s11, (1 : Int32))
        else
          some (s1, (0 : Int32))
      else
        if (s1 o 3) = (-4 : Int32) then
          some (s1, (0 : Int32))
        else
          if p0 = (4 : Int32) then
            if (s1 o 6) = (-4 : Int32) then
              some (s1, (0 : Int32))
            else
              some (s1, (1 : Int32))
          else
            if (s1 o 6) = (-4 : Int32) then
              q_bnd (f_X3_allowsFresh o s1 p0 p1) fun s18 r19 =>
              if r19 = 0 then
                some (s18, (0 : Int32))
              else
                some (s18, (1 : Int32))
            else
              some (s1, (0 : Int32))
  else
    some (s1, (0 : Int32))
def f_X3_isWrong (o : Nat) (σ : Sg) (p0 : Int32) (p1 : Int32) : Rs :=
  if p0 = 0 then
    if (p1 - p1 / (2 : Int32) * (2 : Int32)) = (σ o 2) then
      some (σ, (0 : Int32))
    else
      some (σ, (1 : Int32))
  else
    if p0 = (3 : Int32) then
      if (((σ o 5) >>> (p1 &&& 31)) &&& (1 : Int32)) = 0 then
        some (σ, (1 : Int32))
      else
        some (σ, (0 : Int32))
    else
      some (σ, (0 : Int32))
def f_X3_inPlay (o : Nat) (σ : Sg) : Rs :=
  some (σ, σ o 3)
def f_X3_side (o : Nat) (σ : Sg) : Rs :=
  some (σ, σ o 2)
def f_X2_noteStriker (σ : Sg) (p0 : Int32) : Rs :=
  q_bnd (f_X3_inPlay 9 σ) fun s1 r2 =>
  q_bnd (f_X5_set 4 150 s1 p0 r2) fun s3 _ =>
  q_bnd (f_X3_side 9 s3) fun s5 r6 =>
  q_bnd (f_X5_set 5 150 s5 p0 r6) fun s7 _ =>
  some (s7, 0)
def s_X3_bringIn_L17 (o : Nat) (rec : Sg → Int32 → Int32 → Rs) (σ : Sg) (x1 : Int32) (x2 : Int32) : Rs :=
  if (4 : Int32) ≤ x2 then
    some (σ, 0)
  else
    if x2 = x1 then
      q_let (x2 + (1 : Int32)) fun v6 =>
      rec σ x1 v6
    else
      q_bnd (f_X5_at (o + 1) 4 σ x2) fun s7 r8 =>
      if r8 = (7 : Int32) then
        q_let (x2 + (1 : Int32)) fun v10 =>
        rec s7 x1 v10
      else
        q_lets (q_wr s7 o 5 ((s7 o 5) ||| ((1 : Int32) <<< (x2 &&& 31)))) fun s11 =>
        q_let (x2 + (1 : Int32)) fun v12 =>
        rec s11 x1 v12
def f_X3_bringIn_L17 (o : Nat) (qn : Nat) : Sg → Int32 → Int32 → Rs := Nat.rec (fun _ _ _ => none) (fun _ rec => s_X3_bringIn_L17 o rec) qn
def f_X3_bringIn (o : Nat) (σ : Sg) (p0 : Int32) : Rs :=
  q_lets (q_wr σ o 3 p0) fun s1 =>
  q_lets (q_wr s1 o 4 (1 : Int32)) fun s2 =>
  q_lets (q_wr s2 o 5 (0 : Int32)) fun s3 =>
  f_X3_bringIn_L17 o 1000 s3 p0 (0 : Int32)
def f_X3_endTurn (o : Nat) (σ : Sg) : Rs :=
  if (σ o 3) = (-4 : Int32) then
    some (σ, 0)
  else
    q_let (σ o 3) fun v2 =>
    q_bnd (f_X3_stopFor o σ ((1 : Int32) - (σ o 2))) fun s3 _ =>
    q_lets (q_wr s3 o 7 v2) fun s5 =>
    some (s5, 0)
def f_X3_roquet (o : Nat) (σ : Sg) (p0 : Int32) : Rs :=
  q_lets (q_wr σ o 4 ((σ o 4) - (1 : Int32))) fun s1 =>
  q_lets (q_wr s1 o 5 ((s1 o 5) &&& (((1 : Int32) <<< (p0 &&& 31)) ^^^ (-1 : Int32)))) fun s2 =>
  q_lets (q_wr s2 o 6 p0) fun s3 =>
  some (s3, 0)
def f_X3_croquet (o : Nat) (σ : Sg) : Rs :=
  q_lets (q_wr σ o 4 (1 : Int32)) fun s1 =>
  q_lets (q_wr s1 o 6 (-4 : Int32)) fun s2 =>
  some (s2, 0)
def f_X3_spendFree (o : Nat) (σ : Sg) : Rs :=
  q_lets (q_wr σ o 2 ((1 : Int32) - (σ o 2))) fun s1 =>
  q_bnd (f_X5_at (o + 2) 2 s1 (s1 o 2)) fun s2 r3 =>
  q_bnd (f_X5_set (o + 2) 2 s2 (s1 o 2) (r3 - (1 : Int32))) fun s4 _ =>
  some (s4, 0)
def f_X3_lead_J125 (o : Nat) (σ : Sg) : Rs :=
  q_bnd (f_X3_spendFree o σ) fun s2 _ =>
  q_bnd (f_X3_bringIn o s2 (s2 o 7)) fun s4 _ =>
  some (s4, 0)
def f_X3_lead (o : Nat) (σ : Sg) (p0 : Int32) (p1 : Int32) : Rs :=
  if p0 < (0 : Int32) then
    f_X3_lead_J125 o σ
  else
  if (5 : Int32) < p0 then
    f_X3_lead_J125 o σ
  else
  if p0 = (0 : Int32) then
    q_bnd (f_X3_bringIn o σ p1) fun s8 _ =>
    some (s8, 0)
  else
  if p0 = (1 : Int32) then
    q_bnd (f_X3_endTurn o σ) fun s11 _ =>
    some (s11, 0)
  else
  if p0 = (2 : Int32) then
    q_bnd (f_X5_at (o + 1) 4 σ (σ o 3)) fun s14 r15 =>
    q_bnd (f_X5_set (o + 1) 4 s14 (σ o 3) (r15 + (1 : Int32))) fun s16 _ =>
    q_bnd (f_X3_bringIn o s16 (s16 o 3)) fun s18 _ =>
    some (s18, 0)
  else
  if p0 = (3 : Int32) then
    q_bnd (f_X3_roquet o σ p1) fun s21 _ =>
    some (s21, 0)
  else
  if p0 = (4 : Int32) then
    q_bnd (f_X3_croquet o σ) fun s24 _ =>
    some (s24, 0)
  else
  if p0 = (5 : Int32) then
    q_bnd (f_X5_set (o + 1) 4 σ (σ o 3) (7 : Int32)) fun s27 _ =>
    q_bnd (f_X3_endTurn o s27) fun s29 _ =>
    some (s29, 0)
  else
  none
def f_X2_take_J116 (σ : Sg) (x3 : Int32) : Rs :=
  q_lets (q_wr σ 1 10 (x3 + (1 : Int32))) fun s26 =>
  q_bnd (f_X5_set 7 151 s26 (s26 1 10) (0 : Int32)) fun s27 _ =>
  some (s27, x3)
def f_X2_take_J95 (σ : Sg) (x1 : Int32) (x2 : Int32) (x3 : Int32) : Rs :=
  q_bnd (f_X3_lead 9 σ x1 x2) fun s21 _ =>
  q_bnd (f_X2_begins s21 x1) fun s23 r24 =>
  if r24 = 0 then
    f_X2_take_J116 s23 x3
  else
    q_bnd (f_X2_noteStriker s23 x3) fun s29 _ =>
    f_X2_take_J116 s29 x3
def f_X2_take_J80 (σ : Sg) (x1 : Int32) (x2 : Int32) (x3 : Int32) (y1 : Int32) (y2 : Int32) : Rs :=
  q_bnd (f_X5_set 6 150 σ y1 y2) fun s14 _ =>
  q_bnd (f_X2_begins s14 x1) fun s16 r17 =>
  if r17 = 0 then
    q_bnd (f_X2_noteStriker s16 x3) fun s19 _ =>
    f_X2_take_J95 s19 x1 x2 x3
  else
    f_X2_take_J95 s16 x1 x2 x3
def f_X2_take (σ : Sg) (p0 : Int32) (p1 : Int32) : Rs :=
  if (σ 1 9) = 0 then
    some (σ, (-2 : Int32))
  else
    q_bnd (f_X3_allows 9 σ p0 p1) fun s2 r3 =>
    if r3 = 0 then
      some (s2, (-2 : Int32))
    else
      if (s2 1 10) < (150 : Int32) then
        q_let (s2 1 10) fun v6 =>
        q_bnd (f_X5_set 2 150 s2 v6 p0) fun s7 _ =>
        q_bnd (f_X5_set 3 150 s7 v6 p1) fun s9 _ =>
        q_bnd (f_X3_isWrong 9 s9 p0 p1) fun s11 r12 =>
        if r12 = 0 then
          f_X2_take_J80 s11 p0 p1 v6 v6 (0 : Int32)
        else
          f_X2_take_J80 s11 p0 p1 v6 v6 (1 : Int32)
      else
        some (s2, (-3 : Int32))
def f_X2_has (σ : Sg) (p0 : Int32) : Rs :=
  if p0 < 0 then
    some (σ, (0 : Int32))
  else
    if (σ 1 10) ≤ p0 then
      some (σ, (0 : Int32))
    else
      some (σ, (1 : Int32))
def f_X2_tell (σ : Sg) (p0 : Int32) (p1 : Int32) : Rs :=
  q_bnd (f_X2_has σ p0) fun s1 r2 =>
  if r2 = 0 then
    some (s1, (-4 : Int32))
  else
    if p1 < (0 : Int32) then
      q_bnd (f_X5_at 6 150 s1 p0) fun s5 r6 =>
      some (s5, r6)
    else
    if (2 : Int32) < p1 then
      q_bnd (f_X5_at 6 150 s1 p0) fun s8 r9 =>
      some (s8, r9)
    else
    if p1 = (0 : Int32) then
      q_bnd (f_X5_at 2 150 s1 p0) fun s11 r12 =>
      some (s11, r12)
    else
    if p1 = (1 : Int32) then
      q_bnd (f_X5_at 4 150 s1 p0) fun s14 r15 =>
      some (s14, r15)
    else
    if p1 = (2 : Int32) then
      q_bnd (f_X5_at 5 150 s1 p0) fun s17 r18 =>
      some (s17, r18)
    else
    none
def f_X2_obey (o : Nat) (σ : Sg) (p1 : Int32) : Rs :=
  if p1 = (1 : Int32) then
    q_bnd (f_X3_endTurn o σ) fun s2 _ =>
    some (s2, 0)
  else
    if p1 < (2 : Int32) then
      some (σ, 0)
    else
      q_bnd (f_X3_stopFor o σ (p1 - (2 : Int32))) fun s5 _ =>
      some (s5, 0)
def s_X2_leadTo_L26 (o : Nat) (rec : Sg → Int32 → Int32 → Rs) (σ : Sg) (x2 : Int32) (x3 : Int32) : Rs :=
  if x2 ≤ x3 then
    some (σ, 0)
  else
    if (σ 1 10) ≤ x3 then
      some (σ, 0)
    else
      q_bnd (f_X5_at 2 150 σ x3) fun s9 r10 =>
      q_bnd (f_X5_at 3 150 s9 x3) fun s11 r12 =>
      q_bnd (f_X3_lead o s11 r10 r12) fun s13 _ =>
      q_bnd (f_X5_at 7 151 s13 (x3 + (1 : Int32))) fun s15 r16 =>
      q_bnd (f_X2_obey o s15 r16) fun s17 _ =>
      q_let (x3 + (1 : Int32)) fun v19 =>
      rec s17 x2 v19
def f_X2_leadTo_L26 (o : Nat) (qn : Nat) : Sg → Int32 → Int32 → Rs := Nat.rec (fun _ _ _ => none) (fun _ rec => s_X2_leadTo_L26 o rec) qn
def f_X2_leadTo (o : Nat) (σ : Sg) (p1 : Int32) : Rs :=
  q_bnd (f_X3_begin o σ (σ 1 11) (σ 1 12)) fun s1 _ =>
  q_bnd (f_X5_at 7 151 s1 (0 : Int32)) fun s3 r4 =>
  q_bnd (f_X2_obey o s3 r4) fun s5 _ =>
  f_X2_leadTo_L26 o 1000 s5 p1 (0 : Int32)
def f_X3_tell_J112 (o : Nat) (σ : Sg) (x1 : Int32) : Rs :=
  q_bnd (f_X5_at (o + 1) 4 σ (x1 - (5 : Int32))) fun s2 r3 =>
  some (s2, r3)
def f_X3_tell (o : Nat) (σ : Sg) (p0 : Int32) : Rs :=
  if p0 < (0 : Int32) then
    f_X3_tell_J112 o σ p0
  else
  if (11 : Int32) < p0 then
    f_X3_tell_J112 o σ p0
  else
  if p0 = (0 : Int32) then
    some (σ, σ o 2)
  else
  if p0 = (1 : Int32) then
    some (σ, σ o 3)
  else
  if p0 = (2 : Int32) then
    some (σ, σ o 4)
  else
  if p0 = (3 : Int32) then
    some (σ, σ o 5)
  else
  if p0 = (4 : Int32) then
    some (σ, σ o 6)
  else
  if p0 = (5 : Int32) then
    f_X3_tell_J112 o σ p0
  else
  if p0 = (6 : Int32) then
    f_X3_tell_J112 o σ p0
  else
  if p0 = (7 : Int32) then
    f_X3_tell_J112 o σ p0
  else
  if p0 = (8 : Int32) then
    f_X3_tell_J112 o σ p0
  else
  if p0 = (9 : Int32) then
    q_bnd (f_X5_at (o + 2) 2 σ (0 : Int32)) fun s15 r16 =>
    some (s15, r16)
  else
  if p0 = (10 : Int32) then
    q_bnd (f_X5_at (o + 2) 2 σ (1 : Int32)) fun s18 r19 =>
    some (s18, r19)
  else
  if p0 = (11 : Int32) then
    q_bnd (f_X3_winner o σ) fun s21 r22 =>
    some (s21, r22)
  else
  none
def f_X2_asOf (σ : Sg) (p0 : Int32) (p1 : Int32) : Rs :=
  if (σ 1 9) = 0 then
    some (σ, (-1 : Int32))
  else
    if p0 < 0 then
      some (σ, (-1 : Int32))
    else
      if p0 ≤ (σ 1 10) then
        q_bnd (f_X2_leadTo 12 σ p0) fun s4 _ =>
        q_bnd (f_X3_tell 12 s4 p1) fun s6 r7 =>
        some (s6, r7)
      else
        some (σ, (-1 : Int32))
def f_X2_takeAway (σ : Sg) (p0 : Int32) : Rs :=
  q_bnd (f_X5_at 5 150 σ p0) fun s1 r2 =>
  q_bnd (f_X5_set 7 151 s1 p0 ((3 : Int32) - r2)) fun s3 _ =>
  q_lets (q_wr s3 1 10 p0) fun s5 =>
  q_bnd (f_X2_leadTo 9 s5 (s5 1 10)) fun s6 _ =>
  some (s6, (1 : Int32))
def f_X2_stopTurn (σ : Sg) (p0 : Int32) : Rs :=
  q_bnd (f_X5_set 6 150 σ p0 (0 : Int32)) fun s1 _ =>
  q_bnd (f_X3_inPlay 9 s1) fun s3 r4 =>
  if r4 = (-4 : Int32) then
    some (s3, (2 : Int32))
  else
    q_bnd (f_X5_set 7 151 s3 (s3 1 10) (1 : Int32)) fun s6 _ =>
    q_bnd (f_X3_endTurn 9 s6) fun s8 _ =>
    some (s8, (2 : Int32))
def f_X2_find (σ : Sg) (p0 : Int32) : Rs :=
  q_bnd (f_X2_has σ p0) fun s1 r2 =>
  if r2 = 0 then
    some (s1, (-1 : Int32))
  else
    q_bnd (f_X5_at 6 150 s1 p0) fun s4 r5 =>
    if r5 = 0 then
      some (s4, (-2 : Int32))
    else
      q_bnd (f_X5_at 2 150 s4 p0) fun s7 r8 =>
      q_bnd (f_X0_letterFor s7 r8 (((s7 1 10) - (1 : Int32)) - p0)) fun s9 r10 =>
      if r10 = (-4 : Int32) then
        some (s9, (-2 : Int32))
      else
        if r10 = (82 : Int32) then
          q_bnd (f_X2_takeAway s9 p0) fun s13 r14 =>
          some (s13, r14)
        else
          q_bnd (f_X2_stopTurn s9 p0) fun s15 r16 =>
          some (s15, r16)
def f_X2_counts (σ : Sg) (p0 : Int32) (p1 : Int32) : Rs :=
  if p1 = 0 then
    some (σ, (1 : Int32))
  else
    if p1 = (1 : Int32) then
      q_bnd (f_X5_at 6 150 σ p0) fun s3 r4 =>
      if r4 = (1 : Int32) then
        some (s3, (1 : Int32))
      else
        some (s3, (0 : Int32))
    else
      q_bnd (f_X5_at 2 150 σ p0) fun s6 r7 =>
      q_bnd (f_X2_begins s6 r7) fun s8 r9 =>
      if vp_nar .boolean r9 = r9 then some (s8, r9) else none
def s_X2_total_L4 (rec : Sg → Int32 → Int32 → Int32 → Rs) (σ : Sg) (x1 : Int32) (x2 : Int32) (x3 : Int32) : Rs :=
  if (σ 1 10) ≤ x3 then
    some (σ, x2)
  else
    if (150 : Int32) ≤ x3 then
      some (σ, x2)
    else
      q_bnd (f_X2_counts σ x3 x1) fun s3 r4 =>
      if r4 = 0 then
        q_let (x3 + (1 : Int32)) fun v6 =>
        rec s3 x1 x2 v6
      else
        q_let (x2 + (1 : Int32)) fun v7 =>
        q_let (x3 + (1 : Int32)) fun v8 =>
        rec s3 x1 v7 v8
def f_X2_total_L4 (qn : Nat) : Sg → Int32 → Int32 → Int32 → Rs := Nat.rec (fun _ _ _ _ => none) (fun _ rec => s_X2_total_L4 rec) qn
def f_X2_total (σ : Sg) (p0 : Int32) : Rs :=
  f_X2_total_L4 1000 σ p0 (0 : Int32) (0 : Int32)
def f_X4_put (σ : Sg) (p0 : Int32) (p1 : Int32) : Rs :=
  q_bnd (f_X5_at 22 8 σ p0) fun s1 r2 =>
  q_bnd (f_X5_set 22 8 s1 p0 p1) fun s3 _ =>
  some (s3, r2)
def f_X4_handicapOf (σ : Sg) (p0 : Int32) : Rs :=
  q_bnd (f_X5_at 22 8 σ p0) fun s1 r2 =>
  some (s1, (20 : Int32) - (r2 / (100 : Int32)))
def f_X4_freeTurnsOfOther (σ : Sg) (p0 : Int32) (p1 : Int32) : Rs :=
  q_bnd (f_X4_handicapOf σ p1) fun s1 r2 =>
  q_bnd (f_X4_handicapOf s1 p0) fun s3 r4 =>
  q_let (r2 - r4) fun v5 =>
  q_let (if 0 ≤ v5 then v5 else 0 - v5) fun v6 =>
  q_let ((v6 + (1 : Int32)) / (2 : Int32)) fun v7 =>
  if 0 ≤ v5 then
    some (s3, v7)
  else
    some (s3, -v7)
def f_X5_game (σ : Sg) (p0 : Int32) (p1 : Int32) : Rs :=
  q_bnd (f_X5_isPlayer σ p0) fun s1 r2 =>
  if r2 = 0 then
    some (s1, (-101 : Int32))
  else
    q_bnd (f_X5_isPlayer s1 p1) fun s4 r5 =>
    if r5 = 0 then
      some (s4, (-101 : Int32))
    else
      if p0 = p1 then
        some (s4, (-101 : Int32))
      else
        q_bnd (f_X4_freeTurnsOfOther s4 p0 p1) fun s8 r9 =>
        q_let (if (0 : Int32) < (-r9) then (-r9) else (0 : Int32)) fun v10 =>
        q_let (if (0 : Int32) < r9 then r9 else (0 : Int32)) fun v11 =>
        q_bnd (f_X2_begin s8 p0 p1 v10 v11) fun s12 _ =>
        some (s12, r9)
def f_X5_stroke_J42 (σ : Sg) (x1 : Int32) (x2 : Int32) (x3 : Int32) : Rs :=
  if x3 = 0 then
    q_bnd (f_X2_take σ x1 (0 : Int32)) fun s7 r8 =>
    some (s7, r8)
  else
    q_bnd (f_X2_take σ x1 x2) fun s9 r10 =>
    some (s9, r10)
def f_X5_stroke_J26 (σ : Sg) (x1 : Int32) (x2 : Int32) (y0 : Int32) : Rs :=
  if y0 = 0 then
    f_X5_stroke_J42 σ x1 x2 y0
  else
    q_bnd (f_X5_within σ x2 (0 : Int32) (3 : Int32)) fun s11 r12 =>
    if r12 = 0 then
      some (s11, (-1 : Int32))
    else
      f_X5_stroke_J42 s11 x1 x2 y0
def f_X5_stroke_J21 (σ : Sg) (x1 : Int32) (x2 : Int32) : Rs :=
  f_X5_stroke_J26 σ x1 x2 (1 : Int32)
def f_X5_stroke (σ : Sg) (p0 : Int32) (p1 : Int32) : Rs :=
  q_bnd (f_X5_within σ p0 (0 : Int32) (6 : Int32)) fun s1 r2 =>
  if r2 = 0 then
    some (s1, (-1 : Int32))
  else
    if p0 = 0 then
      f_X5_stroke_J21 s1 p0 p1
    else
      if p0 = (3 : Int32) then
        f_X5_stroke_J21 s1 p0 p1
      else
        f_X5_stroke_J26 s1 p0 p1 (0 : Int32)
def f_X5_told (σ : Sg) (p0 : Int32) (p1 : Int32) : Rs :=
  if p0 < 0 then
    some (σ, (-1 : Int32))
  else
    q_bnd (f_X5_within σ p1 (0 : Int32) (3 : Int32)) fun s2 r3 =>
    if r3 = 0 then
      some (s2, (-1 : Int32))
    else
      q_bnd (f_X2_tell s2 p0 p1) fun s5 r6 =>
      some (s5, r6)
def f_X5_state (σ : Sg) (p0 : Int32) (p1 : Int32) : Rs :=
  q_bnd (f_X5_within σ p1 (0 : Int32) (11 : Int32)) fun s1 r2 =>
  if r2 = 0 then
    some (s1, (-1 : Int32))
  else
    q_bnd (f_X2_asOf s1 p0 p1) fun s4 r5 =>
    some (s4, r5)
def f_X5_found (σ : Sg) (p0 : Int32) : Rs :=
  q_bnd (f_X2_find σ p0) fun s1 r2 =>
  some (s1, r2)
def f_X5_type (σ : Sg) (p0 : Int64) (p1 : Int32) : Rs :=
  q_bnd (f_X0_append σ p0 p1) fun s1 r2 =>
  some (s1, r2)
def f_X5_laws (σ : Sg) : Rs :=
  q_bnd (f_X0_takeTape σ) fun s1 r2 =>
  some (s1, r2)
def f_X5_count (σ : Sg) (p0 : Int32) : Rs :=
  q_bnd (f_X5_within σ p0 (0 : Int32) (2 : Int32)) fun s1 r2 =>
  if r2 = 0 then
    some (s1, (-1 : Int32))
  else
    q_bnd (f_X2_total s1 p0) fun s4 r5 =>
    some (s4, r5)
def f_X5_index (σ : Sg) (p0 : Int32) (p1 : Int32) : Rs :=
  q_bnd (f_X5_isPlayer σ p0) fun s1 r2 =>
  if r2 = 0 then
    some (s1, (-1 : Int32))
  else
    q_bnd (f_X5_within s1 p1 (0 : Int32) (2000 : Int32)) fun s4 r5 =>
    if r5 = 0 then
      some (s4, (-1 : Int32))
    else
      q_bnd (f_X4_put s4 p0 p1) fun s7 r8 =>
      some (s7, r8)
def s_L_told_L5 (rec : Sg → Int32 → Int64 → Int32 → Rs) (σ : Sg) (x1 : Int32) (x2 : Int64) (x4 : Int32) : Rs :=
  if (12 : Int32) ≤ x4 then
    some (q_wrl σ 200 0 x2, 0)
  else
    q_bnd (f_X5_state σ x1 x4) fun s2 r3 =>
    q_letJ ((((41 : Int64) * x2) + r3.toInt64) + (5 : Int64)) fun v4 =>
    q_let (x4 + (1 : Int32)) fun v5 =>
    rec s2 x1 v4 v5
def f_L_told_L5 (qn : Nat) : Sg → Int32 → Int64 → Int32 → Rs := Nat.rec (fun _ _ _ _ => none) (fun _ rec => s_L_told_L5 rec) qn
def f_L_told (σ : Sg) (p1 : Int32) : Rs :=
  f_L_told_L5 1000 σ p1 (0 : Int64) (0 : Int32)
def f_L_laws_J72 (σ : Sg) (x3 : Int32) (x4 : Int32) (y0 : Int32) : Rs :=
  if y0 = 0 then
    some (σ, (0 : Int32))
  else
    q_bnd (f_X5_type σ (114 : Int64) (1 : Int32)) fun s14 r15 =>
    if r15 = (6 : Int32) then
      q_bnd (f_X5_type s14 (((((48 : Int64) + ((x3 / (10 : Int32)).toInt64)) * (256 : Int64)) + (48 : Int64)) + ((x3 - x3 / (10 : Int32) * (10 : Int32)).toInt64)) (2 : Int32)) fun s17 r18 =>
      if r18 = (8 : Int32) then
        q_bnd (f_X5_type s17 x4.toInt64 (1 : Int32)) fun s20 r21 =>
        if r21 = (9 : Int32) then
          q_bnd (f_X5_laws s20) fun s23 r24 =>
          if r24 = (2 : Int32) then
            some (s23, (1 : Int32))
          else
            some (s23, (0 : Int32))
        else
          some (s20, (0 : Int32))
      else
        some (s17, (0 : Int32))
    else
      some (s14, (0 : Int32))
def f_L_laws_J71 (σ : Sg) (x3 : Int32) (x4 : Int32) : Rs :=
  f_L_laws_J72 σ x3 x4 (0 : Int32)
def f_L_laws (σ : Sg) (p1 : Int32) (p2 : Int32) (p3 : Int32) (p4 : Int32) : Rs :=
  q_bnd (f_X5_type σ (112 : Int64) (1 : Int32)) fun s1 r2 =>
  if r2 = (1 : Int32) then
    q_bnd (f_X5_type s1 (((((48 : Int64) + ((p1 / (10 : Int32)).toInt64)) * (256 : Int64)) + (48 : Int64)) + ((p1 - p1 / (10 : Int32) * (10 : Int32)).toInt64)) (2 : Int32)) fun s4 r5 =>
    if r5 = (3 : Int32) then
      q_bnd (f_X5_type s4 p2.toInt64 (1 : Int32)) fun s7 r8 =>
      if r8 = (4 : Int32) then
        q_bnd (f_X5_type s7 (59 : Int64) (1 : Int32)) fun s10 r11 =>
        if r11 = (5 : Int32) then
          f_L_laws_J72 s10 p3 p4 (1 : Int32)
        else
          f_L_laws_J71 s10 p3 p4
      else
        f_L_laws_J71 s7 p3 p4
    else
      f_L_laws_J71 s4 p3 p4
  else
    f_L_laws_J71 s1 p3 p4
def s_L_law_L506 (N : Nat) (rec : Sg → Int32 → Int32 → Int32 → Rs) (rec2 : Sg → Int32 → Int32 → Int32 → Int32 → Rs) (σ : Sg) (x4 : Int32) (x5 : Int32) (x6 : Int32) (x7 : Int32) : Rs :=
  if (4 : Int32) ≤ x7 then
    q_let (x6 + (1 : Int32)) fun v36 =>
    rec σ x4 x5 v36
  else
    q_bnd (f_X5_state σ x6 ((5 : Int32) + x7)) fun s37 r38 =>
    q_bnd (f_X5_state s37 (x6 + (1 : Int32)) ((5 : Int32) + x7)) fun s39 r40 =>
    if r40 = r38 then
      q_let (x7 + (1 : Int32)) fun v42 =>
      rec2 s39 x4 x5 x6 v42
    else
      if r40 = (r38 + (1 : Int32)) then
        q_let (x7 + (1 : Int32)) fun v44 =>
        rec2 s39 x4 x5 x6 v44
      else
        none
def f_L_law_L506 (N : Nat) (rec : Sg → Int32 → Int32 → Int32 → Rs) (qn : Nat) : Sg → Int32 → Int32 → Int32 → Int32 → Rs := Nat.rec (fun _ _ _ _ _ => none) (fun _ rec2 => s_L_law_L506 N rec rec2) qn
def s_L_law_L484 (N : Nat) (rec : Sg → Int32 → Int32 → Int32 → Rs) (σ : Sg) (x4 : Int32) (x5 : Int32) (x6 : Int32) : Rs :=
  if x4 ≤ x6 then
    q_bnd (f_X5_count σ (1 : Int32)) fun s29 r30 =>
    if r30 = x5 then
      some (s29, (1 : Int32))
    else
      none
  else
    q_bnd (f_X5_told σ x6 (3 : Int32)) fun s32 r33 =>
    q_let (x5 + r33) fun v34 =>
    f_L_law_L506 N rec 1000 s32 x4 v34 x6 (0 : Int32)
def f_L_law_L484 (N : Nat) (qn : Nat) : Sg → Int32 → Int32 → Int32 → Rs := Nat.rec (fun _ _ _ _ => none) (fun _ rec => s_L_law_L484 N rec) qn
def s_L_law_L443 (N : Nat) (rec : Sg → Int32 → Int32 → Rs) (rec2 : Sg → Int32 → Int32 → Int32 → Rs) (σ : Sg) (x4 : Int32) (x5 : Int32) (x10 : Int32) : Rs :=
  if x4 < x10 then
    q_let (x5 + (1 : Int32)) fun v68 =>
    rec σ x4 v68
  else
    q_bnd (f_L_told σ x10) fun s69 _ =>
    if q_oob x10 64 then none else
    if (lg_cmp (q_lg s69 200 0) (q_lg s69 26 x10.toNatClampNeg)) = 0 then
      q_let (x10 + (1 : Int32)) fun v72 =>
      rec2 s69 x4 x5 v72
    else
      none
def f_L_law_L443 (N : Nat) (rec : Sg → Int32 → Int32 → Rs) (qn : Nat) : Sg → Int32 → Int32 → Int32 → Rs := Nat.rec (fun _ _ _ _ => none) (fun _ rec2 => s_L_law_L443 N rec rec2) qn
def f_L_law_J428 (N : Nat) (rec : Sg → Int32 → Int32 → Rs) (σ : Sg) (x4 : Int32) (x5 : Int32) : Rs :=
  q_bnd (f_X5_count σ (0 : Int32)) fun s64 r65 =>
  if r65 = x4 then
    f_L_law_L443 N rec 1000 s64 x4 x5 (0 : Int32)
  else
    none
def f_L_law_J418 (N : Nat) (rec : Sg → Int32 → Int32 → Rs) (σ : Sg) (x4 : Int32) (x5 : Int32) : Rs :=
  q_bnd (f_L_told σ x4) fun s101 _ =>
  if q_oob x4 64 then none else
  q_lets (q_wrl s101 26 x4.toNatClampNeg (q_lg s101 200 0)) fun s103 =>
  f_L_law_J428 N rec s103 x4 x5
def f_L_law_J376 (N : Nat) (rec : Sg → Int32 → Int32 → Rs) (σ : Sg) (x4 : Int32) (x5 : Int32) (x10 : Int32) (x12 : Int32) (x13 : Int32) : Rs :=
  if x13 = (2 : Int32) then
    q_bnd (f_X5_told σ x10 (3 : Int32)) fun s92 r93 =>
    if r93 = 0 then
      q_bnd (f_X5_told s92 x10 (0 : Int32)) fun s95 r96 =>
      if r96 = x12 then
        q_bnd (f_X5_state s95 x4 (1 : Int32)) fun s98 r99 =>
        if r99 = (-4 : Int32) then
          f_L_law_J418 N rec s98 x4 x5
        else
          none
      else
        none
    else
      none
  else
    f_L_law_J418 N rec σ x4 x5
def f_L_law_J334 (N : Nat) (rec : Sg → Int32 → Int32 → Rs) (σ : Sg) (x4 : Int32) (x5 : Int32) (x10 : Int32) (x12 : Int32) (x13 : Int32) : Rs :=
  if x13 = (-1 : Int32) then
    none
  else
    if x13 = (1 : Int32) then
      q_bnd (f_X5_state σ x10 (1 : Int32)) fun s85 r86 =>
      if r86 = (-4 : Int32) then
        q_bnd (f_X5_state s85 x10 (2 : Int32)) fun s88 r89 =>
        if r89 = 0 then
          f_L_law_J376 N rec s88 x10 x5 x10 x12 x13
        else
          none
      else
        none
    else
      f_L_law_J376 N rec σ x4 x5 x10 x12 x13
def f_L_law_J303 (N : Nat) (rec : Sg → Int32 → Int32 → Rs) (σ : Sg) (x4 : Int32) (x5 : Int32) (x10 : Int32) (y0 : Int32) : Rs :=
  q_bnd (f_X5_told σ x10 (0 : Int32)) fun s78 r79 =>
  q_bnd (f_X5_found s78 x10) fun s80 r81 =>
  if r81 = (-2 : Int32) then
    f_L_law_J334 N rec s80 x4 x5 x10 r79 r81
  else
    if y0 = 0 then
      none
    else
      f_L_law_J334 N rec s80 x4 x5 x10 r79 r81
def f_L_law_J258 (N : Nat) (rec : Sg → Int32 → Int32 → Rs) (σ : Sg) (x4 : Int32) (x5 : Int32) (x6 : Int32) : Rs :=
  q_bnd (f_L_some σ (x6 >>> ((6 : Int32) &&& 31)) (4 : Int32)) fun s60 r61 =>
  if r61 = 0 then
    if x4 ≤ 0 then
      f_L_law_J428 N rec s60 x4 x5
    else
      q_bnd (f_L_some s60 (x6 >>> ((8 : Int32) &&& 31)) x4) fun s73 r74 =>
      q_bnd (f_X5_told s73 r74 (3 : Int32)) fun s75 r76 =>
      if r76 = (1 : Int32) then
        f_L_law_J303 N rec s75 x4 x5 r74 (1 : Int32)
      else
        f_L_law_J303 N rec s75 x4 x5 r74 (0 : Int32)
  else
    f_L_law_J428 N rec s60 x4 x5
def f_L_law_J187 (N : Nat) (rec : Sg → Int32 → Int32 → Rs) (σ : Sg) (x4 : Int32) (x5 : Int32) (x6 : Int32) (y0 : Int32) : Rs :=
  q_bnd (f_L_some σ (x6 >>> ((3 : Int32) &&& 31)) (4 : Int32)) fun s55 r56 =>
  q_bnd (f_X5_stroke s55 y0 r56) fun s57 r58 =>
  if r58 < 0 then
    f_L_law_J258 N rec s57 x4 x5 x6
  else
    if r58 = x4 then
      q_bnd (f_X5_count s57 (0 : Int32)) fun s106 r107 =>
      if r107 = (x4 + (1 : Int32)) then
        q_let (x4 + (1 : Int32)) fun v109 =>
        q_bnd (f_L_told s106 v109) fun s110 _ =>
        if q_oob v109 64 then none else
        q_lets (q_wrl s110 26 v109.toNatClampNeg (q_lg s110 200 0)) fun s112 =>
        if q_oob v109 64 then none else
        if 0 ≤ (lg_cmp (q_lg s112 26 v109.toNatClampNeg) (0 : Int64)) then
          f_L_law_J258 N rec s112 v109 x5 x6
        else
          none
      else
        none
    else
      none
def f_L_law_J185 (N : Nat) (rec : Sg → Int32 → Int32 → Rs) (σ : Sg) (x4 : Int32) (x5 : Int32) (x6 : Int32) (x7 : Int32) : Rs :=
  f_L_law_J187 N rec σ x4 x5 x6 x7
def s_L_law_L122 (N : Nat) (rec : Sg → Int32 → Int32 → Rs) (σ : Sg) (x4 : Int32) (x5 : Int32) : Rs :=
  if (55 : Int32) ≤ x5 then
    f_L_law_L484 N 1000 σ x4 (0 : Int32) (0 : Int32)
  else
    q_bnd (f_L_cell 105 N σ x5) fun s45 r46 =>
    q_bnd (f_L_some s45 r46 (7 : Int32)) fun s47 r48 =>
    q_bnd (f_X5_state s47 x4 (1 : Int32)) fun s49 r50 =>
    q_bnd (f_X5_state s49 x4 (4 : Int32)) fun s51 r52 =>
    if r52 < 0 then
      if 0 ≤ r50 then
        f_L_law_J185 N rec s51 x4 x5 r46 r48
      else
        if r48 = (6 : Int32) then
          f_L_law_J185 N rec s51 x4 x5 r46 r48
        else
          f_L_law_J187 N rec s51 x4 x5 r46 (0 : Int32)
    else
      f_L_law_J187 N rec s51 x4 x5 r46 (4 : Int32)
def f_L_law_L122 (N : Nat) (qn : Nat) : Sg → Int32 → Int32 → Rs := Nat.rec (fun _ _ _ => none) (fun _ rec => s_L_law_L122 N rec) qn
def f_L_law_J62 (N : Nat) (σ : Sg) (x2 : Int32) (y1 : Int32) (y2 : Int32) (y3 : Int32) (y4 : Int32) : Rs :=
  q_bnd (f_L_laws σ y1 y2 y3 y4) fun s12 r13 =>
  if r13 = 0 then
    none
  else
    q_bnd (f_L_some s12 (x2 >>> ((10 : Int32) &&& 31)) (2001 : Int32)) fun s15 r16 =>
    q_bnd (f_X5_index s15 (3 : Int32) r16) fun s17 r18 =>
    if r18 = (1000 : Int32) then
      q_bnd (f_X5_game s17 (3 : Int32) (6 : Int32)) fun s20 r21 =>
      if (-20 : Int32) ≤ r21 then
        q_lets (q_clr s20 26) fun s23 =>
        q_bnd (f_L_told s23 (0 : Int32)) fun s24 _ =>
        if q_oob (0 : Int32) 64 then none else
        q_lets (q_wrl s24 26 (0 : Int32).toNatClampNeg (q_lg s24 200 0)) fun s26 =>
        f_L_law_L122 N 1000 s26 (0 : Int32) (0 : Int32)
      else
        none
    else
      none
def f_L_law_J38 (N : Nat) (σ : Sg) (x2 : Int32) (y1 : Int32) (y2 : Int32) : Rs :=
  q_bnd (f_L_some σ (x2 >>> ((4 : Int32) &&& 31)) (20 : Int32)) fun s9 r10 =>
  if ((x2 >>> ((9 : Int32) &&& 31)) &&& (1 : Int32)) = 0 then
    f_L_law_J62 N s9 x2 y1 y2 r10 (82 : Int32)
  else
    f_L_law_J62 N s9 x2 y1 y2 r10 (78 : Int32)
def f_L_law (N : Nat) (σ : Sg) : Rs :=
  q_lets (q_clr σ 0) fun s1 =>
  q_bnd (f_X5_init_0 s1) fun s2 _ =>
  q_bnd (f_L_cell 105 N s2 (63 : Int32)) fun s4 r5 =>
  q_bnd (f_L_some s4 r5 (20 : Int32)) fun s6 r7 =>
  if ((r5 >>> ((8 : Int32) &&& 31)) &&& (1 : Int32)) = 0 then
    f_L_law_J38 N s6 r5 r7 (82 : Int32)
  else
    f_L_law_J38 N s6 r5 r7 (78 : Int32)
end
end
section
section QL
variable {X : q_Cx} {M : q_Mt} {Q : q_Fin} {ph ph' : q_Lay × Nat × Nat} {σ : Sg} {pc pc' : Nat} {l l' : List (Nat × Value)} {st rest : List Value} {E : Rs}
theorem gq_let {x : Int32} {f : Int32 → Rs} (k : ∀ y, q_G X M Q ph σ pc l (.int y :: st) (f y)) : q_G X M Q ph σ pc l (.int x :: st) (q_let x f) := k x
theorem gq_letJ {x : Int64} {f : Int64 → Rs} (k : ∀ y, q_G X M Q ph σ pc l (.long y :: st) (f y)) : q_G X M Q ph σ pc l (.long x :: st) (q_letJ x f) := k x
theorem gq_lets {f : Sg → Rs} (k : ∀ τ, q_G X M Q ph τ pc l st (f τ)) : q_G X M Q ph σ pc l st (q_lets σ f) := k σ
theorem gq_ph (h : ph = ph') (k : q_G X M Q ph' σ pc l st E) : q_G X M Q ph σ pc l st E := h ▸ k
theorem gq_iincl {i j : Nat} {n : Int} {x v : Int32} {f : Int32 → Rs} (d : decode M.2.1 pc = .ok (.iinc i n, 3)) (hp : pc + 3 = pc') (hk : l[j]? = some (i, .int x)) (hn : i < M.2.2.1) (hv : Int32.ofInt n = v) (kk : ∀ y, q_G X M Q ph σ pc' ((i, Value.int y) :: l.filter (fun q => !(q.1 == i) && !(q.1 + 1 == i && q.2.category == 2))) st (f y)) : q_G X M Q ph σ pc l st (q_let (x + v) f) := by
  subst hv
  exact gq_iinc d hp hk rfl hn rfl (kk _)
end QL
def q_LM (own : String) (idx : Nat) (y : MethodName) (b : ByteArray) (n : Nat) : Prop := Cond.methodLink own idx y ∈ lw_gd ∧ Cond.static y ∈ lw_gd ∧ Cond.initialized "java/lang/Math" ∈ lw_gd ∧ Cond.code y b n (some .int) ∈ lw_gd
section QM
variable {X : q_Cx} {M : q_Mt} {Q : q_Fin} {Λ : q_Lay} {cs ns idx : Nat} {σ : Sg} {pc pc' : Nat} {l : List (Nat × Value)} {st : List Value} {E : Rs} {x y : Int32}
theorem gq_mmax (d : decode M.2.1 pc = .ok (.invokestatic idx, 3)) (hp : pc + 3 = pc') (lk : q_LM M.1.cls idx Lib.Math.max.name Lib.Math.max.code 2) (hf : 1 ≤ M.2.2.2.2.frames) (hl : (st.map fun v => v.category).sum + 13 ≤ M.2.2.2.2.locals) (hc : cs ≤ M.2.2.2.2.cells) (hn : ns ≤ M.2.2.2.2.slots) (kk : q_G X M Q (Λ, cs, ns) σ pc' l (.int (if x < y then y else x) :: st) E) : q_G X M Q (Λ, cs, ns) σ pc l (.int y :: .int x :: st) E := by
  subst hp
  intro hE p e s m args below meth c H locs ls V hP hz h6 hT hS h
  exact va_mmax V.1 V.2.1 (V.2.2.2.1.trans h.1.symm) V.2.2.2.2.1 (V.2.2.2.2.2.1 _ lk.1) (V.2.2.2.2.2.1 _ lk.2.1) (V.2.2.2.2.2.1 _ lk.2.2.1) (V.2.2.2.2.2.1 _ lk.2.2.2) hf hl hc hn d (kk hE p e s m args below meth c H locs ls V hP hz h6 hT hS h)
theorem gq_mmin (d : decode M.2.1 pc = .ok (.invokestatic idx, 3)) (hp : pc + 3 = pc') (lk : q_LM M.1.cls idx Lib.Math.min.name Lib.Math.min.code 2) (hf : 1 ≤ M.2.2.2.2.frames) (hl : (st.map fun v => v.category).sum + 13 ≤ M.2.2.2.2.locals) (hc : cs ≤ M.2.2.2.2.cells) (hn : ns ≤ M.2.2.2.2.slots) (kk : q_G X M Q (Λ, cs, ns) σ pc' l (.int (if y < x then y else x) :: st) E) : q_G X M Q (Λ, cs, ns) σ pc l (.int y :: .int x :: st) E := by
  subst hp
  intro hE p e s m args below meth c H locs ls V hP hz h6 hT hS h
  exact va_mmin V.1 V.2.1 (V.2.2.2.1.trans h.1.symm) V.2.2.2.2.1 (V.2.2.2.2.2.1 _ lk.1) (V.2.2.2.2.2.1 _ lk.2.1) (V.2.2.2.2.2.1 _ lk.2.2.1) (V.2.2.2.2.2.1 _ lk.2.2.2) hf hl hc hn d (kk hE p e s m args below meth c H locs ls V hP hz h6 hT hS h)
theorem gq_mabs (d : decode M.2.1 pc = .ok (.invokestatic idx, 3)) (hp : pc + 3 = pc') (lk : q_LM M.1.cls idx Lib.Math.abs.name Lib.Math.abs.code 1) (hf : 1 ≤ M.2.2.2.2.frames) (hl : (st.map fun v => v.category).sum + 13 ≤ M.2.2.2.2.locals) (hc : cs ≤ M.2.2.2.2.cells) (hn : ns ≤ M.2.2.2.2.slots) (kk : q_G X M Q (Λ, cs, ns) σ pc' l (.int (if 0 ≤ x then x else 0 - x) :: st) E) : q_G X M Q (Λ, cs, ns) σ pc l (.int x :: st) E := by
  subst hp
  intro hE p e s m args below meth c H locs ls V hP hz h6 hT hS h
  exact va_mabs V.1 V.2.1 (V.2.2.2.1.trans h.1.symm) V.2.2.2.2.1 (V.2.2.2.2.2.1 _ lk.1) (V.2.2.2.2.2.1 _ lk.2.1) (V.2.2.2.2.2.1 _ lk.2.2.1) (V.2.2.2.2.2.1 _ lk.2.2.2) hf hl hc hn d (kk hE p e s m args below meth c H locs ls V hP hz h6 hT hS h)
end QM
end
section
-- GENERATED by wip/p23/gen.py: rooms, links, fields
def mX0_byteOf : q_Mt := (yX0_byteOf, cX0_byteOf, 3, some .int, { frames := 0, cells := 0, slots := 0, locals := 0 })
def mX2_begins : q_Mt := (yX2_begins, cX2_begins, 1, some .boolean, { frames := 0, cells := 0, slots := 0, locals := 0 })
def mX5_within : q_Mt := (yX5_within, cX5_within, 3, some .boolean, { frames := 0, cells := 0, slots := 0, locals := 0 })
def mX5_isPlayer : q_Mt := (yX5_isPlayer, cX5_isPlayer, 1, some .boolean, { frames := 1, cells := 0, slots := 0, locals := 22 })
def mX5_at : q_Mt := (yX5_at, cX5_at, 2, some .int, { frames := 0, cells := 0, slots := 0, locals := 0 })
def mX5_set : q_Mt := (yX5_set, cX5_set, 3, none, { frames := 0, cells := 0, slots := 0, locals := 0 })
def mJ7_fill_53178 : q_Mt := (yJ7_fill_53178, cJ7_fill_53178, 4, none, { frames := 0, cells := 0, slots := 0, locals := 0 })
def mL_cell : q_Mt := (yL_cell, cL_cell, 2, some .int, { frames := 0, cells := 0, slots := 0, locals := 0 })
def mL_some : q_Mt := (yL_some, cL_some, 2, some .int, { frames := 0, cells := 0, slots := 0, locals := 0 })
def mX3_init : q_Mt := (yX3_init, cX3_init, 1, none, { frames := 1, cells := 2, slots := 6, locals := 20 })
def mX2_init : q_Mt := (yX2_init, cX2_init, 1, none, { frames := 2, cells := 13, slots := 931, locals := 40 })
def mX0_init : q_Mt := (yX0_init, cX0_init, 1, none, { frames := 1, cells := 5, slots := 38, locals := 22 })
def mX4_init : q_Mt := (yX4_init, cX4_init, 1, none, { frames := 1, cells := 1, slots := 8, locals := 23 })
def mX1_init : q_Mt := (yX1_init, cX1_init, 1, none, { frames := 1, cells := 2, slots := 30, locals := 23 })
def mX5_init : q_Mt := (yX5_init, cX5_init, 1, none, { frames := 3, cells := 25, slots := 1031, locals := 60 })
def mX0_letterFor : q_Mt := (yX0_letterFor, cX0_letterFor, 4, some .int, { frames := 1, cells := 0, slots := 0, locals := 21 })
def mX0_append : q_Mt := (yX0_append, cX0_append, 5, some .int, { frames := 1, cells := 0, slots := 0, locals := 22 })
def mX0_here : q_Mt := (yX0_here, cX0_here, 1, some .int, { frames := 1, cells := 0, slots := 0, locals := 21 })
def mX0_skipBlanks : q_Mt := (yX0_skipBlanks, cX0_skipBlanks, 1, none, { frames := 2, cells := 0, slots := 0, locals := 41 })
def mX0_atEnd : q_Mt := (yX0_atEnd, cX0_atEnd, 1, some .boolean, { frames := 3, cells := 0, slots := 0, locals := 61 })
def mX0_readNumber : q_Mt := (yX0_readNumber, cX0_readNumber, 3, some .int, { frames := 2, cells := 0, slots := 0, locals := 41 })
def mX0_readClause : q_Mt := (yX0_readClause, cX0_readClause, 4, some .boolean, { frames := 3, cells := 0, slots := 0, locals := 63 })
def mX0_read : q_Mt := (yX0_read, cX0_read, 1, some .int, { frames := 4, cells := 0, slots := 0, locals := 86 })
def mX0_adoptDraft : q_Mt := (yX0_adoptDraft, cX0_adoptDraft, 2, none, { frames := 1, cells := 0, slots := 0, locals := 22 })
def mX0_takeTape : q_Mt := (yX0_takeTape, cX0_takeTape, 2, some .int, { frames := 5, cells := 0, slots := 0, locals := 106 })
def mX3_stopFor : q_Mt := (yX3_stopFor, cX3_stopFor, 2, none, { frames := 0, cells := 0, slots := 0, locals := 0 })
def mX3_begin : q_Mt := (yX3_begin, cX3_begin, 3, none, { frames := 1, cells := 0, slots := 0, locals := 23 })
def mX2_begin : q_Mt := (yX2_begin, cX2_begin, 5, none, { frames := 2, cells := 0, slots := 0, locals := 45 })
def mX3_isOut : q_Mt := (yX3_isOut, cX3_isOut, 2, some .boolean, { frames := 1, cells := 0, slots := 0, locals := 21 })
def mX3_winner : q_Mt := (yX3_winner, cX3_winner, 1, some .int, { frames := 2, cells := 0, slots := 0, locals := 42 })
def mX3_allowsFree : q_Mt := (yX3_allowsFree, cX3_allowsFree, 1, some .boolean, { frames := 2, cells := 0, slots := 0, locals := 42 })
def mX3_allowsFresh : q_Mt := (yX3_allowsFresh, cX3_allowsFresh, 3, some .boolean, { frames := 2, cells := 0, slots := 0, locals := 42 })
def mX3_allows : q_Mt := (yX3_allows, cX3_allows, 3, some .boolean, { frames := 3, cells := 0, slots := 0, locals := 64 })
def mX3_isWrong : q_Mt := (yX3_isWrong, cX3_isWrong, 3, some .boolean, { frames := 0, cells := 0, slots := 0, locals := 0 })
def mX3_inPlay : q_Mt := (yX3_inPlay, cX3_inPlay, 1, some .int, { frames := 0, cells := 0, slots := 0, locals := 0 })
def mX3_side : q_Mt := (yX3_side, cX3_side, 1, some .int, { frames := 0, cells := 0, slots := 0, locals := 0 })
def mX2_noteStriker : q_Mt := (yX2_noteStriker, cX2_noteStriker, 2, none, { frames := 1, cells := 0, slots := 0, locals := 22 })
def mX3_bringIn : q_Mt := (yX3_bringIn, cX3_bringIn, 3, none, { frames := 1, cells := 0, slots := 0, locals := 21 })
def mX3_endTurn : q_Mt := (yX3_endTurn, cX3_endTurn, 2, none, { frames := 1, cells := 0, slots := 0, locals := 21 })
def mX3_roquet : q_Mt := (yX3_roquet, cX3_roquet, 2, none, { frames := 0, cells := 0, slots := 0, locals := 0 })
def mX3_croquet : q_Mt := (yX3_croquet, cX3_croquet, 1, none, { frames := 0, cells := 0, slots := 0, locals := 0 })
def mX3_spendFree : q_Mt := (yX3_spendFree, cX3_spendFree, 1, none, { frames := 1, cells := 0, slots := 0, locals := 22 })
def mX3_lead : q_Mt := (yX3_lead, cX3_lead, 3, none, { frames := 2, cells := 0, slots := 0, locals := 43 })
def mX2_take : q_Mt := (yX2_take, cX2_take, 4, some .int, { frames := 4, cells := 0, slots := 0, locals := 86 })
def mX2_has : q_Mt := (yX2_has, cX2_has, 2, some .boolean, { frames := 0, cells := 0, slots := 0, locals := 0 })
def mX2_tell : q_Mt := (yX2_tell, cX2_tell, 3, some .int, { frames := 1, cells := 0, slots := 0, locals := 21 })
def mX2_obey : q_Mt := (yX2_obey, cX2_obey, 2, none, { frames := 2, cells := 0, slots := 0, locals := 42 })
def mX2_leadTo : q_Mt := (yX2_leadTo, cX2_leadTo, 4, none, { frames := 3, cells := 0, slots := 0, locals := 65 })
def mX3_tell : q_Mt := (yX3_tell, cX3_tell, 2, some .int, { frames := 3, cells := 0, slots := 0, locals := 62 })
def mX2_asOf : q_Mt := (yX2_asOf, cX2_asOf, 3, some .int, { frames := 4, cells := 0, slots := 0, locals := 88 })
def mX2_takeAway : q_Mt := (yX2_takeAway, cX2_takeAway, 2, some .int, { frames := 4, cells := 0, slots := 0, locals := 88 })
def mX2_stopTurn : q_Mt := (yX2_stopTurn, cX2_stopTurn, 2, some .int, { frames := 2, cells := 0, slots := 0, locals := 42 })
def mX2_find : q_Mt := (yX2_find, cX2_find, 4, some .int, { frames := 5, cells := 0, slots := 0, locals := 109 })
def mX2_counts : q_Mt := (yX2_counts, cX2_counts, 3, some .boolean, { frames := 1, cells := 0, slots := 0, locals := 21 })
def mX2_total : q_Mt := (yX2_total, cX2_total, 4, some .int, { frames := 2, cells := 0, slots := 0, locals := 43 })
def mX4_put : q_Mt := (yX4_put, cX4_put, 4, some .int, { frames := 1, cells := 0, slots := 0, locals := 22 })
def mX4_handicapOf : q_Mt := (yX4_handicapOf, cX4_handicapOf, 2, some .int, { frames := 1, cells := 0, slots := 0, locals := 21 })
def mX4_freeTurnsOfOther : q_Mt := (yX4_freeTurnsOfOther, cX4_freeTurnsOfOther, 5, some .int, { frames := 2, cells := 0, slots := 0, locals := 42 })
def mX5_game : q_Mt := (yX5_game, cX5_game, 4, some .int, { frames := 3, cells := 0, slots := 0, locals := 69 })
def mX5_stroke : q_Mt := (yX5_stroke, cX5_stroke, 4, some .int, { frames := 5, cells := 0, slots := 0, locals := 109 })
def mX5_told : q_Mt := (yX5_told, cX5_told, 3, some .int, { frames := 2, cells := 0, slots := 0, locals := 43 })
def mX5_state : q_Mt := (yX5_state, cX5_state, 3, some .int, { frames := 5, cells := 0, slots := 0, locals := 110 })
def mX5_found : q_Mt := (yX5_found, cX5_found, 2, some .int, { frames := 6, cells := 0, slots := 0, locals := 132 })
def mX5_type : q_Mt := (yX5_type, cX5_type, 4, some .int, { frames := 2, cells := 0, slots := 0, locals := 46 })
def mX5_laws : q_Mt := (yX5_laws, cX5_laws, 1, some .int, { frames := 6, cells := 0, slots := 0, locals := 127 })
def mX5_count : q_Mt := (yX5_count, cX5_count, 2, some .int, { frames := 3, cells := 0, slots := 0, locals := 66 })
def mX5_index : q_Mt := (yX5_index, cX5_index, 3, some .int, { frames := 2, cells := 0, slots := 0, locals := 45 })
def mL_told : q_Mt := (yL_told, cL_told, 5, some .long, { frames := 6, cells := 0, slots := 0, locals := 132 })
def mL_laws : q_Mt := (yL_laws, cL_laws, 6, some .boolean, { frames := 7, cells := 0, slots := 0, locals := 147 })
def mL_law : q_Mt := (yL_law, cL_law, 14, some .boolean, room_1)
theorem mfX0_byteOf : q_MF mX0_byteOf 2 := ⟨by decide +kernel, ⟨by decide +kernel, by decide +kernel, by decide +kernel⟩, (List.mem_filter.mpr ⟨List.mem_of_getElem? (i := 23) (by decide +kernel), by decide +kernel⟩), (List.mem_filter.mpr ⟨List.mem_of_getElem? (i := 406) (by decide +kernel), by decide +kernel⟩)⟩
theorem mfX2_begins : q_MF mX2_begins 1 := ⟨by decide +kernel, ⟨by decide +kernel, by decide +kernel, by decide +kernel⟩, (List.mem_filter.mpr ⟨List.mem_of_getElem? (i := 21) (by decide +kernel), by decide +kernel⟩), (List.mem_filter.mpr ⟨List.mem_of_getElem? (i := 265) (by decide +kernel), by decide +kernel⟩)⟩
theorem mfX5_within : q_MF mX5_within 3 := ⟨by decide +kernel, ⟨by decide +kernel, by decide +kernel, by decide +kernel⟩, (List.mem_filter.mpr ⟨List.mem_of_getElem? (i := 20) (by decide +kernel), by decide +kernel⟩), (List.mem_filter.mpr ⟨List.mem_of_getElem? (i := 197) (by decide +kernel), by decide +kernel⟩)⟩
theorem lkX5_54 : q_LS RX5 54 yX5_within := ⟨(List.mem_filter.mpr ⟨List.mem_of_getElem? (i := 195) (by decide +kernel), by decide +kernel⟩), (List.mem_filter.mpr ⟨List.mem_of_getElem? (i := 196) (by decide +kernel), by decide +kernel⟩)⟩
theorem mfX5_isPlayer : q_MF mX5_isPlayer 1 := ⟨by decide +kernel, ⟨by decide +kernel, by decide +kernel, by decide +kernel⟩, (List.mem_filter.mpr ⟨List.mem_of_getElem? (i := 20) (by decide +kernel), by decide +kernel⟩), (List.mem_filter.mpr ⟨List.mem_of_getElem? (i := 194) (by decide +kernel), by decide +kernel⟩)⟩
theorem mfX5_at : q_MF mX5_at 2 := ⟨by decide +kernel, ⟨by decide +kernel, by decide +kernel, by decide +kernel⟩, (List.mem_filter.mpr ⟨List.mem_of_getElem? (i := 20) (by decide +kernel), by decide +kernel⟩), (List.mem_filter.mpr ⟨List.mem_of_getElem? (i := 208) (by decide +kernel), by decide +kernel⟩)⟩
theorem mfX5_set : q_MF mX5_set 3 := ⟨by decide +kernel, ⟨by decide +kernel, by decide +kernel, by decide +kernel⟩, (List.mem_filter.mpr ⟨List.mem_of_getElem? (i := 20) (by decide +kernel), by decide +kernel⟩), (List.mem_filter.mpr ⟨List.mem_of_getElem? (i := 122) (by decide +kernel), by decide +kernel⟩)⟩
theorem mfJ7_fill_53178 : q_MF mJ7_fill_53178 2 := ⟨by decide +kernel, ⟨by decide +kernel, by decide +kernel, by decide +kernel⟩, (List.mem_filter.mpr ⟨List.mem_of_getElem? (i := 25) (by decide +kernel), by decide +kernel⟩), (List.mem_filter.mpr ⟨List.mem_of_getElem? (i := 153) (by decide +kernel), by decide +kernel⟩)⟩
theorem mfL_cell : q_MF mL_cell 2 := ⟨by decide +kernel, ⟨by decide +kernel, by decide +kernel, by decide +kernel⟩, (List.mem_filter.mpr ⟨List.mem_of_getElem? (i := 19) (by decide +kernel), by decide +kernel⟩), (List.mem_filter.mpr ⟨List.mem_of_getElem? (i := 380) (by decide +kernel), by decide +kernel⟩)⟩
theorem mfL_some : q_MF mL_some 2 := ⟨by decide +kernel, ⟨by decide +kernel, by decide +kernel, by decide +kernel⟩, (List.mem_filter.mpr ⟨List.mem_of_getElem? (i := 19) (by decide +kernel), by decide +kernel⟩), (List.mem_filter.mpr ⟨List.mem_of_getElem? (i := 384) (by decide +kernel), by decide +kernel⟩)⟩
theorem iwX2 : ∀ w ∈ u_ws RX2 TX2 13, w ∈ lw_gd := by decide +kernel
theorem lkX5_11 : q_LIN RX5 11 yX2_init := ⟨by decide +kernel, (List.mem_filter.mpr ⟨List.mem_of_getElem? (i := 39) (by decide +kernel), by decide +kernel⟩), rfl⟩
theorem mfX2_init : q_MF mX2_init 0 := ⟨by decide +kernel, ⟨by decide +kernel, by decide +kernel, by decide +kernel⟩, (List.mem_filter.mpr ⟨List.mem_of_getElem? (i := 21) (by decide +kernel), by decide +kernel⟩), (List.mem_filter.mpr ⟨List.mem_of_getElem? (i := 40) (by decide +kernel), by decide +kernel⟩)⟩
theorem flX2_9 : q_FL RX2 9 2 RX2 TX2 13 0 := ⟨(List.mem_filter.mpr ⟨List.mem_of_getElem? (i := 74) (by decide +kernel), by decide +kernel⟩), by decide, rfl, iwX2⟩
theorem plX2_0 : q_PL RX2 TX2 13 0 (.array .int) true := ⟨rfl, by decide +kernel, ⟨tyX2, tyX2_ok⟩, nmX2⟩
theorem flX2_15 : q_FL RX2 15 2 RX2 TX2 13 1 := ⟨(List.mem_filter.mpr ⟨List.mem_of_getElem? (i := 75) (by decide +kernel), by decide +kernel⟩), by decide, rfl, iwX2⟩
theorem plX2_1 : q_PL RX2 TX2 13 1 (.array .int) true := ⟨rfl, by decide +kernel, ⟨tyX2, tyX2_ok⟩, nmX2⟩
theorem flX2_18 : q_FL RX2 18 2 RX2 TX2 13 2 := ⟨(List.mem_filter.mpr ⟨List.mem_of_getElem? (i := 76) (by decide +kernel), by decide +kernel⟩), by decide, rfl, iwX2⟩
theorem plX2_2 : q_PL RX2 TX2 13 2 (.array .int) true := ⟨rfl, by decide +kernel, ⟨tyX2, tyX2_ok⟩, nmX2⟩
theorem flX2_21 : q_FL RX2 21 2 RX2 TX2 13 3 := ⟨(List.mem_filter.mpr ⟨List.mem_of_getElem? (i := 77) (by decide +kernel), by decide +kernel⟩), by decide, rfl, iwX2⟩
theorem plX2_3 : q_PL RX2 TX2 13 3 (.array .int) true := ⟨rfl, by decide +kernel, ⟨tyX2, tyX2_ok⟩, nmX2⟩
theorem flX2_24 : q_FL RX2 24 2 RX2 TX2 13 4 := ⟨(List.mem_filter.mpr ⟨List.mem_of_getElem? (i := 78) (by decide +kernel), by decide +kernel⟩), by decide, rfl, iwX2⟩
theorem plX2_4 : q_PL RX2 TX2 13 4 (.array .int) true := ⟨rfl, by decide +kernel, ⟨tyX2, tyX2_ok⟩, nmX2⟩
theorem flX2_27 : q_FL RX2 27 2 RX2 TX2 13 5 := ⟨(List.mem_filter.mpr ⟨List.mem_of_getElem? (i := 79) (by decide +kernel), by decide +kernel⟩), by decide, rfl, iwX2⟩
theorem plX2_5 : q_PL RX2 TX2 13 5 (.array .int) true := ⟨rfl, by decide +kernel, ⟨tyX2, tyX2_ok⟩, nmX2⟩
theorem flX2_30 : q_FL RX2 30 2 RX2 TX2 13 6 := ⟨(List.mem_filter.mpr ⟨List.mem_of_getElem? (i := 80) (by decide +kernel), by decide +kernel⟩), by decide, rfl, iwX2⟩
theorem plX2_6 : q_PL RX2 TX2 13 6 (.array .int) true := ⟨rfl, by decide +kernel, ⟨tyX2, tyX2_ok⟩, nmX2⟩
theorem iwX3 : ∀ w ∈ u_ws RX3 TX3 8, w ∈ lw_gd := by decide +kernel
theorem lkX2_35 : q_LIN RX2 35 yX3_init := ⟨by decide +kernel, (List.mem_filter.mpr ⟨List.mem_of_getElem? (i := 45) (by decide +kernel), by decide +kernel⟩), rfl⟩
theorem mfX3_init : q_MF mX3_init 0 := ⟨by decide +kernel, ⟨by decide +kernel, by decide +kernel, by decide +kernel⟩, (List.mem_filter.mpr ⟨List.mem_of_getElem? (i := 22) (by decide +kernel), by decide +kernel⟩), (List.mem_filter.mpr ⟨List.mem_of_getElem? (i := 46) (by decide +kernel), by decide +kernel⟩)⟩
theorem flX3_9 : q_FL RX3 9 3 RX3 TX3 8 0 := ⟨(List.mem_filter.mpr ⟨List.mem_of_getElem? (i := 48) (by decide +kernel), by decide +kernel⟩), by decide, rfl, iwX3⟩
theorem plX3_0 : q_PL RX3 TX3 8 0 (.array .int) true := ⟨rfl, by decide +kernel, ⟨tyX3, tyX3_ok⟩, nmX3⟩
theorem flX3_15 : q_FL RX3 15 3 RX3 TX3 8 1 := ⟨(List.mem_filter.mpr ⟨List.mem_of_getElem? (i := 49) (by decide +kernel), by decide +kernel⟩), by decide, rfl, iwX3⟩
theorem plX3_1 : q_PL RX3 TX3 8 1 (.array .int) true := ⟨rfl, by decide +kernel, ⟨tyX3, tyX3_ok⟩, nmX3⟩
theorem flX2_36 : q_FL RX2 36 2 RX2 TX2 13 7 := ⟨(List.mem_filter.mpr ⟨List.mem_of_getElem? (i := 81) (by decide +kernel), by decide +kernel⟩), by decide, rfl, iwX2⟩
theorem plX2_7 : q_PL RX2 TX2 13 7 (.object "CroquetLawn$Position") true := ⟨rfl, by decide +kernel, ⟨tyX2, tyX2_ok⟩, nmX2⟩
theorem flX2_40 : q_FL RX2 40 2 RX2 TX2 13 8 := ⟨(List.mem_filter.mpr ⟨List.mem_of_getElem? (i := 82) (by decide +kernel), by decide +kernel⟩), by decide, rfl, iwX2⟩
theorem plX2_8 : q_PL RX2 TX2 13 8 (.object "CroquetLawn$Position") true := ⟨rfl, by decide +kernel, ⟨tyX2, tyX2_ok⟩, nmX2⟩
theorem iwX5 : ∀ w ∈ u_ws RX5 TX5 4, w ∈ lw_gd := by decide +kernel
theorem flX5_12 : q_FL RX5 12 5 RX5 TX5 4 0 := ⟨(List.mem_filter.mpr ⟨List.mem_of_getElem? (i := 175) (by decide +kernel), by decide +kernel⟩), by decide, rfl, iwX5⟩
theorem plX5_0 : q_PL RX5 TX5 4 0 (.object "CroquetLawn$Play") true := ⟨rfl, by decide +kernel, ⟨tyX5, tyX5_ok⟩, nmX5⟩
theorem iwX0 : ∀ w ∈ u_ws RX0 TX0 7, w ∈ lw_gd := by decide +kernel
theorem lkX5_18 : q_LI RX5 18 yX0_init := ⟨(List.mem_filter.mpr ⟨List.mem_of_getElem? (i := 116) (by decide +kernel), by decide +kernel⟩), (List.mem_filter.mpr ⟨List.mem_of_getElem? (i := 117) (by decide +kernel), by decide +kernel⟩), rfl⟩
theorem mfX0_init : q_MF mX0_init 0 := ⟨by decide +kernel, ⟨by decide +kernel, by decide +kernel, by decide +kernel⟩, (List.mem_filter.mpr ⟨List.mem_of_getElem? (i := 23) (by decide +kernel), by decide +kernel⟩), (List.mem_filter.mpr ⟨List.mem_of_getElem? (i := 118) (by decide +kernel), by decide +kernel⟩)⟩
theorem flX0_11 : q_FL RX0 11 0 RX0 TX0 7 0 := ⟨(List.mem_filter.mpr ⟨List.mem_of_getElem? (i := 123) (by decide +kernel), by decide +kernel⟩), by decide, rfl, iwX0⟩
theorem plX0_0 : q_PL RX0 TX0 7 0 (.array .int) true := ⟨rfl, by decide +kernel, ⟨tyX0, tyX0_ok⟩, nmX0⟩
theorem flX0_15 : q_FL RX0 15 0 RX0 TX0 7 3 := ⟨(List.mem_filter.mpr ⟨List.mem_of_getElem? (i := 126) (by decide +kernel), by decide +kernel⟩), by decide, rfl, iwX0⟩
theorem plX0_3 : q_PL RX0 TX0 7 3 (.array .int) true := ⟨rfl, by decide +kernel, ⟨tyX0, tyX0_ok⟩, nmX0⟩
theorem flX0_18 : q_FL RX0 18 0 RX0 TX0 7 4 := ⟨(List.mem_filter.mpr ⟨List.mem_of_getElem? (i := 127) (by decide +kernel), by decide +kernel⟩), by decide, rfl, iwX0⟩
theorem plX0_4 : q_PL RX0 TX0 7 4 (.array .int) true := ⟨rfl, by decide +kernel, ⟨tyX0, tyX0_ok⟩, nmX0⟩
theorem flX0_21 : q_FL RX0 21 0 RX0 TX0 7 5 := ⟨(List.mem_filter.mpr ⟨List.mem_of_getElem? (i := 128) (by decide +kernel), by decide +kernel⟩), by decide, rfl, iwX0⟩
theorem plX0_5 : q_PL RX0 TX0 7 5 (.array .int) true := ⟨rfl, by decide +kernel, ⟨tyX0, tyX0_ok⟩, nmX0⟩
theorem flX0_24 : q_FL RX0 24 0 RX0 TX0 7 6 := ⟨(List.mem_filter.mpr ⟨List.mem_of_getElem? (i := 129) (by decide +kernel), by decide +kernel⟩), by decide, rfl, iwX0⟩
theorem plX0_6 : q_PL RX0 TX0 7 6 (.array .int) true := ⟨rfl, by decide +kernel, ⟨tyX0, tyX0_ok⟩, nmX0⟩
theorem lkX0_27 : q_LSN RX0 27 yX5_set := ⟨by decide +kernel, (List.mem_filter.mpr ⟨List.mem_of_getElem? (i := 121) (by decide +kernel), by decide +kernel⟩)⟩
theorem flX5_19 : q_FL RX5 19 5 RX5 TX5 4 1 := ⟨(List.mem_filter.mpr ⟨List.mem_of_getElem? (i := 176) (by decide +kernel), by decide +kernel⟩), by decide, rfl, iwX5⟩
theorem plX5_1 : q_PL RX5 TX5 4 1 (.object "CroquetLawn$Laws") true := ⟨rfl, by decide +kernel, ⟨tyX5, tyX5_ok⟩, nmX5⟩
theorem iwX4 : ∀ w ∈ u_ws RX4 TX4 1, w ∈ lw_gd := by decide +kernel
theorem lkX5_25 : q_LI RX5 25 yX4_init := ⟨(List.mem_filter.mpr ⟨List.mem_of_getElem? (i := 147) (by decide +kernel), by decide +kernel⟩), (List.mem_filter.mpr ⟨List.mem_of_getElem? (i := 148) (by decide +kernel), by decide +kernel⟩), rfl⟩
theorem mfX4_init : q_MF mX4_init 0 := ⟨by decide +kernel, ⟨by decide +kernel, by decide +kernel, by decide +kernel⟩, (List.mem_filter.mpr ⟨List.mem_of_getElem? (i := 24) (by decide +kernel), by decide +kernel⟩), (List.mem_filter.mpr ⟨List.mem_of_getElem? (i := 149) (by decide +kernel), by decide +kernel⟩)⟩
theorem flX4_9 : q_FL RX4 9 4 RX4 TX4 1 0 := ⟨(List.mem_filter.mpr ⟨List.mem_of_getElem? (i := 154) (by decide +kernel), by decide +kernel⟩), by decide, rfl, iwX4⟩
theorem plX4_0 : q_PL RX4 TX4 1 0 (.array .int) true := ⟨rfl, by decide +kernel, ⟨tyX4, tyX4_ok⟩, nmX4⟩
theorem lkX4_15 : q_LS RX4 15 yJ7_fill_53178 := ⟨(List.mem_filter.mpr ⟨List.mem_of_getElem? (i := 151) (by decide +kernel), by decide +kernel⟩), (List.mem_filter.mpr ⟨List.mem_of_getElem? (i := 152) (by decide +kernel), by decide +kernel⟩)⟩
theorem flX5_26 : q_FL RX5 26 5 RX5 TX5 4 2 := ⟨(List.mem_filter.mpr ⟨List.mem_of_getElem? (i := 177) (by decide +kernel), by decide +kernel⟩), by decide, rfl, iwX5⟩
theorem plX5_2 : q_PL RX5 TX5 4 2 (.object "CroquetLawn$Roster") true := ⟨rfl, by decide +kernel, ⟨tyX5, tyX5_ok⟩, nmX5⟩
theorem iwX1 : ∀ w ∈ u_ws RX1 TX1 3, w ∈ lw_gd := by decide +kernel
theorem lkX5_32 : q_LI RX5 32 yX1_init := ⟨(List.mem_filter.mpr ⟨List.mem_of_getElem? (i := 160) (by decide +kernel), by decide +kernel⟩), (List.mem_filter.mpr ⟨List.mem_of_getElem? (i := 161) (by decide +kernel), by decide +kernel⟩), rfl⟩
theorem mfX1_init : q_MF mX1_init 0 := ⟨by decide +kernel, ⟨by decide +kernel, by decide +kernel, by decide +kernel⟩, (List.mem_filter.mpr ⟨List.mem_of_getElem? (i := 26) (by decide +kernel), by decide +kernel⟩), (List.mem_filter.mpr ⟨List.mem_of_getElem? (i := 162) (by decide +kernel), by decide +kernel⟩)⟩
theorem flX1_11 : q_FL RX1 11 1 RX1 TX1 3 0 := ⟨(List.mem_filter.mpr ⟨List.mem_of_getElem? (i := 165) (by decide +kernel), by decide +kernel⟩), by decide, rfl, iwX1⟩
theorem plX1_0 : q_PL RX1 TX1 3 0 (.array .int) true := ⟨rfl, by decide +kernel, ⟨tyX1, tyX1_ok⟩, nmX1⟩
theorem flX1_15 : q_FL RX1 15 1 RX1 TX1 3 1 := ⟨(List.mem_filter.mpr ⟨List.mem_of_getElem? (i := 166) (by decide +kernel), by decide +kernel⟩), by decide, rfl, iwX1⟩
theorem plX1_1 : q_PL RX1 TX1 3 1 (.array .int) true := ⟨rfl, by decide +kernel, ⟨tyX1, tyX1_ok⟩, nmX1⟩
theorem flX1_18 : q_FL RX1 18 1 RX1 TX1 3 2 := ⟨(List.mem_filter.mpr ⟨List.mem_of_getElem? (i := 167) (by decide +kernel), by decide +kernel⟩), by decide, rfl, iwX1⟩
theorem plX1_2 : q_PL RX1 TX1 3 2 .int false := ⟨rfl, by decide +kernel, ⟨tyX1, tyX1_ok⟩, nmX1⟩
theorem lkX1_22 : q_LS RX1 22 yJ7_fill_53178 := ⟨(List.mem_filter.mpr ⟨List.mem_of_getElem? (i := 164) (by decide +kernel), by decide +kernel⟩), (List.mem_filter.mpr ⟨List.mem_of_getElem? (i := 152) (by decide +kernel), by decide +kernel⟩)⟩
theorem flX5_33 : q_FL RX5 33 5 RX5 TX5 4 3 := ⟨(List.mem_filter.mpr ⟨List.mem_of_getElem? (i := 178) (by decide +kernel), by decide +kernel⟩), by decide, rfl, iwX5⟩
theorem plX5_3 : q_PL RX5 TX5 4 3 (.object "CroquetLawn$Meeting") true := ⟨rfl, by decide +kernel, ⟨tyX5, tyX5_ok⟩, nmX5⟩
theorem mfX5_init : q_MF mX5_init 0 := ⟨by decide +kernel, ⟨by decide +kernel, by decide +kernel, by decide +kernel⟩, (List.mem_filter.mpr ⟨List.mem_of_getElem? (i := 20) (by decide +kernel), by decide +kernel⟩), (List.mem_filter.mpr ⟨List.mem_of_getElem? (i := 32) (by decide +kernel), by decide +kernel⟩)⟩
theorem lkX0_31 : q_LSN RX0 31 yX5_at := ⟨by decide +kernel, (List.mem_filter.mpr ⟨List.mem_of_getElem? (i := 207) (by decide +kernel), by decide +kernel⟩)⟩
theorem mfX0_letterFor : q_MF mX0_letterFor 2 := ⟨by decide +kernel, ⟨by decide +kernel, by decide +kernel, by decide +kernel⟩, (List.mem_filter.mpr ⟨List.mem_of_getElem? (i := 23) (by decide +kernel), by decide +kernel⟩), (List.mem_filter.mpr ⟨List.mem_of_getElem? (i := 347) (by decide +kernel), by decide +kernel⟩)⟩
theorem lkX0_35 : q_LSN RX0 35 yX5_within := ⟨by decide +kernel, (List.mem_filter.mpr ⟨List.mem_of_getElem? (i := 196) (by decide +kernel), by decide +kernel⟩)⟩
theorem flX0_43 : q_FL RX0 43 0 RX0 TX0 7 1 := ⟨(List.mem_filter.mpr ⟨List.mem_of_getElem? (i := 124) (by decide +kernel), by decide +kernel⟩), by decide, rfl, iwX0⟩
theorem lkX0_39 : q_LS RX0 39 yX0_byteOf := ⟨(List.mem_filter.mpr ⟨List.mem_of_getElem? (i := 404) (by decide +kernel), by decide +kernel⟩), (List.mem_filter.mpr ⟨List.mem_of_getElem? (i := 405) (by decide +kernel), by decide +kernel⟩)⟩
theorem plX0_1 : q_PL RX0 TX0 7 1 .int false := ⟨rfl, by decide +kernel, ⟨tyX0, tyX0_ok⟩, nmX0⟩
theorem mfX0_append : q_MF mX0_append 2 := ⟨by decide +kernel, ⟨by decide +kernel, by decide +kernel, by decide +kernel⟩, (List.mem_filter.mpr ⟨List.mem_of_getElem? (i := 23) (by decide +kernel), by decide +kernel⟩), (List.mem_filter.mpr ⟨List.mem_of_getElem? (i := 402) (by decide +kernel), by decide +kernel⟩)⟩
theorem flX0_49 : q_FL RX0 49 0 RX0 TX0 7 2 := ⟨(List.mem_filter.mpr ⟨List.mem_of_getElem? (i := 125) (by decide +kernel), by decide +kernel⟩), by decide, rfl, iwX0⟩
theorem mfX0_here : q_MF mX0_here 0 := ⟨by decide +kernel, ⟨by decide +kernel, by decide +kernel, by decide +kernel⟩, (List.mem_filter.mpr ⟨List.mem_of_getElem? (i := 23) (by decide +kernel), by decide +kernel⟩), (List.mem_filter.mpr ⟨List.mem_of_getElem? (i := 436) (by decide +kernel), by decide +kernel⟩)⟩
theorem lkX0_72 : q_LV RX0 72 yX0_here := ⟨(List.mem_filter.mpr ⟨List.mem_of_getElem? (i := 433) (by decide +kernel), by decide +kernel⟩), (List.mem_filter.mpr ⟨List.mem_of_getElem? (i := 435) (by decide +kernel), by decide +kernel⟩), (List.mem_filter.mpr ⟨List.mem_of_getElem? (i := 15) (by decide +kernel), by decide +kernel⟩)⟩
theorem plX0_2 : q_PL RX0 TX0 7 2 .int false := ⟨rfl, by decide +kernel, ⟨tyX0, tyX0_ok⟩, nmX0⟩
theorem mfX0_skipBlanks : q_MF mX0_skipBlanks 0 := ⟨by decide +kernel, ⟨by decide +kernel, by decide +kernel, by decide +kernel⟩, (List.mem_filter.mpr ⟨List.mem_of_getElem? (i := 23) (by decide +kernel), by decide +kernel⟩), (List.mem_filter.mpr ⟨List.mem_of_getElem? (i := 432) (by decide +kernel), by decide +kernel⟩)⟩
theorem lkX0_75 : q_LV RX0 75 yX0_skipBlanks := ⟨(List.mem_filter.mpr ⟨List.mem_of_getElem? (i := 429) (by decide +kernel), by decide +kernel⟩), (List.mem_filter.mpr ⟨List.mem_of_getElem? (i := 431) (by decide +kernel), by decide +kernel⟩), (List.mem_filter.mpr ⟨List.mem_of_getElem? (i := 14) (by decide +kernel), by decide +kernel⟩)⟩
theorem mfX0_atEnd : q_MF mX0_atEnd 0 := ⟨by decide +kernel, ⟨by decide +kernel, by decide +kernel, by decide +kernel⟩, (List.mem_filter.mpr ⟨List.mem_of_getElem? (i := 23) (by decide +kernel), by decide +kernel⟩), (List.mem_filter.mpr ⟨List.mem_of_getElem? (i := 428) (by decide +kernel), by decide +kernel⟩)⟩
theorem lkX0_81 : q_LM RX0 81 Lib.Math.min.name Lib.Math.min.code 2 := ⟨(List.mem_filter.mpr ⟨List.mem_of_getElem? (i := 445) (by decide +kernel), by decide +kernel⟩), (List.mem_filter.mpr ⟨List.mem_of_getElem? (i := 446) (by decide +kernel), by decide +kernel⟩), (List.mem_filter.mpr ⟨List.mem_of_getElem? (i := 27) (by decide +kernel), by decide +kernel⟩), (List.mem_filter.mpr ⟨List.mem_of_getElem? (i := 447) (by decide +kernel), by decide +kernel⟩)⟩
theorem mfX0_readNumber : q_MF mX0_readNumber 0 := ⟨by decide +kernel, ⟨by decide +kernel, by decide +kernel, by decide +kernel⟩, (List.mem_filter.mpr ⟨List.mem_of_getElem? (i := 23) (by decide +kernel), by decide +kernel⟩), (List.mem_filter.mpr ⟨List.mem_of_getElem? (i := 444) (by decide +kernel), by decide +kernel⟩)⟩
theorem lkX0_78 : q_LV RX0 78 yX0_readNumber := ⟨(List.mem_filter.mpr ⟨List.mem_of_getElem? (i := 441) (by decide +kernel), by decide +kernel⟩), (List.mem_filter.mpr ⟨List.mem_of_getElem? (i := 443) (by decide +kernel), by decide +kernel⟩), (List.mem_filter.mpr ⟨List.mem_of_getElem? (i := 17) (by decide +kernel), by decide +kernel⟩)⟩
theorem mfX0_readClause : q_MF mX0_readClause 0 := ⟨by decide +kernel, ⟨by decide +kernel, by decide +kernel, by decide +kernel⟩, (List.mem_filter.mpr ⟨List.mem_of_getElem? (i := 23) (by decide +kernel), by decide +kernel⟩), (List.mem_filter.mpr ⟨List.mem_of_getElem? (i := 440) (by decide +kernel), by decide +kernel⟩)⟩
theorem lkX0_65 : q_LV RX0 65 yX0_atEnd := ⟨(List.mem_filter.mpr ⟨List.mem_of_getElem? (i := 425) (by decide +kernel), by decide +kernel⟩), (List.mem_filter.mpr ⟨List.mem_of_getElem? (i := 427) (by decide +kernel), by decide +kernel⟩), (List.mem_filter.mpr ⟨List.mem_of_getElem? (i := 13) (by decide +kernel), by decide +kernel⟩)⟩
theorem lkX0_69 : q_LV RX0 69 yX0_readClause := ⟨(List.mem_filter.mpr ⟨List.mem_of_getElem? (i := 437) (by decide +kernel), by decide +kernel⟩), (List.mem_filter.mpr ⟨List.mem_of_getElem? (i := 439) (by decide +kernel), by decide +kernel⟩), (List.mem_filter.mpr ⟨List.mem_of_getElem? (i := 16) (by decide +kernel), by decide +kernel⟩)⟩
theorem mfX0_read : q_MF mX0_read 0 := ⟨by decide +kernel, ⟨by decide +kernel, by decide +kernel, by decide +kernel⟩, (List.mem_filter.mpr ⟨List.mem_of_getElem? (i := 23) (by decide +kernel), by decide +kernel⟩), (List.mem_filter.mpr ⟨List.mem_of_getElem? (i := 424) (by decide +kernel), by decide +kernel⟩)⟩
theorem mfX0_adoptDraft : q_MF mX0_adoptDraft 0 := ⟨by decide +kernel, ⟨by decide +kernel, by decide +kernel, by decide +kernel⟩, (List.mem_filter.mpr ⟨List.mem_of_getElem? (i := 23) (by decide +kernel), by decide +kernel⟩), (List.mem_filter.mpr ⟨List.mem_of_getElem? (i := 451) (by decide +kernel), by decide +kernel⟩)⟩
theorem lkX0_52 : q_LS RX0 52 yJ7_fill_53178 := ⟨(List.mem_filter.mpr ⟨List.mem_of_getElem? (i := 420) (by decide +kernel), by decide +kernel⟩), (List.mem_filter.mpr ⟨List.mem_of_getElem? (i := 152) (by decide +kernel), by decide +kernel⟩)⟩
theorem lkX0_58 : q_LV RX0 58 yX0_read := ⟨(List.mem_filter.mpr ⟨List.mem_of_getElem? (i := 421) (by decide +kernel), by decide +kernel⟩), (List.mem_filter.mpr ⟨List.mem_of_getElem? (i := 423) (by decide +kernel), by decide +kernel⟩), (List.mem_filter.mpr ⟨List.mem_of_getElem? (i := 12) (by decide +kernel), by decide +kernel⟩)⟩
theorem lkX0_62 : q_LV RX0 62 yX0_adoptDraft := ⟨(List.mem_filter.mpr ⟨List.mem_of_getElem? (i := 448) (by decide +kernel), by decide +kernel⟩), (List.mem_filter.mpr ⟨List.mem_of_getElem? (i := 450) (by decide +kernel), by decide +kernel⟩), (List.mem_filter.mpr ⟨List.mem_of_getElem? (i := 18) (by decide +kernel), by decide +kernel⟩)⟩
theorem mfX0_takeTape : q_MF mX0_takeTape 0 := ⟨by decide +kernel, ⟨by decide +kernel, by decide +kernel, by decide +kernel⟩, (List.mem_filter.mpr ⟨List.mem_of_getElem? (i := 23) (by decide +kernel), by decide +kernel⟩), (List.mem_filter.mpr ⟨List.mem_of_getElem? (i := 419) (by decide +kernel), by decide +kernel⟩)⟩
theorem flX3_58 : q_FL RX3 58 3 RX3 TX3 8 2 := ⟨(List.mem_filter.mpr ⟨List.mem_of_getElem? (i := 50) (by decide +kernel), by decide +kernel⟩), by decide, rfl, iwX3⟩
theorem plX3_2 : q_PL RX3 TX3 8 2 .int false := ⟨rfl, by decide +kernel, ⟨tyX3, tyX3_ok⟩, nmX3⟩
theorem flX3_36 : q_FL RX3 36 3 RX3 TX3 8 3 := ⟨(List.mem_filter.mpr ⟨List.mem_of_getElem? (i := 51) (by decide +kernel), by decide +kernel⟩), by decide, rfl, iwX3⟩
theorem plX3_3 : q_PL RX3 TX3 8 3 .int false := ⟨rfl, by decide +kernel, ⟨tyX3, tyX3_ok⟩, nmX3⟩
theorem flX3_83 : q_FL RX3 83 3 RX3 TX3 8 4 := ⟨(List.mem_filter.mpr ⟨List.mem_of_getElem? (i := 52) (by decide +kernel), by decide +kernel⟩), by decide, rfl, iwX3⟩
theorem plX3_4 : q_PL RX3 TX3 8 4 .int false := ⟨rfl, by decide +kernel, ⟨tyX3, tyX3_ok⟩, nmX3⟩
theorem flX3_65 : q_FL RX3 65 3 RX3 TX3 8 5 := ⟨(List.mem_filter.mpr ⟨List.mem_of_getElem? (i := 53) (by decide +kernel), by decide +kernel⟩), by decide, rfl, iwX3⟩
theorem plX3_5 : q_PL RX3 TX3 8 5 .int false := ⟨rfl, by decide +kernel, ⟨tyX3, tyX3_ok⟩, nmX3⟩
theorem flX3_48 : q_FL RX3 48 3 RX3 TX3 8 6 := ⟨(List.mem_filter.mpr ⟨List.mem_of_getElem? (i := 54) (by decide +kernel), by decide +kernel⟩), by decide, rfl, iwX3⟩
theorem plX3_6 : q_PL RX3 TX3 8 6 .int false := ⟨rfl, by decide +kernel, ⟨tyX3, tyX3_ok⟩, nmX3⟩
theorem flX3_55 : q_FL RX3 55 3 RX3 TX3 8 7 := ⟨(List.mem_filter.mpr ⟨List.mem_of_getElem? (i := 55) (by decide +kernel), by decide +kernel⟩), by decide, rfl, iwX3⟩
theorem plX3_7 : q_PL RX3 TX3 8 7 .int false := ⟨rfl, by decide +kernel, ⟨tyX3, tyX3_ok⟩, nmX3⟩
theorem mfX3_stopFor : q_MF mX3_stopFor 1 := ⟨by decide +kernel, ⟨by decide +kernel, by decide +kernel, by decide +kernel⟩, (List.mem_filter.mpr ⟨List.mem_of_getElem? (i := 22) (by decide +kernel), by decide +kernel⟩), (List.mem_filter.mpr ⟨List.mem_of_getElem? (i := 229) (by decide +kernel), by decide +kernel⟩)⟩
theorem lkX3_18 : q_LS RX3 18 yJ7_fill_53178 := ⟨(List.mem_filter.mpr ⟨List.mem_of_getElem? (i := 224) (by decide +kernel), by decide +kernel⟩), (List.mem_filter.mpr ⟨List.mem_of_getElem? (i := 152) (by decide +kernel), by decide +kernel⟩)⟩
theorem lkX3_24 : q_LSN RX3 24 yX5_set := ⟨by decide +kernel, (List.mem_filter.mpr ⟨List.mem_of_getElem? (i := 121) (by decide +kernel), by decide +kernel⟩)⟩
theorem lkX3_28 : q_LV RX3 28 yX3_stopFor := ⟨(List.mem_filter.mpr ⟨List.mem_of_getElem? (i := 226) (by decide +kernel), by decide +kernel⟩), (List.mem_filter.mpr ⟨List.mem_of_getElem? (i := 227) (by decide +kernel), by decide +kernel⟩), (List.mem_filter.mpr ⟨List.mem_of_getElem? (i := 228) (by decide +kernel), by decide +kernel⟩)⟩
theorem mfX3_begin : q_MF mX3_begin 2 := ⟨by decide +kernel, ⟨by decide +kernel, by decide +kernel, by decide +kernel⟩, (List.mem_filter.mpr ⟨List.mem_of_getElem? (i := 22) (by decide +kernel), by decide +kernel⟩), (List.mem_filter.mpr ⟨List.mem_of_getElem? (i := 223) (by decide +kernel), by decide +kernel⟩)⟩
theorem lkX2_43 : q_LSN RX2 43 yX5_set := ⟨by decide +kernel, (List.mem_filter.mpr ⟨List.mem_of_getElem? (i := 121) (by decide +kernel), by decide +kernel⟩)⟩
theorem flX2_47 : q_FL RX2 47 2 RX2 TX2 13 11 := ⟨(List.mem_filter.mpr ⟨List.mem_of_getElem? (i := 85) (by decide +kernel), by decide +kernel⟩), by decide, rfl, iwX2⟩
theorem plX2_11 : q_PL RX2 TX2 13 11 .int false := ⟨rfl, by decide +kernel, ⟨tyX2, tyX2_ok⟩, nmX2⟩
theorem flX2_51 : q_FL RX2 51 2 RX2 TX2 13 12 := ⟨(List.mem_filter.mpr ⟨List.mem_of_getElem? (i := 86) (by decide +kernel), by decide +kernel⟩), by decide, rfl, iwX2⟩
theorem plX2_12 : q_PL RX2 TX2 13 12 .int false := ⟨rfl, by decide +kernel, ⟨tyX2, tyX2_ok⟩, nmX2⟩
theorem flX2_54 : q_FL RX2 54 2 RX2 TX2 13 9 := ⟨(List.mem_filter.mpr ⟨List.mem_of_getElem? (i := 83) (by decide +kernel), by decide +kernel⟩), by decide, rfl, iwX2⟩
theorem plX2_9 : q_PL RX2 TX2 13 9 .boolean false := ⟨rfl, by decide +kernel, ⟨tyX2, tyX2_ok⟩, nmX2⟩
theorem flX2_58 : q_FL RX2 58 2 RX2 TX2 13 10 := ⟨(List.mem_filter.mpr ⟨List.mem_of_getElem? (i := 84) (by decide +kernel), by decide +kernel⟩), by decide, rfl, iwX2⟩
theorem plX2_10 : q_PL RX2 TX2 13 10 .int false := ⟨rfl, by decide +kernel, ⟨tyX2, tyX2_ok⟩, nmX2⟩
theorem lkX2_61 : q_LV RX2 61 yX3_begin := ⟨(List.mem_filter.mpr ⟨List.mem_of_getElem? (i := 220) (by decide +kernel), by decide +kernel⟩), (List.mem_filter.mpr ⟨List.mem_of_getElem? (i := 221) (by decide +kernel), by decide +kernel⟩), (List.mem_filter.mpr ⟨List.mem_of_getElem? (i := 222) (by decide +kernel), by decide +kernel⟩)⟩
theorem mfX2_begin : q_MF mX2_begin 4 := ⟨by decide +kernel, ⟨by decide +kernel, by decide +kernel, by decide +kernel⟩, (List.mem_filter.mpr ⟨List.mem_of_getElem? (i := 21) (by decide +kernel), by decide +kernel⟩), (List.mem_filter.mpr ⟨List.mem_of_getElem? (i := 218) (by decide +kernel), by decide +kernel⟩)⟩
theorem lkX3_61 : q_LSN RX3 61 yX5_at := ⟨by decide +kernel, (List.mem_filter.mpr ⟨List.mem_of_getElem? (i := 207) (by decide +kernel), by decide +kernel⟩)⟩
theorem mfX3_isOut : q_MF mX3_isOut 1 := ⟨by decide +kernel, ⟨by decide +kernel, by decide +kernel, by decide +kernel⟩, (List.mem_filter.mpr ⟨List.mem_of_getElem? (i := 22) (by decide +kernel), by decide +kernel⟩), (List.mem_filter.mpr ⟨List.mem_of_getElem? (i := 249) (by decide +kernel), by decide +kernel⟩)⟩
theorem lkX3_40 : q_LV RX3 40 yX3_isOut := ⟨(List.mem_filter.mpr ⟨List.mem_of_getElem? (i := 246) (by decide +kernel), by decide +kernel⟩), (List.mem_filter.mpr ⟨List.mem_of_getElem? (i := 247) (by decide +kernel), by decide +kernel⟩), (List.mem_filter.mpr ⟨List.mem_of_getElem? (i := 248) (by decide +kernel), by decide +kernel⟩)⟩
theorem mfX3_winner : q_MF mX3_winner 0 := ⟨by decide +kernel, ⟨by decide +kernel, by decide +kernel, by decide +kernel⟩, (List.mem_filter.mpr ⟨List.mem_of_getElem? (i := 22) (by decide +kernel), by decide +kernel⟩), (List.mem_filter.mpr ⟨List.mem_of_getElem? (i := 245) (by decide +kernel), by decide +kernel⟩)⟩
theorem mfX3_allowsFree : q_MF mX3_allowsFree 0 := ⟨by decide +kernel, ⟨by decide +kernel, by decide +kernel, by decide +kernel⟩, (List.mem_filter.mpr ⟨List.mem_of_getElem? (i := 22) (by decide +kernel), by decide +kernel⟩), (List.mem_filter.mpr ⟨List.mem_of_getElem? (i := 254) (by decide +kernel), by decide +kernel⟩)⟩
theorem mfX3_allowsFresh : q_MF mX3_allowsFresh 2 := ⟨by decide +kernel, ⟨by decide +kernel, by decide +kernel, by decide +kernel⟩, (List.mem_filter.mpr ⟨List.mem_of_getElem? (i := 22) (by decide +kernel), by decide +kernel⟩), (List.mem_filter.mpr ⟨List.mem_of_getElem? (i := 258) (by decide +kernel), by decide +kernel⟩)⟩
theorem lkX3_32 : q_LV RX3 32 yX3_winner := ⟨(List.mem_filter.mpr ⟨List.mem_of_getElem? (i := 242) (by decide +kernel), by decide +kernel⟩), (List.mem_filter.mpr ⟨List.mem_of_getElem? (i := 243) (by decide +kernel), by decide +kernel⟩), (List.mem_filter.mpr ⟨List.mem_of_getElem? (i := 244) (by decide +kernel), by decide +kernel⟩)⟩
theorem lkX3_44 : q_LV RX3 44 yX3_allowsFree := ⟨(List.mem_filter.mpr ⟨List.mem_of_getElem? (i := 251) (by decide +kernel), by decide +kernel⟩), (List.mem_filter.mpr ⟨List.mem_of_getElem? (i := 253) (by decide +kernel), by decide +kernel⟩), (List.mem_filter.mpr ⟨List.mem_of_getElem? (i := 0) (by decide +kernel), by decide +kernel⟩)⟩
theorem lkX3_51 : q_LV RX3 51 yX3_allowsFresh := ⟨(List.mem_filter.mpr ⟨List.mem_of_getElem? (i := 255) (by decide +kernel), by decide +kernel⟩), (List.mem_filter.mpr ⟨List.mem_of_getElem? (i := 257) (by decide +kernel), by decide +kernel⟩), (List.mem_filter.mpr ⟨List.mem_of_getElem? (i := 1) (by decide +kernel), by decide +kernel⟩)⟩
theorem mfX3_allows : q_MF mX3_allows 2 := ⟨by decide +kernel, ⟨by decide +kernel, by decide +kernel, by decide +kernel⟩, (List.mem_filter.mpr ⟨List.mem_of_getElem? (i := 22) (by decide +kernel), by decide +kernel⟩), (List.mem_filter.mpr ⟨List.mem_of_getElem? (i := 241) (by decide +kernel), by decide +kernel⟩)⟩
theorem mfX3_isWrong : q_MF mX3_isWrong 2 := ⟨by decide +kernel, ⟨by decide +kernel, by decide +kernel, by decide +kernel⟩, (List.mem_filter.mpr ⟨List.mem_of_getElem? (i := 22) (by decide +kernel), by decide +kernel⟩), (List.mem_filter.mpr ⟨List.mem_of_getElem? (i := 262) (by decide +kernel), by decide +kernel⟩)⟩
theorem mfX3_inPlay : q_MF mX3_inPlay 0 := ⟨by decide +kernel, ⟨by decide +kernel, by decide +kernel, by decide +kernel⟩, (List.mem_filter.mpr ⟨List.mem_of_getElem? (i := 22) (by decide +kernel), by decide +kernel⟩), (List.mem_filter.mpr ⟨List.mem_of_getElem? (i := 273) (by decide +kernel), by decide +kernel⟩)⟩
theorem mfX3_side : q_MF mX3_side 0 := ⟨by decide +kernel, ⟨by decide +kernel, by decide +kernel, by decide +kernel⟩, (List.mem_filter.mpr ⟨List.mem_of_getElem? (i := 22) (by decide +kernel), by decide +kernel⟩), (List.mem_filter.mpr ⟨List.mem_of_getElem? (i := 277) (by decide +kernel), by decide +kernel⟩)⟩
theorem lkX2_91 : q_LV RX2 91 yX3_inPlay := ⟨(List.mem_filter.mpr ⟨List.mem_of_getElem? (i := 270) (by decide +kernel), by decide +kernel⟩), (List.mem_filter.mpr ⟨List.mem_of_getElem? (i := 271) (by decide +kernel), by decide +kernel⟩), (List.mem_filter.mpr ⟨List.mem_of_getElem? (i := 272) (by decide +kernel), by decide +kernel⟩)⟩
theorem lkX2_94 : q_LV RX2 94 yX3_side := ⟨(List.mem_filter.mpr ⟨List.mem_of_getElem? (i := 274) (by decide +kernel), by decide +kernel⟩), (List.mem_filter.mpr ⟨List.mem_of_getElem? (i := 275) (by decide +kernel), by decide +kernel⟩), (List.mem_filter.mpr ⟨List.mem_of_getElem? (i := 276) (by decide +kernel), by decide +kernel⟩)⟩
theorem mfX2_noteStriker : q_MF mX2_noteStriker 1 := ⟨by decide +kernel, ⟨by decide +kernel, by decide +kernel, by decide +kernel⟩, (List.mem_filter.mpr ⟨List.mem_of_getElem? (i := 21) (by decide +kernel), by decide +kernel⟩), (List.mem_filter.mpr ⟨List.mem_of_getElem? (i := 269) (by decide +kernel), by decide +kernel⟩)⟩
theorem mfX3_bringIn : q_MF mX3_bringIn 1 := ⟨by decide +kernel, ⟨by decide +kernel, by decide +kernel, by decide +kernel⟩, (List.mem_filter.mpr ⟨List.mem_of_getElem? (i := 22) (by decide +kernel), by decide +kernel⟩), (List.mem_filter.mpr ⟨List.mem_of_getElem? (i := 285) (by decide +kernel), by decide +kernel⟩)⟩
theorem mfX3_endTurn : q_MF mX3_endTurn 0 := ⟨by decide +kernel, ⟨by decide +kernel, by decide +kernel, by decide +kernel⟩, (List.mem_filter.mpr ⟨List.mem_of_getElem? (i := 22) (by decide +kernel), by decide +kernel⟩), (List.mem_filter.mpr ⟨List.mem_of_getElem? (i := 289) (by decide +kernel), by decide +kernel⟩)⟩
theorem mfX3_roquet : q_MF mX3_roquet 1 := ⟨by decide +kernel, ⟨by decide +kernel, by decide +kernel, by decide +kernel⟩, (List.mem_filter.mpr ⟨List.mem_of_getElem? (i := 22) (by decide +kernel), by decide +kernel⟩), (List.mem_filter.mpr ⟨List.mem_of_getElem? (i := 293) (by decide +kernel), by decide +kernel⟩)⟩
theorem mfX3_croquet : q_MF mX3_croquet 0 := ⟨by decide +kernel, ⟨by decide +kernel, by decide +kernel, by decide +kernel⟩, (List.mem_filter.mpr ⟨List.mem_of_getElem? (i := 22) (by decide +kernel), by decide +kernel⟩), (List.mem_filter.mpr ⟨List.mem_of_getElem? (i := 297) (by decide +kernel), by decide +kernel⟩)⟩
theorem mfX3_spendFree : q_MF mX3_spendFree 0 := ⟨by decide +kernel, ⟨by decide +kernel, by decide +kernel, by decide +kernel⟩, (List.mem_filter.mpr ⟨List.mem_of_getElem? (i := 22) (by decide +kernel), by decide +kernel⟩), (List.mem_filter.mpr ⟨List.mem_of_getElem? (i := 301) (by decide +kernel), by decide +kernel⟩)⟩
theorem lkX3_80 : q_LV RX3 80 yX3_spendFree := ⟨(List.mem_filter.mpr ⟨List.mem_of_getElem? (i := 298) (by decide +kernel), by decide +kernel⟩), (List.mem_filter.mpr ⟨List.mem_of_getElem? (i := 300) (by decide +kernel), by decide +kernel⟩), (List.mem_filter.mpr ⟨List.mem_of_getElem? (i := 6) (by decide +kernel), by decide +kernel⟩)⟩
theorem lkX3_68 : q_LV RX3 68 yX3_bringIn := ⟨(List.mem_filter.mpr ⟨List.mem_of_getElem? (i := 282) (by decide +kernel), by decide +kernel⟩), (List.mem_filter.mpr ⟨List.mem_of_getElem? (i := 284) (by decide +kernel), by decide +kernel⟩), (List.mem_filter.mpr ⟨List.mem_of_getElem? (i := 3) (by decide +kernel), by decide +kernel⟩)⟩
theorem lkX3_71 : q_LV RX3 71 yX3_endTurn := ⟨(List.mem_filter.mpr ⟨List.mem_of_getElem? (i := 286) (by decide +kernel), by decide +kernel⟩), (List.mem_filter.mpr ⟨List.mem_of_getElem? (i := 287) (by decide +kernel), by decide +kernel⟩), (List.mem_filter.mpr ⟨List.mem_of_getElem? (i := 288) (by decide +kernel), by decide +kernel⟩)⟩
theorem lkX3_74 : q_LV RX3 74 yX3_roquet := ⟨(List.mem_filter.mpr ⟨List.mem_of_getElem? (i := 290) (by decide +kernel), by decide +kernel⟩), (List.mem_filter.mpr ⟨List.mem_of_getElem? (i := 292) (by decide +kernel), by decide +kernel⟩), (List.mem_filter.mpr ⟨List.mem_of_getElem? (i := 4) (by decide +kernel), by decide +kernel⟩)⟩
theorem lkX3_77 : q_LV RX3 77 yX3_croquet := ⟨(List.mem_filter.mpr ⟨List.mem_of_getElem? (i := 294) (by decide +kernel), by decide +kernel⟩), (List.mem_filter.mpr ⟨List.mem_of_getElem? (i := 296) (by decide +kernel), by decide +kernel⟩), (List.mem_filter.mpr ⟨List.mem_of_getElem? (i := 5) (by decide +kernel), by decide +kernel⟩)⟩
theorem mfX3_lead : q_MF mX3_lead 2 := ⟨by decide +kernel, ⟨by decide +kernel, by decide +kernel, by decide +kernel⟩, (List.mem_filter.mpr ⟨List.mem_of_getElem? (i := 22) (by decide +kernel), by decide +kernel⟩), (List.mem_filter.mpr ⟨List.mem_of_getElem? (i := 281) (by decide +kernel), by decide +kernel⟩)⟩
theorem lkX2_73 : q_LV RX2 73 yX3_allows := ⟨(List.mem_filter.mpr ⟨List.mem_of_getElem? (i := 238) (by decide +kernel), by decide +kernel⟩), (List.mem_filter.mpr ⟨List.mem_of_getElem? (i := 239) (by decide +kernel), by decide +kernel⟩), (List.mem_filter.mpr ⟨List.mem_of_getElem? (i := 240) (by decide +kernel), by decide +kernel⟩)⟩
theorem lkX2_77 : q_LV RX2 77 yX3_isWrong := ⟨(List.mem_filter.mpr ⟨List.mem_of_getElem? (i := 259) (by decide +kernel), by decide +kernel⟩), (List.mem_filter.mpr ⟨List.mem_of_getElem? (i := 260) (by decide +kernel), by decide +kernel⟩), (List.mem_filter.mpr ⟨List.mem_of_getElem? (i := 261) (by decide +kernel), by decide +kernel⟩)⟩
theorem lkX2_80 : q_LS RX2 80 yX2_begins := ⟨(List.mem_filter.mpr ⟨List.mem_of_getElem? (i := 263) (by decide +kernel), by decide +kernel⟩), (List.mem_filter.mpr ⟨List.mem_of_getElem? (i := 264) (by decide +kernel), by decide +kernel⟩)⟩
theorem lkX2_84 : q_LV RX2 84 yX2_noteStriker := ⟨(List.mem_filter.mpr ⟨List.mem_of_getElem? (i := 266) (by decide +kernel), by decide +kernel⟩), (List.mem_filter.mpr ⟨List.mem_of_getElem? (i := 268) (by decide +kernel), by decide +kernel⟩), (List.mem_filter.mpr ⟨List.mem_of_getElem? (i := 2) (by decide +kernel), by decide +kernel⟩)⟩
theorem lkX2_88 : q_LV RX2 88 yX3_lead := ⟨(List.mem_filter.mpr ⟨List.mem_of_getElem? (i := 278) (by decide +kernel), by decide +kernel⟩), (List.mem_filter.mpr ⟨List.mem_of_getElem? (i := 279) (by decide +kernel), by decide +kernel⟩), (List.mem_filter.mpr ⟨List.mem_of_getElem? (i := 280) (by decide +kernel), by decide +kernel⟩)⟩
theorem mfX2_take : q_MF mX2_take 2 := ⟨by decide +kernel, ⟨by decide +kernel, by decide +kernel, by decide +kernel⟩, (List.mem_filter.mpr ⟨List.mem_of_getElem? (i := 21) (by decide +kernel), by decide +kernel⟩), (List.mem_filter.mpr ⟨List.mem_of_getElem? (i := 237) (by decide +kernel), by decide +kernel⟩)⟩
theorem mfX2_has : q_MF mX2_has 1 := ⟨by decide +kernel, ⟨by decide +kernel, by decide +kernel, by decide +kernel⟩, (List.mem_filter.mpr ⟨List.mem_of_getElem? (i := 21) (by decide +kernel), by decide +kernel⟩), (List.mem_filter.mpr ⟨List.mem_of_getElem? (i := 313) (by decide +kernel), by decide +kernel⟩)⟩
theorem lkX2_97 : q_LV RX2 97 yX2_has := ⟨(List.mem_filter.mpr ⟨List.mem_of_getElem? (i := 310) (by decide +kernel), by decide +kernel⟩), (List.mem_filter.mpr ⟨List.mem_of_getElem? (i := 312) (by decide +kernel), by decide +kernel⟩), (List.mem_filter.mpr ⟨List.mem_of_getElem? (i := 7) (by decide +kernel), by decide +kernel⟩)⟩
theorem lkX2_69 : q_LSN RX2 69 yX5_at := ⟨by decide +kernel, (List.mem_filter.mpr ⟨List.mem_of_getElem? (i := 207) (by decide +kernel), by decide +kernel⟩)⟩
theorem mfX2_tell : q_MF mX2_tell 2 := ⟨by decide +kernel, ⟨by decide +kernel, by decide +kernel, by decide +kernel⟩, (List.mem_filter.mpr ⟨List.mem_of_getElem? (i := 21) (by decide +kernel), by decide +kernel⟩), (List.mem_filter.mpr ⟨List.mem_of_getElem? (i := 309) (by decide +kernel), by decide +kernel⟩)⟩
theorem lkX2_111 : q_LV RX2 111 yX3_endTurn := ⟨(List.mem_filter.mpr ⟨List.mem_of_getElem? (i := 330) (by decide +kernel), by decide +kernel⟩), (List.mem_filter.mpr ⟨List.mem_of_getElem? (i := 287) (by decide +kernel), by decide +kernel⟩), (List.mem_filter.mpr ⟨List.mem_of_getElem? (i := 288) (by decide +kernel), by decide +kernel⟩)⟩
theorem lkX2_114 : q_LV RX2 114 yX3_stopFor := ⟨(List.mem_filter.mpr ⟨List.mem_of_getElem? (i := 331) (by decide +kernel), by decide +kernel⟩), (List.mem_filter.mpr ⟨List.mem_of_getElem? (i := 227) (by decide +kernel), by decide +kernel⟩), (List.mem_filter.mpr ⟨List.mem_of_getElem? (i := 228) (by decide +kernel), by decide +kernel⟩)⟩
theorem mfX2_obey : q_MF mX2_obey 2 := ⟨by decide +kernel, ⟨by decide +kernel, by decide +kernel, by decide +kernel⟩, (List.mem_filter.mpr ⟨List.mem_of_getElem? (i := 21) (by decide +kernel), by decide +kernel⟩), (List.mem_filter.mpr ⟨List.mem_of_getElem? (i := 329) (by decide +kernel), by decide +kernel⟩)⟩
theorem lkX2_108 : q_LS RX2 108 yX2_obey := ⟨(List.mem_filter.mpr ⟨List.mem_of_getElem? (i := 327) (by decide +kernel), by decide +kernel⟩), (List.mem_filter.mpr ⟨List.mem_of_getElem? (i := 328) (by decide +kernel), by decide +kernel⟩)⟩
theorem mfX2_leadTo : q_MF mX2_leadTo 2 := ⟨by decide +kernel, ⟨by decide +kernel, by decide +kernel, by decide +kernel⟩, (List.mem_filter.mpr ⟨List.mem_of_getElem? (i := 21) (by decide +kernel), by decide +kernel⟩), (List.mem_filter.mpr ⟨List.mem_of_getElem? (i := 326) (by decide +kernel), by decide +kernel⟩)⟩
theorem mfX3_tell : q_MF mX3_tell 1 := ⟨by decide +kernel, ⟨by decide +kernel, by decide +kernel, by decide +kernel⟩, (List.mem_filter.mpr ⟨List.mem_of_getElem? (i := 22) (by decide +kernel), by decide +kernel⟩), (List.mem_filter.mpr ⟨List.mem_of_getElem? (i := 335) (by decide +kernel), by decide +kernel⟩)⟩
theorem lkX2_100 : q_LV RX2 100 yX2_leadTo := ⟨(List.mem_filter.mpr ⟨List.mem_of_getElem? (i := 323) (by decide +kernel), by decide +kernel⟩), (List.mem_filter.mpr ⟨List.mem_of_getElem? (i := 325) (by decide +kernel), by decide +kernel⟩), (List.mem_filter.mpr ⟨List.mem_of_getElem? (i := 8) (by decide +kernel), by decide +kernel⟩)⟩
theorem lkX2_104 : q_LV RX2 104 yX3_tell := ⟨(List.mem_filter.mpr ⟨List.mem_of_getElem? (i := 332) (by decide +kernel), by decide +kernel⟩), (List.mem_filter.mpr ⟨List.mem_of_getElem? (i := 333) (by decide +kernel), by decide +kernel⟩), (List.mem_filter.mpr ⟨List.mem_of_getElem? (i := 334) (by decide +kernel), by decide +kernel⟩)⟩
theorem mfX2_asOf : q_MF mX2_asOf 2 := ⟨by decide +kernel, ⟨by decide +kernel, by decide +kernel, by decide +kernel⟩, (List.mem_filter.mpr ⟨List.mem_of_getElem? (i := 21) (by decide +kernel), by decide +kernel⟩), (List.mem_filter.mpr ⟨List.mem_of_getElem? (i := 322) (by decide +kernel), by decide +kernel⟩)⟩
theorem mfX2_takeAway : q_MF mX2_takeAway 1 := ⟨by decide +kernel, ⟨by decide +kernel, by decide +kernel, by decide +kernel⟩, (List.mem_filter.mpr ⟨List.mem_of_getElem? (i := 21) (by decide +kernel), by decide +kernel⟩), (List.mem_filter.mpr ⟨List.mem_of_getElem? (i := 352) (by decide +kernel), by decide +kernel⟩)⟩
theorem mfX2_stopTurn : q_MF mX2_stopTurn 1 := ⟨by decide +kernel, ⟨by decide +kernel, by decide +kernel, by decide +kernel⟩, (List.mem_filter.mpr ⟨List.mem_of_getElem? (i := 21) (by decide +kernel), by decide +kernel⟩), (List.mem_filter.mpr ⟨List.mem_of_getElem? (i := 356) (by decide +kernel), by decide +kernel⟩)⟩
theorem lkX2_117 : q_LV RX2 117 yX0_letterFor := ⟨(List.mem_filter.mpr ⟨List.mem_of_getElem? (i := 344) (by decide +kernel), by decide +kernel⟩), (List.mem_filter.mpr ⟨List.mem_of_getElem? (i := 345) (by decide +kernel), by decide +kernel⟩), (List.mem_filter.mpr ⟨List.mem_of_getElem? (i := 346) (by decide +kernel), by decide +kernel⟩)⟩
theorem lkX2_123 : q_LV RX2 123 yX2_takeAway := ⟨(List.mem_filter.mpr ⟨List.mem_of_getElem? (i := 349) (by decide +kernel), by decide +kernel⟩), (List.mem_filter.mpr ⟨List.mem_of_getElem? (i := 351) (by decide +kernel), by decide +kernel⟩), (List.mem_filter.mpr ⟨List.mem_of_getElem? (i := 9) (by decide +kernel), by decide +kernel⟩)⟩
theorem lkX2_126 : q_LV RX2 126 yX2_stopTurn := ⟨(List.mem_filter.mpr ⟨List.mem_of_getElem? (i := 353) (by decide +kernel), by decide +kernel⟩), (List.mem_filter.mpr ⟨List.mem_of_getElem? (i := 355) (by decide +kernel), by decide +kernel⟩), (List.mem_filter.mpr ⟨List.mem_of_getElem? (i := 10) (by decide +kernel), by decide +kernel⟩)⟩
theorem mfX2_find : q_MF mX2_find 2 := ⟨by decide +kernel, ⟨by decide +kernel, by decide +kernel, by decide +kernel⟩, (List.mem_filter.mpr ⟨List.mem_of_getElem? (i := 21) (by decide +kernel), by decide +kernel⟩), (List.mem_filter.mpr ⟨List.mem_of_getElem? (i := 343) (by decide +kernel), by decide +kernel⟩)⟩
theorem mfX2_counts : q_MF mX2_counts 2 := ⟨by decide +kernel, ⟨by decide +kernel, by decide +kernel, by decide +kernel⟩, (List.mem_filter.mpr ⟨List.mem_of_getElem? (i := 21) (by decide +kernel), by decide +kernel⟩), (List.mem_filter.mpr ⟨List.mem_of_getElem? (i := 368) (by decide +kernel), by decide +kernel⟩)⟩
theorem lkX2_129 : q_LV RX2 129 yX2_counts := ⟨(List.mem_filter.mpr ⟨List.mem_of_getElem? (i := 365) (by decide +kernel), by decide +kernel⟩), (List.mem_filter.mpr ⟨List.mem_of_getElem? (i := 367) (by decide +kernel), by decide +kernel⟩), (List.mem_filter.mpr ⟨List.mem_of_getElem? (i := 11) (by decide +kernel), by decide +kernel⟩)⟩
theorem mfX2_total : q_MF mX2_total 1 := ⟨by decide +kernel, ⟨by decide +kernel, by decide +kernel, by decide +kernel⟩, (List.mem_filter.mpr ⟨List.mem_of_getElem? (i := 21) (by decide +kernel), by decide +kernel⟩), (List.mem_filter.mpr ⟨List.mem_of_getElem? (i := 364) (by decide +kernel), by decide +kernel⟩)⟩
theorem lkX4_21 : q_LSN RX4 21 yX5_at := ⟨by decide +kernel, (List.mem_filter.mpr ⟨List.mem_of_getElem? (i := 207) (by decide +kernel), by decide +kernel⟩)⟩
theorem lkX4_25 : q_LSN RX4 25 yX5_set := ⟨by decide +kernel, (List.mem_filter.mpr ⟨List.mem_of_getElem? (i := 121) (by decide +kernel), by decide +kernel⟩)⟩
theorem mfX4_put : q_MF mX4_put 2 := ⟨by decide +kernel, ⟨by decide +kernel, by decide +kernel, by decide +kernel⟩, (List.mem_filter.mpr ⟨List.mem_of_getElem? (i := 24) (by decide +kernel), by decide +kernel⟩), (List.mem_filter.mpr ⟨List.mem_of_getElem? (i := 376) (by decide +kernel), by decide +kernel⟩)⟩
theorem mfX4_handicapOf : q_MF mX4_handicapOf 1 := ⟨by decide +kernel, ⟨by decide +kernel, by decide +kernel, by decide +kernel⟩, (List.mem_filter.mpr ⟨List.mem_of_getElem? (i := 24) (by decide +kernel), by decide +kernel⟩), (List.mem_filter.mpr ⟨List.mem_of_getElem? (i := 205) (by decide +kernel), by decide +kernel⟩)⟩
theorem lkX4_29 : q_LV RX4 29 yX4_handicapOf := ⟨(List.mem_filter.mpr ⟨List.mem_of_getElem? (i := 202) (by decide +kernel), by decide +kernel⟩), (List.mem_filter.mpr ⟨List.mem_of_getElem? (i := 203) (by decide +kernel), by decide +kernel⟩), (List.mem_filter.mpr ⟨List.mem_of_getElem? (i := 204) (by decide +kernel), by decide +kernel⟩)⟩
theorem lkX4_33 : q_LM RX4 33 Lib.Math.abs.name Lib.Math.abs.code 1 := ⟨(List.mem_filter.mpr ⟨List.mem_of_getElem? (i := 209) (by decide +kernel), by decide +kernel⟩), (List.mem_filter.mpr ⟨List.mem_of_getElem? (i := 210) (by decide +kernel), by decide +kernel⟩), (List.mem_filter.mpr ⟨List.mem_of_getElem? (i := 27) (by decide +kernel), by decide +kernel⟩), (List.mem_filter.mpr ⟨List.mem_of_getElem? (i := 211) (by decide +kernel), by decide +kernel⟩)⟩
theorem mfX4_freeTurnsOfOther : q_MF mX4_freeTurnsOfOther 2 := ⟨by decide +kernel, ⟨by decide +kernel, by decide +kernel, by decide +kernel⟩, (List.mem_filter.mpr ⟨List.mem_of_getElem? (i := 24) (by decide +kernel), by decide +kernel⟩), (List.mem_filter.mpr ⟨List.mem_of_getElem? (i := 201) (by decide +kernel), by decide +kernel⟩)⟩
theorem lkX5_37 : q_LS RX5 37 yX5_isPlayer := ⟨(List.mem_filter.mpr ⟨List.mem_of_getElem? (i := 192) (by decide +kernel), by decide +kernel⟩), (List.mem_filter.mpr ⟨List.mem_of_getElem? (i := 193) (by decide +kernel), by decide +kernel⟩)⟩
theorem lkX5_41 : q_LV RX5 41 yX4_freeTurnsOfOther := ⟨(List.mem_filter.mpr ⟨List.mem_of_getElem? (i := 198) (by decide +kernel), by decide +kernel⟩), (List.mem_filter.mpr ⟨List.mem_of_getElem? (i := 199) (by decide +kernel), by decide +kernel⟩), (List.mem_filter.mpr ⟨List.mem_of_getElem? (i := 200) (by decide +kernel), by decide +kernel⟩)⟩
theorem lkX5_45 : q_LM RX5 45 Lib.Math.max.name Lib.Math.max.code 2 := ⟨(List.mem_filter.mpr ⟨List.mem_of_getElem? (i := 212) (by decide +kernel), by decide +kernel⟩), (List.mem_filter.mpr ⟨List.mem_of_getElem? (i := 213) (by decide +kernel), by decide +kernel⟩), (List.mem_filter.mpr ⟨List.mem_of_getElem? (i := 27) (by decide +kernel), by decide +kernel⟩), (List.mem_filter.mpr ⟨List.mem_of_getElem? (i := 214) (by decide +kernel), by decide +kernel⟩)⟩
theorem lkX5_50 : q_LV RX5 50 yX2_begin := ⟨(List.mem_filter.mpr ⟨List.mem_of_getElem? (i := 215) (by decide +kernel), by decide +kernel⟩), (List.mem_filter.mpr ⟨List.mem_of_getElem? (i := 216) (by decide +kernel), by decide +kernel⟩), (List.mem_filter.mpr ⟨List.mem_of_getElem? (i := 217) (by decide +kernel), by decide +kernel⟩)⟩
theorem mfX5_game : q_MF mX5_game 2 := ⟨by decide +kernel, ⟨by decide +kernel, by decide +kernel, by decide +kernel⟩, (List.mem_filter.mpr ⟨List.mem_of_getElem? (i := 20) (by decide +kernel), by decide +kernel⟩), (List.mem_filter.mpr ⟨List.mem_of_getElem? (i := 191) (by decide +kernel), by decide +kernel⟩)⟩
theorem lkX5_58 : q_LV RX5 58 yX2_take := ⟨(List.mem_filter.mpr ⟨List.mem_of_getElem? (i := 234) (by decide +kernel), by decide +kernel⟩), (List.mem_filter.mpr ⟨List.mem_of_getElem? (i := 235) (by decide +kernel), by decide +kernel⟩), (List.mem_filter.mpr ⟨List.mem_of_getElem? (i := 236) (by decide +kernel), by decide +kernel⟩)⟩
theorem mfX5_stroke : q_MF mX5_stroke 2 := ⟨by decide +kernel, ⟨by decide +kernel, by decide +kernel, by decide +kernel⟩, (List.mem_filter.mpr ⟨List.mem_of_getElem? (i := 20) (by decide +kernel), by decide +kernel⟩), (List.mem_filter.mpr ⟨List.mem_of_getElem? (i := 233) (by decide +kernel), by decide +kernel⟩)⟩
theorem lkX5_61 : q_LV RX5 61 yX2_tell := ⟨(List.mem_filter.mpr ⟨List.mem_of_getElem? (i := 306) (by decide +kernel), by decide +kernel⟩), (List.mem_filter.mpr ⟨List.mem_of_getElem? (i := 307) (by decide +kernel), by decide +kernel⟩), (List.mem_filter.mpr ⟨List.mem_of_getElem? (i := 308) (by decide +kernel), by decide +kernel⟩)⟩
theorem mfX5_told : q_MF mX5_told 2 := ⟨by decide +kernel, ⟨by decide +kernel, by decide +kernel, by decide +kernel⟩, (List.mem_filter.mpr ⟨List.mem_of_getElem? (i := 20) (by decide +kernel), by decide +kernel⟩), (List.mem_filter.mpr ⟨List.mem_of_getElem? (i := 305) (by decide +kernel), by decide +kernel⟩)⟩
theorem lkX5_68 : q_LV RX5 68 yX2_asOf := ⟨(List.mem_filter.mpr ⟨List.mem_of_getElem? (i := 319) (by decide +kernel), by decide +kernel⟩), (List.mem_filter.mpr ⟨List.mem_of_getElem? (i := 320) (by decide +kernel), by decide +kernel⟩), (List.mem_filter.mpr ⟨List.mem_of_getElem? (i := 321) (by decide +kernel), by decide +kernel⟩)⟩
theorem mfX5_state : q_MF mX5_state 2 := ⟨by decide +kernel, ⟨by decide +kernel, by decide +kernel, by decide +kernel⟩, (List.mem_filter.mpr ⟨List.mem_of_getElem? (i := 20) (by decide +kernel), by decide +kernel⟩), (List.mem_filter.mpr ⟨List.mem_of_getElem? (i := 318) (by decide +kernel), by decide +kernel⟩)⟩
theorem lkX5_71 : q_LV RX5 71 yX2_find := ⟨(List.mem_filter.mpr ⟨List.mem_of_getElem? (i := 340) (by decide +kernel), by decide +kernel⟩), (List.mem_filter.mpr ⟨List.mem_of_getElem? (i := 341) (by decide +kernel), by decide +kernel⟩), (List.mem_filter.mpr ⟨List.mem_of_getElem? (i := 342) (by decide +kernel), by decide +kernel⟩)⟩
theorem mfX5_found : q_MF mX5_found 1 := ⟨by decide +kernel, ⟨by decide +kernel, by decide +kernel, by decide +kernel⟩, (List.mem_filter.mpr ⟨List.mem_of_getElem? (i := 20) (by decide +kernel), by decide +kernel⟩), (List.mem_filter.mpr ⟨List.mem_of_getElem? (i := 339) (by decide +kernel), by decide +kernel⟩)⟩
theorem lkX5_75 : q_LV RX5 75 yX0_append := ⟨(List.mem_filter.mpr ⟨List.mem_of_getElem? (i := 399) (by decide +kernel), by decide +kernel⟩), (List.mem_filter.mpr ⟨List.mem_of_getElem? (i := 400) (by decide +kernel), by decide +kernel⟩), (List.mem_filter.mpr ⟨List.mem_of_getElem? (i := 401) (by decide +kernel), by decide +kernel⟩)⟩
theorem mfX5_type : q_MF mX5_type 2 := ⟨by decide +kernel, ⟨by decide +kernel, by decide +kernel, by decide +kernel⟩, (List.mem_filter.mpr ⟨List.mem_of_getElem? (i := 20) (by decide +kernel), by decide +kernel⟩), (List.mem_filter.mpr ⟨List.mem_of_getElem? (i := 398) (by decide +kernel), by decide +kernel⟩)⟩
theorem lkX5_79 : q_LV RX5 79 yX0_takeTape := ⟨(List.mem_filter.mpr ⟨List.mem_of_getElem? (i := 416) (by decide +kernel), by decide +kernel⟩), (List.mem_filter.mpr ⟨List.mem_of_getElem? (i := 417) (by decide +kernel), by decide +kernel⟩), (List.mem_filter.mpr ⟨List.mem_of_getElem? (i := 418) (by decide +kernel), by decide +kernel⟩)⟩
theorem mfX5_laws : q_MF mX5_laws 0 := ⟨by decide +kernel, ⟨by decide +kernel, by decide +kernel, by decide +kernel⟩, (List.mem_filter.mpr ⟨List.mem_of_getElem? (i := 20) (by decide +kernel), by decide +kernel⟩), (List.mem_filter.mpr ⟨List.mem_of_getElem? (i := 415) (by decide +kernel), by decide +kernel⟩)⟩
theorem lkX5_83 : q_LV RX5 83 yX2_total := ⟨(List.mem_filter.mpr ⟨List.mem_of_getElem? (i := 361) (by decide +kernel), by decide +kernel⟩), (List.mem_filter.mpr ⟨List.mem_of_getElem? (i := 362) (by decide +kernel), by decide +kernel⟩), (List.mem_filter.mpr ⟨List.mem_of_getElem? (i := 363) (by decide +kernel), by decide +kernel⟩)⟩
theorem mfX5_count : q_MF mX5_count 1 := ⟨by decide +kernel, ⟨by decide +kernel, by decide +kernel, by decide +kernel⟩, (List.mem_filter.mpr ⟨List.mem_of_getElem? (i := 20) (by decide +kernel), by decide +kernel⟩), (List.mem_filter.mpr ⟨List.mem_of_getElem? (i := 360) (by decide +kernel), by decide +kernel⟩)⟩
theorem lkX5_86 : q_LV RX5 86 yX4_put := ⟨(List.mem_filter.mpr ⟨List.mem_of_getElem? (i := 373) (by decide +kernel), by decide +kernel⟩), (List.mem_filter.mpr ⟨List.mem_of_getElem? (i := 374) (by decide +kernel), by decide +kernel⟩), (List.mem_filter.mpr ⟨List.mem_of_getElem? (i := 375) (by decide +kernel), by decide +kernel⟩)⟩
theorem mfX5_index : q_MF mX5_index 2 := ⟨by decide +kernel, ⟨by decide +kernel, by decide +kernel, by decide +kernel⟩, (List.mem_filter.mpr ⟨List.mem_of_getElem? (i := 20) (by decide +kernel), by decide +kernel⟩), (List.mem_filter.mpr ⟨List.mem_of_getElem? (i := 372) (by decide +kernel), by decide +kernel⟩)⟩
theorem lkL_13 : q_LV RL 13 yX5_state := ⟨(List.mem_filter.mpr ⟨List.mem_of_getElem? (i := 315) (by decide +kernel), by decide +kernel⟩), (List.mem_filter.mpr ⟨List.mem_of_getElem? (i := 316) (by decide +kernel), by decide +kernel⟩), (List.mem_filter.mpr ⟨List.mem_of_getElem? (i := 317) (by decide +kernel), by decide +kernel⟩)⟩
theorem mfL_told : q_MF mL_told 2 := ⟨by decide +kernel, ⟨by decide +kernel, by decide +kernel, by decide +kernel⟩, (List.mem_filter.mpr ⟨List.mem_of_getElem? (i := 19) (by decide +kernel), by decide +kernel⟩), (List.mem_filter.mpr ⟨List.mem_of_getElem? (i := 388) (by decide +kernel), by decide +kernel⟩)⟩
theorem lkL_23 : q_LV RL 23 yX5_type := ⟨(List.mem_filter.mpr ⟨List.mem_of_getElem? (i := 395) (by decide +kernel), by decide +kernel⟩), (List.mem_filter.mpr ⟨List.mem_of_getElem? (i := 396) (by decide +kernel), by decide +kernel⟩), (List.mem_filter.mpr ⟨List.mem_of_getElem? (i := 397) (by decide +kernel), by decide +kernel⟩)⟩
theorem lkL_35 : q_LV RL 35 yX5_laws := ⟨(List.mem_filter.mpr ⟨List.mem_of_getElem? (i := 412) (by decide +kernel), by decide +kernel⟩), (List.mem_filter.mpr ⟨List.mem_of_getElem? (i := 413) (by decide +kernel), by decide +kernel⟩), (List.mem_filter.mpr ⟨List.mem_of_getElem? (i := 414) (by decide +kernel), by decide +kernel⟩)⟩
theorem mfL_laws : q_MF mL_laws 5 := ⟨by decide +kernel, ⟨by decide +kernel, by decide +kernel, by decide +kernel⟩, (List.mem_filter.mpr ⟨List.mem_of_getElem? (i := 19) (by decide +kernel), by decide +kernel⟩), (List.mem_filter.mpr ⟨List.mem_of_getElem? (i := 393) (by decide +kernel), by decide +kernel⟩)⟩
theorem lkL_39 : q_LI RL 39 yX5_init := ⟨(List.mem_filter.mpr ⟨List.mem_of_getElem? (i := 30) (by decide +kernel), by decide +kernel⟩), (List.mem_filter.mpr ⟨List.mem_of_getElem? (i := 31) (by decide +kernel), by decide +kernel⟩), rfl⟩
theorem lkL_40 : q_LS RL 40 yL_cell := ⟨(List.mem_filter.mpr ⟨List.mem_of_getElem? (i := 378) (by decide +kernel), by decide +kernel⟩), (List.mem_filter.mpr ⟨List.mem_of_getElem? (i := 379) (by decide +kernel), by decide +kernel⟩)⟩
theorem lkL_44 : q_LS RL 44 yL_some := ⟨(List.mem_filter.mpr ⟨List.mem_of_getElem? (i := 382) (by decide +kernel), by decide +kernel⟩), (List.mem_filter.mpr ⟨List.mem_of_getElem? (i := 383) (by decide +kernel), by decide +kernel⟩)⟩
theorem lkL_47 : q_LS RL 47 yL_laws := ⟨(List.mem_filter.mpr ⟨List.mem_of_getElem? (i := 391) (by decide +kernel), by decide +kernel⟩), (List.mem_filter.mpr ⟨List.mem_of_getElem? (i := 392) (by decide +kernel), by decide +kernel⟩)⟩
theorem lkL_50 : q_LV RL 50 yX5_index := ⟨(List.mem_filter.mpr ⟨List.mem_of_getElem? (i := 369) (by decide +kernel), by decide +kernel⟩), (List.mem_filter.mpr ⟨List.mem_of_getElem? (i := 370) (by decide +kernel), by decide +kernel⟩), (List.mem_filter.mpr ⟨List.mem_of_getElem? (i := 371) (by decide +kernel), by decide +kernel⟩)⟩
theorem lkL_53 : q_LV RL 53 yX5_game := ⟨(List.mem_filter.mpr ⟨List.mem_of_getElem? (i := 188) (by decide +kernel), by decide +kernel⟩), (List.mem_filter.mpr ⟨List.mem_of_getElem? (i := 189) (by decide +kernel), by decide +kernel⟩), (List.mem_filter.mpr ⟨List.mem_of_getElem? (i := 190) (by decide +kernel), by decide +kernel⟩)⟩
theorem lkL_56 : q_LS RL 56 yL_told := ⟨(List.mem_filter.mpr ⟨List.mem_of_getElem? (i := 386) (by decide +kernel), by decide +kernel⟩), (List.mem_filter.mpr ⟨List.mem_of_getElem? (i := 387) (by decide +kernel), by decide +kernel⟩)⟩
theorem lkL_63 : q_LV RL 63 yX5_count := ⟨(List.mem_filter.mpr ⟨List.mem_of_getElem? (i := 357) (by decide +kernel), by decide +kernel⟩), (List.mem_filter.mpr ⟨List.mem_of_getElem? (i := 358) (by decide +kernel), by decide +kernel⟩), (List.mem_filter.mpr ⟨List.mem_of_getElem? (i := 359) (by decide +kernel), by decide +kernel⟩)⟩
theorem lkL_67 : q_LV RL 67 yX5_told := ⟨(List.mem_filter.mpr ⟨List.mem_of_getElem? (i := 302) (by decide +kernel), by decide +kernel⟩), (List.mem_filter.mpr ⟨List.mem_of_getElem? (i := 303) (by decide +kernel), by decide +kernel⟩), (List.mem_filter.mpr ⟨List.mem_of_getElem? (i := 304) (by decide +kernel), by decide +kernel⟩)⟩
theorem lkL_60 : q_LV RL 60 yX5_stroke := ⟨(List.mem_filter.mpr ⟨List.mem_of_getElem? (i := 230) (by decide +kernel), by decide +kernel⟩), (List.mem_filter.mpr ⟨List.mem_of_getElem? (i := 231) (by decide +kernel), by decide +kernel⟩), (List.mem_filter.mpr ⟨List.mem_of_getElem? (i := 232) (by decide +kernel), by decide +kernel⟩)⟩
theorem lkL_69 : q_LV RL 69 yX5_found := ⟨(List.mem_filter.mpr ⟨List.mem_of_getElem? (i := 336) (by decide +kernel), by decide +kernel⟩), (List.mem_filter.mpr ⟨List.mem_of_getElem? (i := 337) (by decide +kernel), by decide +kernel⟩), (List.mem_filter.mpr ⟨List.mem_of_getElem? (i := 338) (by decide +kernel), by decide +kernel⟩)⟩
end
section
-- GENERATED by wip/p23/gen.py: the walks
set_option maxRecDepth 100000 in
set_option maxHeartbeats 4000000 in
theorem t_X0_byteOf {X : q_Cx} {Λ : q_Lay} (σ : Sg) (p0 : Int64) (p1 : Int32) : q_Ex X mX0_byteOf Λ Λ [.long p0, .int p1] σ (f_X0_byteOf σ p0 p1) := by
  refine gq_ex mfX0_byteOf (Nat.le_of_ble_eq_true rfl) ?_
  show q_G X mX0_byteOf (q_QM X Λ mX0_byteOf) (Λ, 0, 0) σ 0 [(0, .long p0), (2, .int p1)] [] _
  unfold f_X0_byteOf
  refine gq_lload_n (i := 0) (pc' := 1) dX0_byteOf_0 rfl rfl ?_
  refine gq_bipush (v := 8) (pc' := 3) dX0_byteOf_1 rfl  (by decide) ?_
  refine gq_iload_n (i := 1) (pc' := 4) dX0_byteOf_3 rfl rfl ?_
  refine gq_imul (pc' := 5) dX0_byteOf_4 rfl ?_
  refine gq_lushr (pc' := 6) dX0_byteOf_5 rfl ?_
  refine gq_ldc2 (v := 255) (pc' := 9) dX0_byteOf_6 rfl (List.mem_filter.mpr ⟨List.mem_of_getElem? (i := 407) (by decide +kernel), by decide +kernel⟩) ?_
  refine gq_land (pc' := 10) dX0_byteOf_9 rfl ?_
  refine gq_l2i (pc' := 11) dX0_byteOf_10 rfl ?_
  exact gq_iret dX0_byteOf_11 rfl rfl rfl
set_option maxRecDepth 100000 in
set_option maxHeartbeats 4000000 in
theorem t_X2_begins {X : q_Cx} {Λ : q_Lay} (σ : Sg) (p0 : Int32) : q_Ex X mX2_begins Λ Λ [.int p0] σ (f_X2_begins σ p0) := by
  refine gq_ex mfX2_begins (Nat.le_of_ble_eq_true rfl) ?_
  show q_G X mX2_begins (q_QM X Λ mX2_begins) (Λ, 0, 0) σ 0 [(0, .int p0)] [] _
  unfold f_X2_begins
  refine gq_iload_n (i := 0) (pc' := 1) dX2_begins_0 rfl rfl ?_
  refine gq_if_eq (pc' := 4) (tgt := 10) dX2_begins_1 rfl (by decide) (fun c1 => ?_) (fun c1 => ?_)
  · refine gq_iconst (v := 1) (pc' := 11) dX2_begins_10 rfl  (by decide) ?_
    refine gq_goto (pc' := 15) dX2_begins_11 (by decide) ?_
    exact gq_zret dX2_begins_15 rfl rfl rfl rfl
  · refine gq_iload_n (i := 0) (pc' := 5) dX2_begins_4 rfl rfl ?_
    refine gq_bipush (v := 6) (pc' := 7) dX2_begins_5 rfl  (by decide) ?_
    refine gq_icmp_ne (pc' := 10) (tgt := 14) dX2_begins_7 rfl (by decide) (fun c2 => ?_) (fun c2 => ?_)
    · refine gq_iconst (v := 1) (pc' := 11) dX2_begins_10 rfl  (by decide) ?_
      refine gq_goto (pc' := 15) dX2_begins_11 (by decide) ?_
      exact gq_zret dX2_begins_15 rfl rfl rfl rfl
    · refine gq_iconst (v := 0) (pc' := 15) dX2_begins_14 rfl  (by decide) ?_
      exact gq_zret dX2_begins_15 rfl rfl rfl rfl
set_option maxRecDepth 100000 in
set_option maxHeartbeats 4000000 in
theorem t_X5_within {X : q_Cx} {Λ : q_Lay} (σ : Sg) (p0 : Int32) (p1 : Int32) (p2 : Int32) : q_Ex X mX5_within Λ Λ [.int p0, .int p1, .int p2] σ (f_X5_within σ p0 p1 p2) := by
  refine gq_ex mfX5_within (Nat.le_of_ble_eq_true rfl) ?_
  show q_G X mX5_within (q_QM X Λ mX5_within) (Λ, 0, 0) σ 0 [(0, .int p0), (1, .int p1), (2, .int p2)] [] _
  unfold f_X5_within
  refine gq_iload_n (i := 0) (pc' := 1) dX5_within_0 rfl rfl ?_
  refine gq_iload_n (i := 1) (pc' := 2) dX5_within_1 rfl rfl ?_
  refine gq_icmp_lt (pc' := 5) (tgt := 14) dX5_within_2 rfl (by decide) (fun c1 => ?_) (fun c1 => ?_)
  · refine gq_iconst (v := 0) (pc' := 15) dX5_within_14 rfl  (by decide) ?_
    exact gq_zret dX5_within_15 rfl rfl rfl rfl
  · refine gq_iload_n (i := 0) (pc' := 6) dX5_within_5 rfl rfl ?_
    refine gq_iload_n (i := 2) (pc' := 7) dX5_within_6 rfl rfl ?_
    refine gq_icmp_gt (pc' := 10) (tgt := 14) dX5_within_7 rfl (by decide) (fun c2 => ?_) (fun c2 => ?_)
    · refine gq_iconst (v := 0) (pc' := 15) dX5_within_14 rfl  (by decide) ?_
      exact gq_zret dX5_within_15 rfl rfl rfl rfl
    · refine gq_iconst (v := 1) (pc' := 11) dX5_within_10 rfl  (by decide) ?_
      refine gq_goto (pc' := 15) dX5_within_11 (by decide) ?_
      exact gq_zret dX5_within_15 rfl rfl rfl rfl
set_option maxRecDepth 100000 in
set_option maxHeartbeats 4000000 in
theorem t_X5_isPlayer {X : q_Cx} {Λ : q_Lay} (σ : Sg) (p0 : Int32) : q_Ex X mX5_isPlayer Λ Λ [.int p0] σ (f_X5_isPlayer σ p0) := by
  refine gq_ex mfX5_isPlayer (Nat.le_of_ble_eq_true rfl) ?_
  show q_G X mX5_isPlayer (q_QM X Λ mX5_isPlayer) (Λ, 0, 0) σ 0 [(0, .int p0)] [] _
  unfold f_X5_isPlayer
  refine gq_iload_n (i := 0) (pc' := 1) dX5_isPlayer_0 rfl rfl ?_
  refine gq_iconst (v := 0) (pc' := 2) dX5_isPlayer_1 rfl  (by decide) ?_
  refine gq_bipush (v := 7) (pc' := 4) dX5_isPlayer_2 rfl  (by decide) ?_
  refine gq_calli (cs' := 0) (ns' := 0) (pc' := 7) (gq_siteS (Mc := mX5_within) (As := [.int p0, .int (0 : Int32), .int (7 : Int32)]) (rest := []) dX5_isPlayer_4 lkX5_54 mfX5_within (t_X5_within σ p0 (0 : Int32) (7 : Int32)) rfl ⟨Nat.le_of_ble_eq_true rfl, Nat.le_of_ble_eq_true rfl⟩ ⟨Nat.le_of_ble_eq_true rfl, Nat.le_of_ble_eq_true rfl⟩ rfl (Nat.le_of_ble_eq_true rfl)) rfl rfl rfl rfl (fun s1 r2 _ => ?_)
  exact gq_zretq dX5_isPlayer_7 rfl rfl rfl
set_option maxRecDepth 100000 in
set_option maxHeartbeats 4000000 in
theorem t_X5_at {X : q_Cx} {Λ : q_Lay} (a n : Nat) (ha : q_RA X Λ a n) (σ : Sg) (p1 : Int32) : q_Ex X mX5_at Λ Λ [.ref (xa X a), .int p1] σ (f_X5_at a n σ p1) := by
  refine gq_ex mfX5_at (Nat.le_of_ble_eq_true rfl) ?_
  show q_G X mX5_at (q_QM X Λ mX5_at) (Λ, 0, 0) σ 0 [(0, .ref (xa X a)), (1, .int p1)] [] _
  unfold f_X5_at
  refine gq_iload_n (i := 1) (pc' := 1) dX5_at_0 rfl rfl ?_
  refine gq_if_lt (pc' := 4) (tgt := 16) dX5_at_1 rfl (by decide) (fun c1 => ?_) (fun c1 => ?_)
  · refine gq_bipush (v := -4) (pc' := 18) dX5_at_16 rfl  (by decide) ?_
    exact gq_iret dX5_at_18 rfl rfl rfl
  · refine gq_iload_n (i := 1) (pc' := 5) dX5_at_4 rfl rfl ?_
    refine gq_aload_n (i := 0) (pc' := 6) dX5_at_5 rfl rfl ?_
    refine gq_alen (n := n) (pc' := 7) dX5_at_6 rfl ha rfl ?_
    refine gq_icmp_ge (pc' := 10) (tgt := 16) dX5_at_7 rfl (by decide) (fun c2 => ?_) (fun c2 => ?_)
    · refine gq_bipush (v := -4) (pc' := 18) dX5_at_16 rfl  (by decide) ?_
      exact gq_iret dX5_at_18 rfl rfl rfl
    · refine gq_aload_n (i := 0) (pc' := 11) dX5_at_10 rfl rfl ?_
      refine gq_iload_n (i := 1) (pc' := 12) dX5_at_11 rfl rfl ?_
      refine gq_iald (n := n) (pc' := 13) dX5_at_12 rfl ha (fun _ => ?_)
      refine gq_goto (pc' := 18) dX5_at_13 (by decide) ?_
      exact gq_iret dX5_at_18 rfl rfl rfl
set_option maxRecDepth 100000 in
set_option maxHeartbeats 4000000 in
theorem t_X5_set {X : q_Cx} {Λ : q_Lay} (a n : Nat) (ha : Λ[a]? = some (.inl (false, n))) (σ : Sg) (p1 : Int32) (p2 : Int32) : q_Ex X mX5_set Λ Λ [.ref (xa X a), .int p1, .int p2] σ (f_X5_set a n σ p1 p2) := by
  refine gq_ex mfX5_set (Nat.le_of_ble_eq_true rfl) ?_
  show q_G X mX5_set (q_QM X Λ mX5_set) (Λ, 0, 0) σ 0 [(0, .ref (xa X a)), (1, .int p1), (2, .int p2)] [] _
  unfold f_X5_set
  refine gq_iload_n (i := 1) (pc' := 1) dX5_set_0 rfl rfl ?_
  refine gq_if_lt (pc' := 4) (tgt := 14) dX5_set_1 rfl (by decide) (fun c1 => ?_) (fun c1 => ?_)
  · exact gq_vret dX5_set_14 rfl rfl rfl
  · refine gq_iload_n (i := 1) (pc' := 5) dX5_set_4 rfl rfl ?_
    refine gq_aload_n (i := 0) (pc' := 6) dX5_set_5 rfl rfl ?_
    refine gq_alen (n := n) (pc' := 7) dX5_set_6 rfl (Or.inl ha) rfl ?_
    refine gq_icmp_ge (pc' := 10) (tgt := 14) dX5_set_7 rfl (by decide) (fun c2 => ?_) (fun c2 => ?_)
    · exact gq_vret dX5_set_14 rfl rfl rfl
    · refine gq_aload_n (i := 0) (pc' := 11) dX5_set_10 rfl rfl ?_
      refine gq_iload_n (i := 1) (pc' := 12) dX5_set_11 rfl rfl ?_
      refine gq_iload_n (i := 2) (pc' := 13) dX5_set_12 rfl rfl ?_
      refine gq_iast (n := n) (pc' := 14) dX5_set_13 rfl ha (fun _ => ?_)
      refine gq_lets (fun s3 => ?_)
      exact gq_vret dX5_set_14 rfl rfl rfl
set_option maxRecDepth 100000 in
set_option maxHeartbeats 4000000 in
theorem k_J7_fill_53178_L5 {X : q_Cx} {Λ : q_Lay} (a n : Nat) (ha : Λ[a]? = some (.inl (false, n))) {rec : Sg → Int32 → Int32 → Int32 → Rs} (hrec : ∀ (σ : Sg) (x1 : Int32) (x2 : Int32) (x3 : Int32), q_G X mJ7_fill_53178 (q_QM X Λ mJ7_fill_53178) (Λ, 0, 0) σ 5 [(0, .ref (xa X a)), (1, .int x1), (2, .int x2), (3, .int x3)] [] (rec σ x1 x2 x3)) (σ : Sg) (x1 : Int32) (x2 : Int32) (x3 : Int32) : q_G X mJ7_fill_53178 (q_QM X Λ mJ7_fill_53178) (Λ, 0, 0) σ 5 [(0, .ref (xa X a)), (1, .int x1), (2, .int x2), (3, .int x3)] [] (s_J7_fill_53178_L5 a n rec σ x1 x2 x3) := by
  unfold s_J7_fill_53178_L5
  refine gq_iload_n (i := 2) (pc' := 6) dJ7_fill_53178_5 rfl rfl ?_
  refine gq_iload_n (i := 3) (pc' := 7) dJ7_fill_53178_6 rfl rfl ?_
  refine gq_icmp_ge (pc' := 10) (tgt := 20) dJ7_fill_53178_7 rfl (by decide) (fun c2 => ?_) (fun c2 => ?_)
  · exact gq_vret dJ7_fill_53178_20 rfl rfl rfl
  · refine gq_aload_n (i := 0) (pc' := 11) dJ7_fill_53178_10 rfl rfl ?_
    refine gq_iload_n (i := 2) (pc' := 12) dJ7_fill_53178_11 rfl rfl ?_
    refine gq_iload_n (i := 1) (pc' := 13) dJ7_fill_53178_12 rfl rfl ?_
    refine gq_iast (n := n) (pc' := 14) dJ7_fill_53178_13 rfl ha (fun _ => ?_)
    refine gq_lets (fun s3 => ?_)
    refine gq_iincl (j := 2) (pc' := 17) dJ7_fill_53178_14 rfl rfl (by decide) (by decide) (fun v4 => gq_sub (l' := [(2, .int v4), (0, .ref (xa X a)), (1, .int x1), (3, .int x3)]) [0, 1, 2, 3] rfl ?_)
    refine gq_goto (pc' := 5) dJ7_fill_53178_17 (by decide) ?_
    refine gq_sub (l' := [(0, .ref (xa X a)), (1, .int x1), (2, .int v4), (3, .int x3)]) [1, 2, 0, 3] rfl ?_
    exact hrec s3 x1 v4 x3
set_option maxRecDepth 100000 in
set_option maxHeartbeats 4000000 in
theorem g_J7_fill_53178_L5 {X : q_Cx} {Λ : q_Lay} (a n : Nat) (ha : Λ[a]? = some (.inl (false, n))) (qn : Nat) : ∀ (σ : Sg) (x1 : Int32) (x2 : Int32) (x3 : Int32), q_G X mJ7_fill_53178 (q_QM X Λ mJ7_fill_53178) (Λ, 0, 0) σ 5 [(0, .ref (xa X a)), (1, .int x1), (2, .int x2), (3, .int x3)] [] (f_J7_fill_53178_L5 a n qn σ x1 x2 x3) := by
  induction qn with
  | zero => exact fun σ x1 x2 x3 => gq_none
  | succ qn ih => exact fun σ x1 x2 x3 => k_J7_fill_53178_L5 a n ha ih σ x1 x2 x3
set_option maxRecDepth 100000 in
set_option maxHeartbeats 4000000 in
theorem t_J7_fill_53178 {X : q_Cx} {Λ : q_Lay} (a n : Nat) (ha : Λ[a]? = some (.inl (false, n))) (σ : Sg) (p1 : Int32) : q_Ex X mJ7_fill_53178 Λ Λ [.ref (xa X a), .int p1] σ (f_J7_fill_53178 a n σ p1) := by
  refine gq_ex mfJ7_fill_53178 (Nat.le_of_ble_eq_true rfl) ?_
  show q_G X mJ7_fill_53178 (q_QM X Λ mJ7_fill_53178) (Λ, 0, 0) σ 0 [(0, .ref (xa X a)), (1, .int p1)] [] _
  unfold f_J7_fill_53178
  refine gq_iconst (v := 0) (pc' := 1) dJ7_fill_53178_0 rfl  (by decide) ?_
  refine gq_istore_n (l' := [(2, .int (0 : Int32)), (0, .ref (xa X a)), (1, .int p1)]) (pc' := 2) dJ7_fill_53178_1 rfl (by decide) rfl ?_
  refine gq_aload_n (i := 1) (pc' := 3) dJ7_fill_53178_2 rfl rfl ?_
  refine gq_alen (n := n) (pc' := 4) dJ7_fill_53178_3 rfl (Or.inl ha) rfl ?_
  refine gq_let (fun v1 => ?_)
  refine gq_istore_n (l' := [(3, .int v1), (2, .int (0 : Int32)), (0, .ref (xa X a)), (1, .int p1)]) (pc' := 5) dJ7_fill_53178_4 rfl (by decide) rfl ?_
  refine gq_sub (l' := [(0, .ref (xa X a)), (1, .int p1), (2, .int (0 : Int32)), (3, .int v1)]) [2, 3, 1, 0] rfl ?_
  exact g_J7_fill_53178_L5 a n ha 1000 σ p1 (0 : Int32) v1
set_option maxRecDepth 100000 in
set_option maxHeartbeats 4000000 in
theorem t_L_cell {X : q_Cx} {Λ : q_Lay} (a n : Nat) (ha : q_RA X Λ a n) (σ : Sg) (p1 : Int32) : q_Ex X mL_cell Λ Λ [.ref (xa X a), .int p1] σ (f_L_cell a n σ p1) := by
  refine gq_ex mfL_cell (Nat.le_of_ble_eq_true rfl) ?_
  show q_G X mL_cell (q_QM X Λ mL_cell) (Λ, 0, 0) σ 0 [(0, .ref (xa X a)), (1, .int p1)] [] _
  unfold f_L_cell
  refine gq_iload_n (i := 1) (pc' := 1) dL_cell_0 rfl rfl ?_
  refine gq_aload_n (i := 0) (pc' := 2) dL_cell_1 rfl rfl ?_
  refine gq_alen (n := n) (pc' := 3) dL_cell_2 rfl ha rfl ?_
  refine gq_icmp_ge (pc' := 6) (tgt := 12) dL_cell_3 rfl (by decide) (fun c1 => ?_) (fun c1 => ?_)
  · refine gq_ldc (v := 625341585) (pc' := 14) dL_cell_12 rfl (List.mem_filter.mpr ⟨List.mem_of_getElem? (i := 381) (by decide +kernel), by decide +kernel⟩) ?_
    refine gq_iload_n (i := 1) (pc' := 15) dL_cell_14 rfl rfl ?_
    refine gq_iconst (v := 3) (pc' := 16) dL_cell_15 rfl  (by decide) ?_
    refine gq_iadd (pc' := 17) dL_cell_16 rfl ?_
    refine gq_imul (pc' := 18) dL_cell_17 rfl ?_
    exact gq_iret dL_cell_18 rfl rfl rfl
  · refine gq_aload_n (i := 0) (pc' := 7) dL_cell_6 rfl rfl ?_
    refine gq_iload_n (i := 1) (pc' := 8) dL_cell_7 rfl rfl ?_
    refine gq_iald (n := n) (pc' := 9) dL_cell_8 rfl ha (fun _ => ?_)
    refine gq_goto (pc' := 18) dL_cell_9 (by decide) ?_
    exact gq_iret dL_cell_18 rfl rfl rfl
set_option maxRecDepth 100000 in
set_option maxHeartbeats 4000000 in
theorem t_L_some {X : q_Cx} {Λ : q_Lay} (σ : Sg) (p0 : Int32) (p1 : Int32) : q_Ex X mL_some Λ Λ [.int p0, .int p1] σ (f_L_some σ p0 p1) := by
  refine gq_ex mfL_some (Nat.le_of_ble_eq_true rfl) ?_
  show q_G X mL_some (q_QM X Λ mL_some) (Λ, 0, 0) σ 0 [(0, .int p0), (1, .int p1)] [] _
  unfold f_L_some
  refine gq_iload_n (i := 0) (pc' := 1) dL_some_0 rfl rfl ?_
  refine gq_ldc (v := 2147483647) (pc' := 3) dL_some_1 rfl (List.mem_filter.mpr ⟨List.mem_of_getElem? (i := 385) (by decide +kernel), by decide +kernel⟩) ?_
  refine gq_iand (pc' := 4) dL_some_3 rfl ?_
  refine gq_iload_n (i := 1) (pc' := 5) dL_some_4 rfl rfl ?_
  refine gq_iremq (pc' := 6) dL_some_5 rfl ?_
  exact gq_iret dL_some_6 rfl rfl rfl
end
section
-- GENERATED by wip/p23/gen.py: the walks
set_option maxRecDepth 100000 in
set_option maxHeartbeats 4000000 in
theorem t_X3_init_9 {X : q_Cx} (σ : Sg) : q_Ex X mX3_init q_Ls_X3_init_9 q_Le_X3_init_9 [.ref (xa X 9)] σ (f_X3_init_9 σ) := by
  refine gq_ex mfX3_init (Nat.le_of_ble_eq_true rfl) ?_
  show q_G X mX3_init (q_QM X q_Le_X3_init_9 mX3_init) (q_Ls_X3_init_9, 0, 0) σ 0 [(0, .ref (xa X 9))] [] _
  unfold f_X3_init_9
  refine gq_aload_n (i := 0) (pc' := 1) dX3_init_0 rfl rfl ?_
  refine gq_objI (pc' := 4) dX3_init_1 rfl (List.mem_filter.mpr ⟨List.mem_of_getElem? (i := 47) (by decide +kernel), by decide +kernel⟩) (List.mem_filter.mpr ⟨List.mem_of_getElem? (i := 34) (by decide +kernel), by decide +kernel⟩) (List.mem_filter.mpr ⟨List.mem_of_getElem? (i := 35) (by decide +kernel), by decide +kernel⟩) (Nat.le_of_ble_eq_true rfl) (Nat.le_of_ble_eq_true rfl) ?_
  refine gq_aload_n (i := 0) (pc' := 5) dX3_init_4 rfl rfl ?_
  refine gq_iconst (v := 4) (pc' := 6) dX3_init_5 rfl  (by decide) ?_
  refine gq_newa (n := 4) (pc' := 8) (cs' := 1) (ns' := 4) dX3_init_6 rfl (List.mem_filter.mpr ⟨List.mem_of_getElem? (i := 73) (by decide +kernel), by decide +kernel⟩) rfl (by decide) (by decide) (Nat.le_of_ble_eq_true rfl) (Nat.le_of_ble_eq_true rfl) (Nat.le_of_ble_eq_true rfl) (o := 10) rfl (by decide) rfl rfl rfl ?_
  refine gq_lets (fun s1 => ?_)
  refine gq_putr (pc' := 11) dX3_init_8 rfl flX3_9 plX3_0 rfl rfl rfl rfl rfl rfl rfl ?_
  refine gq_aload_n (i := 0) (pc' := 12) dX3_init_11 rfl rfl ?_
  refine gq_iconst (v := 2) (pc' := 13) dX3_init_12 rfl  (by decide) ?_
  refine gq_newa (n := 2) (pc' := 15) (cs' := 2) (ns' := 6) dX3_init_13 rfl (List.mem_filter.mpr ⟨List.mem_of_getElem? (i := 73) (by decide +kernel), by decide +kernel⟩) rfl (by decide) (by decide) (Nat.le_of_ble_eq_true rfl) (Nat.le_of_ble_eq_true rfl) (Nat.le_of_ble_eq_true rfl) (o := 11) rfl (by decide) rfl rfl rfl ?_
  refine gq_lets (fun s2 => ?_)
  refine gq_putr (pc' := 18) dX3_init_15 rfl flX3_15 plX3_1 rfl rfl rfl rfl rfl rfl rfl ?_
  exact gq_ph rfl (gq_vret dX3_init_18 rfl rfl rfl)
set_option maxRecDepth 100000 in
set_option maxHeartbeats 4000000 in
theorem t_X3_init_12 {X : q_Cx} (σ : Sg) : q_Ex X mX3_init q_Ls_X3_init_12 q_Le_X3_init_12 [.ref (xa X 12)] σ (f_X3_init_12 σ) := by
  refine gq_ex mfX3_init (Nat.le_of_ble_eq_true rfl) ?_
  show q_G X mX3_init (q_QM X q_Le_X3_init_12 mX3_init) (q_Ls_X3_init_12, 0, 0) σ 0 [(0, .ref (xa X 12))] [] _
  unfold f_X3_init_12
  refine gq_aload_n (i := 0) (pc' := 1) dX3_init_0 rfl rfl ?_
  refine gq_objI (pc' := 4) dX3_init_1 rfl (List.mem_filter.mpr ⟨List.mem_of_getElem? (i := 47) (by decide +kernel), by decide +kernel⟩) (List.mem_filter.mpr ⟨List.mem_of_getElem? (i := 34) (by decide +kernel), by decide +kernel⟩) (List.mem_filter.mpr ⟨List.mem_of_getElem? (i := 35) (by decide +kernel), by decide +kernel⟩) (Nat.le_of_ble_eq_true rfl) (Nat.le_of_ble_eq_true rfl) ?_
  refine gq_aload_n (i := 0) (pc' := 5) dX3_init_4 rfl rfl ?_
  refine gq_iconst (v := 4) (pc' := 6) dX3_init_5 rfl  (by decide) ?_
  refine gq_newa (n := 4) (pc' := 8) (cs' := 1) (ns' := 4) dX3_init_6 rfl (List.mem_filter.mpr ⟨List.mem_of_getElem? (i := 73) (by decide +kernel), by decide +kernel⟩) rfl (by decide) (by decide) (Nat.le_of_ble_eq_true rfl) (Nat.le_of_ble_eq_true rfl) (Nat.le_of_ble_eq_true rfl) (o := 13) rfl (by decide) rfl rfl rfl ?_
  refine gq_lets (fun s1 => ?_)
  refine gq_putr (pc' := 11) dX3_init_8 rfl flX3_9 plX3_0 rfl rfl rfl rfl rfl rfl rfl ?_
  refine gq_aload_n (i := 0) (pc' := 12) dX3_init_11 rfl rfl ?_
  refine gq_iconst (v := 2) (pc' := 13) dX3_init_12 rfl  (by decide) ?_
  refine gq_newa (n := 2) (pc' := 15) (cs' := 2) (ns' := 6) dX3_init_13 rfl (List.mem_filter.mpr ⟨List.mem_of_getElem? (i := 73) (by decide +kernel), by decide +kernel⟩) rfl (by decide) (by decide) (Nat.le_of_ble_eq_true rfl) (Nat.le_of_ble_eq_true rfl) (Nat.le_of_ble_eq_true rfl) (o := 14) rfl (by decide) rfl rfl rfl ?_
  refine gq_lets (fun s2 => ?_)
  refine gq_putr (pc' := 18) dX3_init_15 rfl flX3_15 plX3_1 rfl rfl rfl rfl rfl rfl rfl ?_
  exact gq_ph rfl (gq_vret dX3_init_18 rfl rfl rfl)
set_option maxRecDepth 100000 in
set_option maxHeartbeats 4000000 in
theorem t_X2_init_1 {X : q_Cx} (σ : Sg) : q_Ex X mX2_init q_Ls_X2_init_1 q_Le_X2_init_1 [.ref (xa X 1)] σ (f_X2_init_1 σ) := by
  refine gq_ex mfX2_init (Nat.le_of_ble_eq_true rfl) ?_
  show q_G X mX2_init (q_QM X q_Le_X2_init_1 mX2_init) (q_Ls_X2_init_1, 0, 0) σ 0 [(0, .ref (xa X 1))] [] _
  unfold f_X2_init_1
  refine gq_aload_n (i := 0) (pc' := 1) dX2_init_0 rfl rfl ?_
  refine gq_objI (pc' := 4) dX2_init_1 rfl (List.mem_filter.mpr ⟨List.mem_of_getElem? (i := 41) (by decide +kernel), by decide +kernel⟩) (List.mem_filter.mpr ⟨List.mem_of_getElem? (i := 34) (by decide +kernel), by decide +kernel⟩) (List.mem_filter.mpr ⟨List.mem_of_getElem? (i := 35) (by decide +kernel), by decide +kernel⟩) (Nat.le_of_ble_eq_true rfl) (Nat.le_of_ble_eq_true rfl) ?_
  refine gq_aload_n (i := 0) (pc' := 5) dX2_init_4 rfl rfl ?_
  refine gq_sipush (v := 150) (pc' := 8) dX2_init_5 rfl  (by decide) ?_
  refine gq_newa (n := 150) (pc' := 10) (cs' := 1) (ns' := 150) dX2_init_8 rfl (List.mem_filter.mpr ⟨List.mem_of_getElem? (i := 73) (by decide +kernel), by decide +kernel⟩) rfl (by decide) (by decide) (Nat.le_of_ble_eq_true rfl) (Nat.le_of_ble_eq_true rfl) (Nat.le_of_ble_eq_true rfl) (o := 2) rfl (by decide) rfl rfl rfl ?_
  refine gq_lets (fun s1 => ?_)
  refine gq_putr (pc' := 13) dX2_init_10 rfl flX2_9 plX2_0 rfl rfl rfl rfl rfl rfl rfl ?_
  refine gq_aload_n (i := 0) (pc' := 14) dX2_init_13 rfl rfl ?_
  refine gq_sipush (v := 150) (pc' := 17) dX2_init_14 rfl  (by decide) ?_
  refine gq_newa (n := 150) (pc' := 19) (cs' := 2) (ns' := 300) dX2_init_17 rfl (List.mem_filter.mpr ⟨List.mem_of_getElem? (i := 73) (by decide +kernel), by decide +kernel⟩) rfl (by decide) (by decide) (Nat.le_of_ble_eq_true rfl) (Nat.le_of_ble_eq_true rfl) (Nat.le_of_ble_eq_true rfl) (o := 3) rfl (by decide) rfl rfl rfl ?_
  refine gq_lets (fun s2 => ?_)
  refine gq_putr (pc' := 22) dX2_init_19 rfl flX2_15 plX2_1 rfl rfl rfl rfl rfl rfl rfl ?_
  refine gq_aload_n (i := 0) (pc' := 23) dX2_init_22 rfl rfl ?_
  refine gq_sipush (v := 150) (pc' := 26) dX2_init_23 rfl  (by decide) ?_
  refine gq_newa (n := 150) (pc' := 28) (cs' := 3) (ns' := 450) dX2_init_26 rfl (List.mem_filter.mpr ⟨List.mem_of_getElem? (i := 73) (by decide +kernel), by decide +kernel⟩) rfl (by decide) (by decide) (Nat.le_of_ble_eq_true rfl) (Nat.le_of_ble_eq_true rfl) (Nat.le_of_ble_eq_true rfl) (o := 4) rfl (by decide) rfl rfl rfl ?_
  refine gq_lets (fun s3 => ?_)
  refine gq_putr (pc' := 31) dX2_init_28 rfl flX2_18 plX2_2 rfl rfl rfl rfl rfl rfl rfl ?_
  refine gq_aload_n (i := 0) (pc' := 32) dX2_init_31 rfl rfl ?_
  refine gq_sipush (v := 150) (pc' := 35) dX2_init_32 rfl  (by decide) ?_
  refine gq_newa (n := 150) (pc' := 37) (cs' := 4) (ns' := 600) dX2_init_35 rfl (List.mem_filter.mpr ⟨List.mem_of_getElem? (i := 73) (by decide +kernel), by decide +kernel⟩) rfl (by decide) (by decide) (Nat.le_of_ble_eq_true rfl) (Nat.le_of_ble_eq_true rfl) (Nat.le_of_ble_eq_true rfl) (o := 5) rfl (by decide) rfl rfl rfl ?_
  refine gq_lets (fun s4 => ?_)
  refine gq_putr (pc' := 40) dX2_init_37 rfl flX2_21 plX2_3 rfl rfl rfl rfl rfl rfl rfl ?_
  refine gq_aload_n (i := 0) (pc' := 41) dX2_init_40 rfl rfl ?_
  refine gq_sipush (v := 150) (pc' := 44) dX2_init_41 rfl  (by decide) ?_
  refine gq_newa (n := 150) (pc' := 46) (cs' := 5) (ns' := 750) dX2_init_44 rfl (List.mem_filter.mpr ⟨List.mem_of_getElem? (i := 73) (by decide +kernel), by decide +kernel⟩) rfl (by decide) (by decide) (Nat.le_of_ble_eq_true rfl) (Nat.le_of_ble_eq_true rfl) (Nat.le_of_ble_eq_true rfl) (o := 6) rfl (by decide) rfl rfl rfl ?_
  refine gq_lets (fun s5 => ?_)
  refine gq_putr (pc' := 49) dX2_init_46 rfl flX2_24 plX2_4 rfl rfl rfl rfl rfl rfl rfl ?_
  refine gq_aload_n (i := 0) (pc' := 50) dX2_init_49 rfl rfl ?_
  refine gq_sipush (v := 151) (pc' := 53) dX2_init_50 rfl  (by decide) ?_
  refine gq_newa (n := 151) (pc' := 55) (cs' := 6) (ns' := 901) dX2_init_53 rfl (List.mem_filter.mpr ⟨List.mem_of_getElem? (i := 73) (by decide +kernel), by decide +kernel⟩) rfl (by decide) (by decide) (Nat.le_of_ble_eq_true rfl) (Nat.le_of_ble_eq_true rfl) (Nat.le_of_ble_eq_true rfl) (o := 7) rfl (by decide) rfl rfl rfl ?_
  refine gq_lets (fun s6 => ?_)
  refine gq_putr (pc' := 58) dX2_init_55 rfl flX2_27 plX2_5 rfl rfl rfl rfl rfl rfl rfl ?_
  refine gq_aload_n (i := 0) (pc' := 59) dX2_init_58 rfl rfl ?_
  refine gq_iconst (v := 2) (pc' := 60) dX2_init_59 rfl  (by decide) ?_
  refine gq_newa (n := 2) (pc' := 62) (cs' := 7) (ns' := 903) dX2_init_60 rfl (List.mem_filter.mpr ⟨List.mem_of_getElem? (i := 73) (by decide +kernel), by decide +kernel⟩) rfl (by decide) (by decide) (Nat.le_of_ble_eq_true rfl) (Nat.le_of_ble_eq_true rfl) (Nat.le_of_ble_eq_true rfl) (o := 8) rfl (by decide) rfl rfl rfl ?_
  refine gq_lets (fun s7 => ?_)
  refine gq_putr (pc' := 65) dX2_init_62 rfl flX2_30 plX2_6 rfl rfl rfl rfl rfl rfl rfl ?_
  refine gq_aload_n (i := 0) (pc' := 66) dX2_init_65 rfl rfl ?_
  refine gq_new (ci := 3) (pc' := 69) (fs := [some none, some none, none, none, none, none, none, none]) (cs' := 8) (ns' := 911) dX2_init_66 rfl (List.mem_filter.mpr ⟨List.mem_of_getElem? (i := 42) (by decide +kernel), by decide +kernel⟩) (List.mem_filter.mpr ⟨List.mem_of_getElem? (i := 43) (by decide +kernel), by decide +kernel⟩) (List.mem_filter.mpr ⟨List.mem_of_getElem? (i := 22) (by decide +kernel), by decide +kernel⟩) iwX3 tyX3_ok rfl (fun j hj => by rcases (show j = 0 ∨ j = 1 ∨ j = 2 ∨ j = 3 ∨ j = 4 ∨ j = 5 ∨ j = 6 ∨ j = 7 by omega) with rfl | rfl | rfl | rfl | rfl | rfl | rfl | rfl <;> rfl) rfl (by decide) (Nat.le_of_ble_eq_true rfl) (Nat.le_of_ble_eq_true rfl) (o := 9) rfl (by decide) rfl rfl rfl ?_
  refine gq_lets (fun s8 => ?_)
  refine gq_dup (pc' := 70) dX2_init_69 rfl rfl ?_
  refine gq_callv (cs' := 10) (ns' := 917) (pc' := 73) (gq_siteIN (Mc := mX3_init) (As := []) (rest := [.ref (xa X 9), .ref (xa X 1)]) dX2_init_70 lkX2_35 mfX3_init rfl (t_X3_init_9 s8) rfl ⟨Nat.le_of_ble_eq_true rfl, Nat.le_of_ble_eq_true rfl⟩ ⟨Nat.le_of_ble_eq_true rfl, Nat.le_of_ble_eq_true rfl⟩ rfl (Nat.le_of_ble_eq_true rfl)) rfl rfl rfl rfl (fun s9 _ _ => ?_)
  refine gq_putr (pc' := 76) dX2_init_73 rfl flX2_36 plX2_7 rfl rfl rfl rfl rfl rfl rfl ?_
  refine gq_aload_n (i := 0) (pc' := 77) dX2_init_76 rfl rfl ?_
  refine gq_new (ci := 3) (pc' := 80) (fs := [some none, some none, none, none, none, none, none, none]) (cs' := 11) (ns' := 925) dX2_init_77 rfl (List.mem_filter.mpr ⟨List.mem_of_getElem? (i := 42) (by decide +kernel), by decide +kernel⟩) (List.mem_filter.mpr ⟨List.mem_of_getElem? (i := 43) (by decide +kernel), by decide +kernel⟩) (List.mem_filter.mpr ⟨List.mem_of_getElem? (i := 22) (by decide +kernel), by decide +kernel⟩) iwX3 tyX3_ok rfl (fun j hj => by rcases (show j = 0 ∨ j = 1 ∨ j = 2 ∨ j = 3 ∨ j = 4 ∨ j = 5 ∨ j = 6 ∨ j = 7 by omega) with rfl | rfl | rfl | rfl | rfl | rfl | rfl | rfl <;> rfl) rfl (by decide) (Nat.le_of_ble_eq_true rfl) (Nat.le_of_ble_eq_true rfl) (o := 12) rfl (by decide) rfl rfl rfl ?_
  refine gq_lets (fun s11 => ?_)
  refine gq_dup (pc' := 81) dX2_init_80 rfl rfl ?_
  refine gq_callv (cs' := 13) (ns' := 931) (pc' := 84) (gq_siteIN (Mc := mX3_init) (As := []) (rest := [.ref (xa X 12), .ref (xa X 1)]) dX2_init_81 lkX2_35 mfX3_init rfl (t_X3_init_12 s11) rfl ⟨Nat.le_of_ble_eq_true rfl, Nat.le_of_ble_eq_true rfl⟩ ⟨Nat.le_of_ble_eq_true rfl, Nat.le_of_ble_eq_true rfl⟩ rfl (Nat.le_of_ble_eq_true rfl)) rfl rfl rfl rfl (fun s12 _ _ => ?_)
  refine gq_putr (pc' := 87) dX2_init_84 rfl flX2_40 plX2_8 rfl rfl rfl rfl rfl rfl rfl ?_
  exact gq_ph rfl (gq_vret dX2_init_87 rfl rfl rfl)
set_option maxRecDepth 100000 in
set_option maxHeartbeats 4000000 in
theorem t_X0_init_15 {X : q_Cx} (σ : Sg) : q_Ex X mX0_init q_Ls_X0_init_15 q_Le_X0_init_15 [.ref (xa X 15)] σ (f_X0_init_15 σ) := by
  refine gq_ex mfX0_init (Nat.le_of_ble_eq_true rfl) ?_
  show q_G X mX0_init (q_QM X q_Le_X0_init_15 mX0_init) (q_Ls_X0_init_15, 0, 0) σ 0 [(0, .ref (xa X 15))] [] _
  unfold f_X0_init_15
  refine gq_aload_n (i := 0) (pc' := 1) dX0_init_0 rfl rfl ?_
  refine gq_objI (pc' := 4) dX0_init_1 rfl (List.mem_filter.mpr ⟨List.mem_of_getElem? (i := 119) (by decide +kernel), by decide +kernel⟩) (List.mem_filter.mpr ⟨List.mem_of_getElem? (i := 34) (by decide +kernel), by decide +kernel⟩) (List.mem_filter.mpr ⟨List.mem_of_getElem? (i := 35) (by decide +kernel), by decide +kernel⟩) (Nat.le_of_ble_eq_true rfl) (Nat.le_of_ble_eq_true rfl) ?_
  refine gq_aload_n (i := 0) (pc' := 5) dX0_init_4 rfl rfl ?_
  refine gq_bipush (v := 30) (pc' := 7) dX0_init_5 rfl  (by decide) ?_
  refine gq_newa (n := 30) (pc' := 9) (cs' := 1) (ns' := 30) dX0_init_7 rfl (List.mem_filter.mpr ⟨List.mem_of_getElem? (i := 73) (by decide +kernel), by decide +kernel⟩) rfl (by decide) (by decide) (Nat.le_of_ble_eq_true rfl) (Nat.le_of_ble_eq_true rfl) (Nat.le_of_ble_eq_true rfl) (o := 16) rfl (by decide) rfl rfl rfl ?_
  refine gq_lets (fun s1 => ?_)
  refine gq_putr (pc' := 12) dX0_init_9 rfl flX0_11 plX0_0 rfl rfl rfl rfl rfl rfl rfl ?_
  refine gq_aload_n (i := 0) (pc' := 13) dX0_init_12 rfl rfl ?_
  refine gq_iconst (v := 2) (pc' := 14) dX0_init_13 rfl  (by decide) ?_
  refine gq_newa (n := 2) (pc' := 16) (cs' := 2) (ns' := 32) dX0_init_14 rfl (List.mem_filter.mpr ⟨List.mem_of_getElem? (i := 73) (by decide +kernel), by decide +kernel⟩) rfl (by decide) (by decide) (Nat.le_of_ble_eq_true rfl) (Nat.le_of_ble_eq_true rfl) (Nat.le_of_ble_eq_true rfl) (o := 17) rfl (by decide) rfl rfl rfl ?_
  refine gq_lets (fun s2 => ?_)
  refine gq_putr (pc' := 19) dX0_init_16 rfl flX0_15 plX0_3 rfl rfl rfl rfl rfl rfl rfl ?_
  refine gq_aload_n (i := 0) (pc' := 20) dX0_init_19 rfl rfl ?_
  refine gq_iconst (v := 2) (pc' := 21) dX0_init_20 rfl  (by decide) ?_
  refine gq_newa (n := 2) (pc' := 23) (cs' := 3) (ns' := 34) dX0_init_21 rfl (List.mem_filter.mpr ⟨List.mem_of_getElem? (i := 73) (by decide +kernel), by decide +kernel⟩) rfl (by decide) (by decide) (Nat.le_of_ble_eq_true rfl) (Nat.le_of_ble_eq_true rfl) (Nat.le_of_ble_eq_true rfl) (o := 18) rfl (by decide) rfl rfl rfl ?_
  refine gq_lets (fun s3 => ?_)
  refine gq_putr (pc' := 26) dX0_init_23 rfl flX0_18 plX0_4 rfl rfl rfl rfl rfl rfl rfl ?_
  refine gq_aload_n (i := 0) (pc' := 27) dX0_init_26 rfl rfl ?_
  refine gq_iconst (v := 2) (pc' := 28) dX0_init_27 rfl  (by decide) ?_
  refine gq_newa (n := 2) (pc' := 30) (cs' := 4) (ns' := 36) dX0_init_28 rfl (List.mem_filter.mpr ⟨List.mem_of_getElem? (i := 73) (by decide +kernel), by decide +kernel⟩) rfl (by decide) (by decide) (Nat.le_of_ble_eq_true rfl) (Nat.le_of_ble_eq_true rfl) (Nat.le_of_ble_eq_true rfl) (o := 19) rfl (by decide) rfl rfl rfl ?_
  refine gq_lets (fun s4 => ?_)
  refine gq_putr (pc' := 33) dX0_init_30 rfl flX0_21 plX0_5 rfl rfl rfl rfl rfl rfl rfl ?_
  refine gq_aload_n (i := 0) (pc' := 34) dX0_init_33 rfl rfl ?_
  refine gq_iconst (v := 2) (pc' := 35) dX0_init_34 rfl  (by decide) ?_
  refine gq_newa (n := 2) (pc' := 37) (cs' := 5) (ns' := 38) dX0_init_35 rfl (List.mem_filter.mpr ⟨List.mem_of_getElem? (i := 73) (by decide +kernel), by decide +kernel⟩) rfl (by decide) (by decide) (Nat.le_of_ble_eq_true rfl) (Nat.le_of_ble_eq_true rfl) (Nat.le_of_ble_eq_true rfl) (o := 20) rfl (by decide) rfl rfl rfl ?_
  refine gq_lets (fun s5 => ?_)
  refine gq_putr (pc' := 40) dX0_init_37 rfl flX0_24 plX0_6 rfl rfl rfl rfl rfl rfl rfl ?_
  refine gq_aload_n (i := 0) (pc' := 41) dX0_init_40 rfl rfl ?_
  refine gq_getr (pc' := 44) dX0_init_41 rfl flX0_15 rfl rfl ?_
  refine gq_iconst (v := 0) (pc' := 45) dX0_init_44 rfl  (by decide) ?_
  refine gq_iconst (v := 5) (pc' := 46) dX0_init_45 rfl  (by decide) ?_
  refine gq_callv (cs' := 5) (ns' := 38) (pc' := 49) (gq_siteSN (Mc := mX5_set) (As := [.ref (xa X 17), .int (0 : Int32), .int (5 : Int32)]) (rest := []) dX0_init_46 lkX0_27 mfX5_set (t_X5_set 17 2 rfl s5 (0 : Int32) (5 : Int32)) rfl ⟨Nat.le_of_ble_eq_true rfl, Nat.le_of_ble_eq_true rfl⟩ ⟨Nat.le_of_ble_eq_true rfl, Nat.le_of_ble_eq_true rfl⟩ rfl (Nat.le_of_ble_eq_true rfl)) rfl rfl rfl rfl (fun s6 _ _ => ?_)
  refine gq_aload_n (i := 0) (pc' := 50) dX0_init_49 rfl rfl ?_
  refine gq_getr (pc' := 53) dX0_init_50 rfl flX0_18 rfl rfl ?_
  refine gq_iconst (v := 0) (pc' := 54) dX0_init_53 rfl  (by decide) ?_
  refine gq_bipush (v := 82) (pc' := 56) dX0_init_54 rfl  (by decide) ?_
  refine gq_callv (cs' := 5) (ns' := 38) (pc' := 59) (gq_siteSN (Mc := mX5_set) (As := [.ref (xa X 18), .int (0 : Int32), .int (82 : Int32)]) (rest := []) dX0_init_56 lkX0_27 mfX5_set (t_X5_set 18 2 rfl s6 (0 : Int32) (82 : Int32)) rfl ⟨Nat.le_of_ble_eq_true rfl, Nat.le_of_ble_eq_true rfl⟩ ⟨Nat.le_of_ble_eq_true rfl, Nat.le_of_ble_eq_true rfl⟩ rfl (Nat.le_of_ble_eq_true rfl)) rfl rfl rfl rfl (fun s8 _ _ => ?_)
  refine gq_aload_n (i := 0) (pc' := 60) dX0_init_59 rfl rfl ?_
  refine gq_getr (pc' := 63) dX0_init_60 rfl flX0_15 rfl rfl ?_
  refine gq_iconst (v := 1) (pc' := 64) dX0_init_63 rfl  (by decide) ?_
  refine gq_iconst (v := 2) (pc' := 65) dX0_init_64 rfl  (by decide) ?_
  refine gq_callv (cs' := 5) (ns' := 38) (pc' := 68) (gq_siteSN (Mc := mX5_set) (As := [.ref (xa X 17), .int (1 : Int32), .int (2 : Int32)]) (rest := []) dX0_init_65 lkX0_27 mfX5_set (t_X5_set 17 2 rfl s8 (1 : Int32) (2 : Int32)) rfl ⟨Nat.le_of_ble_eq_true rfl, Nat.le_of_ble_eq_true rfl⟩ ⟨Nat.le_of_ble_eq_true rfl, Nat.le_of_ble_eq_true rfl⟩ rfl (Nat.le_of_ble_eq_true rfl)) rfl rfl rfl rfl (fun s10 _ _ => ?_)
  refine gq_aload_n (i := 0) (pc' := 69) dX0_init_68 rfl rfl ?_
  refine gq_getr (pc' := 72) dX0_init_69 rfl flX0_18 rfl rfl ?_
  refine gq_iconst (v := 1) (pc' := 73) dX0_init_72 rfl  (by decide) ?_
  refine gq_bipush (v := 78) (pc' := 75) dX0_init_73 rfl  (by decide) ?_
  refine gq_callv (cs' := 5) (ns' := 38) (pc' := 78) (gq_siteSN (Mc := mX5_set) (As := [.ref (xa X 18), .int (1 : Int32), .int (78 : Int32)]) (rest := []) dX0_init_75 lkX0_27 mfX5_set (t_X5_set 18 2 rfl s10 (1 : Int32) (78 : Int32)) rfl ⟨Nat.le_of_ble_eq_true rfl, Nat.le_of_ble_eq_true rfl⟩ ⟨Nat.le_of_ble_eq_true rfl, Nat.le_of_ble_eq_true rfl⟩ rfl (Nat.le_of_ble_eq_true rfl)) rfl rfl rfl rfl (fun s12 _ _ => ?_)
  exact gq_ph rfl (gq_vret dX0_init_78 rfl rfl rfl)
set_option maxRecDepth 100000 in
set_option maxHeartbeats 4000000 in
theorem t_X4_init_21 {X : q_Cx} (σ : Sg) : q_Ex X mX4_init q_Ls_X4_init_21 q_Le_X4_init_21 [.ref (xa X 21)] σ (f_X4_init_21 σ) := by
  refine gq_ex mfX4_init (Nat.le_of_ble_eq_true rfl) ?_
  show q_G X mX4_init (q_QM X q_Le_X4_init_21 mX4_init) (q_Ls_X4_init_21, 0, 0) σ 0 [(0, .ref (xa X 21))] [] _
  unfold f_X4_init_21
  refine gq_aload_n (i := 0) (pc' := 1) dX4_init_0 rfl rfl ?_
  refine gq_objI (pc' := 4) dX4_init_1 rfl (List.mem_filter.mpr ⟨List.mem_of_getElem? (i := 150) (by decide +kernel), by decide +kernel⟩) (List.mem_filter.mpr ⟨List.mem_of_getElem? (i := 34) (by decide +kernel), by decide +kernel⟩) (List.mem_filter.mpr ⟨List.mem_of_getElem? (i := 35) (by decide +kernel), by decide +kernel⟩) (Nat.le_of_ble_eq_true rfl) (Nat.le_of_ble_eq_true rfl) ?_
  refine gq_aload_n (i := 0) (pc' := 5) dX4_init_4 rfl rfl ?_
  refine gq_bipush (v := 8) (pc' := 7) dX4_init_5 rfl  (by decide) ?_
  refine gq_newa (n := 8) (pc' := 9) (cs' := 1) (ns' := 8) dX4_init_7 rfl (List.mem_filter.mpr ⟨List.mem_of_getElem? (i := 73) (by decide +kernel), by decide +kernel⟩) rfl (by decide) (by decide) (Nat.le_of_ble_eq_true rfl) (Nat.le_of_ble_eq_true rfl) (Nat.le_of_ble_eq_true rfl) (o := 22) rfl (by decide) rfl rfl rfl ?_
  refine gq_lets (fun s1 => ?_)
  refine gq_putr (pc' := 12) dX4_init_9 rfl flX4_9 plX4_0 rfl rfl rfl rfl rfl rfl rfl ?_
  refine gq_aload_n (i := 0) (pc' := 13) dX4_init_12 rfl rfl ?_
  refine gq_getr (pc' := 16) dX4_init_13 rfl flX4_9 rfl rfl ?_
  refine gq_sipush (v := 1000) (pc' := 19) dX4_init_16 rfl  (by decide) ?_
  refine gq_callv (cs' := 1) (ns' := 8) (pc' := 22) (gq_siteS (Mc := mJ7_fill_53178) (As := [.ref (xa X 22), .int (1000 : Int32)]) (rest := []) dX4_init_19 lkX4_15 mfJ7_fill_53178 (t_J7_fill_53178 22 8 rfl s1 (1000 : Int32)) rfl ⟨Nat.le_of_ble_eq_true rfl, Nat.le_of_ble_eq_true rfl⟩ ⟨Nat.le_of_ble_eq_true rfl, Nat.le_of_ble_eq_true rfl⟩ rfl (Nat.le_of_ble_eq_true rfl)) rfl rfl rfl rfl (fun s2 _ _ => ?_)
  exact gq_ph rfl (gq_vret dX4_init_22 rfl rfl rfl)
set_option maxRecDepth 100000 in
set_option maxHeartbeats 4000000 in
theorem t_X1_init_23 {X : q_Cx} (σ : Sg) : q_Ex X mX1_init q_Ls_X1_init_23 q_Le_X1_init_23 [.ref (xa X 23)] σ (f_X1_init_23 σ) := by
  refine gq_ex mfX1_init (Nat.le_of_ble_eq_true rfl) ?_
  show q_G X mX1_init (q_QM X q_Le_X1_init_23 mX1_init) (q_Ls_X1_init_23, 0, 0) σ 0 [(0, .ref (xa X 23))] [] _
  unfold f_X1_init_23
  refine gq_aload_n (i := 0) (pc' := 1) dX1_init_0 rfl rfl ?_
  refine gq_objI (pc' := 4) dX1_init_1 rfl (List.mem_filter.mpr ⟨List.mem_of_getElem? (i := 163) (by decide +kernel), by decide +kernel⟩) (List.mem_filter.mpr ⟨List.mem_of_getElem? (i := 34) (by decide +kernel), by decide +kernel⟩) (List.mem_filter.mpr ⟨List.mem_of_getElem? (i := 35) (by decide +kernel), by decide +kernel⟩) (Nat.le_of_ble_eq_true rfl) (Nat.le_of_ble_eq_true rfl) ?_
  refine gq_aload_n (i := 0) (pc' := 5) dX1_init_4 rfl rfl ?_
  refine gq_bipush (v := 15) (pc' := 7) dX1_init_5 rfl  (by decide) ?_
  refine gq_newa (n := 15) (pc' := 9) (cs' := 1) (ns' := 15) dX1_init_7 rfl (List.mem_filter.mpr ⟨List.mem_of_getElem? (i := 73) (by decide +kernel), by decide +kernel⟩) rfl (by decide) (by decide) (Nat.le_of_ble_eq_true rfl) (Nat.le_of_ble_eq_true rfl) (Nat.le_of_ble_eq_true rfl) (o := 24) rfl (by decide) rfl rfl rfl ?_
  refine gq_lets (fun s1 => ?_)
  refine gq_putr (pc' := 12) dX1_init_9 rfl flX1_11 plX1_0 rfl rfl rfl rfl rfl rfl rfl ?_
  refine gq_aload_n (i := 0) (pc' := 13) dX1_init_12 rfl rfl ?_
  refine gq_bipush (v := 15) (pc' := 15) dX1_init_13 rfl  (by decide) ?_
  refine gq_newa (n := 15) (pc' := 17) (cs' := 2) (ns' := 30) dX1_init_15 rfl (List.mem_filter.mpr ⟨List.mem_of_getElem? (i := 73) (by decide +kernel), by decide +kernel⟩) rfl (by decide) (by decide) (Nat.le_of_ble_eq_true rfl) (Nat.le_of_ble_eq_true rfl) (Nat.le_of_ble_eq_true rfl) (o := 25) rfl (by decide) rfl rfl rfl ?_
  refine gq_lets (fun s2 => ?_)
  refine gq_putr (pc' := 20) dX1_init_17 rfl flX1_15 plX1_1 rfl rfl rfl rfl rfl rfl rfl ?_
  refine gq_aload_n (i := 0) (pc' := 21) dX1_init_20 rfl rfl ?_
  refine gq_iconst (v := 2) (pc' := 22) dX1_init_21 rfl  (by decide) ?_
  refine gq_puti (pc' := 25) dX1_init_22 rfl flX1_18 plX1_2 rfl rfl rfl rfl ?_
  refine gq_lets (fun s3 => ?_)
  refine gq_aload_n (i := 0) (pc' := 26) dX1_init_25 rfl rfl ?_
  refine gq_getr (pc' := 29) dX1_init_26 rfl flX1_11 rfl rfl ?_
  refine gq_bipush (v := -4) (pc' := 31) dX1_init_29 rfl  (by decide) ?_
  refine gq_callv (cs' := 2) (ns' := 30) (pc' := 34) (gq_siteS (Mc := mJ7_fill_53178) (As := [.ref (xa X 24), .int (-4 : Int32)]) (rest := []) dX1_init_31 lkX1_22 mfJ7_fill_53178 (t_J7_fill_53178 24 15 rfl s3 (-4 : Int32)) rfl ⟨Nat.le_of_ble_eq_true rfl, Nat.le_of_ble_eq_true rfl⟩ ⟨Nat.le_of_ble_eq_true rfl, Nat.le_of_ble_eq_true rfl⟩ rfl (Nat.le_of_ble_eq_true rfl)) rfl rfl rfl rfl (fun s4 _ _ => ?_)
  refine gq_aload_n (i := 0) (pc' := 35) dX1_init_34 rfl rfl ?_
  refine gq_getr (pc' := 38) dX1_init_35 rfl flX1_15 rfl rfl ?_
  refine gq_bipush (v := -4) (pc' := 40) dX1_init_38 rfl  (by decide) ?_
  refine gq_callv (cs' := 2) (ns' := 30) (pc' := 43) (gq_siteS (Mc := mJ7_fill_53178) (As := [.ref (xa X 25), .int (-4 : Int32)]) (rest := []) dX1_init_40 lkX1_22 mfJ7_fill_53178 (t_J7_fill_53178 25 15 rfl s4 (-4 : Int32)) rfl ⟨Nat.le_of_ble_eq_true rfl, Nat.le_of_ble_eq_true rfl⟩ ⟨Nat.le_of_ble_eq_true rfl, Nat.le_of_ble_eq_true rfl⟩ rfl (Nat.le_of_ble_eq_true rfl)) rfl rfl rfl rfl (fun s6 _ _ => ?_)
  exact gq_ph rfl (gq_vret dX1_init_43 rfl rfl rfl)
set_option maxRecDepth 100000 in
set_option maxHeartbeats 4000000 in
theorem t_X5_init_0 {X : q_Cx} (σ : Sg) : q_Ex X mX5_init q_Ls_X5_init_0 q_Le_X5_init_0 [.ref (xa X 0)] σ (f_X5_init_0 σ) := by
  refine gq_ex mfX5_init (Nat.le_of_ble_eq_true rfl) ?_
  show q_G X mX5_init (q_QM X q_Le_X5_init_0 mX5_init) (q_Ls_X5_init_0, 0, 0) σ 0 [(0, .ref (xa X 0))] [] _
  unfold f_X5_init_0
  refine gq_aload_n (i := 0) (pc' := 1) dX5_init_0 rfl rfl ?_
  refine gq_objI (pc' := 4) dX5_init_1 rfl (List.mem_filter.mpr ⟨List.mem_of_getElem? (i := 33) (by decide +kernel), by decide +kernel⟩) (List.mem_filter.mpr ⟨List.mem_of_getElem? (i := 34) (by decide +kernel), by decide +kernel⟩) (List.mem_filter.mpr ⟨List.mem_of_getElem? (i := 35) (by decide +kernel), by decide +kernel⟩) (Nat.le_of_ble_eq_true rfl) (Nat.le_of_ble_eq_true rfl) ?_
  refine gq_aload_n (i := 0) (pc' := 5) dX5_init_4 rfl rfl ?_
  refine gq_new (ci := 2) (pc' := 8) (fs := [some none, some none, some none, some none, some none, some none, some none, some none, some none, none, none, none, none]) (cs' := 1) (ns' := 13) dX5_init_5 rfl (List.mem_filter.mpr ⟨List.mem_of_getElem? (i := 36) (by decide +kernel), by decide +kernel⟩) (List.mem_filter.mpr ⟨List.mem_of_getElem? (i := 37) (by decide +kernel), by decide +kernel⟩) (List.mem_filter.mpr ⟨List.mem_of_getElem? (i := 21) (by decide +kernel), by decide +kernel⟩) iwX2 tyX2_ok rfl (fun j hj => by rcases (show j = 0 ∨ j = 1 ∨ j = 2 ∨ j = 3 ∨ j = 4 ∨ j = 5 ∨ j = 6 ∨ j = 7 ∨ j = 8 ∨ j = 9 ∨ j = 10 ∨ j = 11 ∨ j = 12 by omega) with rfl | rfl | rfl | rfl | rfl | rfl | rfl | rfl | rfl | rfl | rfl | rfl | rfl <;> rfl) rfl (by decide) (Nat.le_of_ble_eq_true rfl) (Nat.le_of_ble_eq_true rfl) (o := 1) rfl (by decide) rfl rfl rfl ?_
  refine gq_lets (fun s1 => ?_)
  refine gq_dup (pc' := 9) dX5_init_8 rfl rfl ?_
  refine gq_callv (cs' := 14) (ns' := 944) (pc' := 12) (gq_siteIN (Mc := mX2_init) (As := []) (rest := [.ref (xa X 1), .ref (xa X 0)]) dX5_init_9 lkX5_11 mfX2_init rfl (t_X2_init_1 s1) rfl ⟨Nat.le_of_ble_eq_true rfl, Nat.le_of_ble_eq_true rfl⟩ ⟨Nat.le_of_ble_eq_true rfl, Nat.le_of_ble_eq_true rfl⟩ rfl (Nat.le_of_ble_eq_true rfl)) rfl rfl rfl rfl (fun s2 _ _ => ?_)
  refine gq_putr (pc' := 15) dX5_init_12 rfl flX5_12 plX5_0 rfl rfl rfl rfl rfl rfl rfl ?_
  refine gq_aload_n (i := 0) (pc' := 16) dX5_init_15 rfl rfl ?_
  refine gq_new (ci := 0) (pc' := 19) (fs := [some none, none, none, some none, some none, some none, some none]) (cs' := 15) (ns' := 951) dX5_init_16 rfl (List.mem_filter.mpr ⟨List.mem_of_getElem? (i := 114) (by decide +kernel), by decide +kernel⟩) (List.mem_filter.mpr ⟨List.mem_of_getElem? (i := 115) (by decide +kernel), by decide +kernel⟩) (List.mem_filter.mpr ⟨List.mem_of_getElem? (i := 23) (by decide +kernel), by decide +kernel⟩) iwX0 tyX0_ok rfl (fun j hj => by rcases (show j = 0 ∨ j = 1 ∨ j = 2 ∨ j = 3 ∨ j = 4 ∨ j = 5 ∨ j = 6 by omega) with rfl | rfl | rfl | rfl | rfl | rfl | rfl <;> rfl) rfl (by decide) (Nat.le_of_ble_eq_true rfl) (Nat.le_of_ble_eq_true rfl) (o := 15) rfl (by decide) rfl rfl rfl ?_
  refine gq_lets (fun s4 => ?_)
  refine gq_dup (pc' := 20) dX5_init_19 rfl rfl ?_
  refine gq_callv (cs' := 20) (ns' := 989) (pc' := 23) (gq_siteI (Mc := mX0_init) (As := []) (rest := [.ref (xa X 15), .ref (xa X 0)]) dX5_init_20 lkX5_18 mfX0_init rfl (t_X0_init_15 s4) rfl ⟨Nat.le_of_ble_eq_true rfl, Nat.le_of_ble_eq_true rfl⟩ ⟨Nat.le_of_ble_eq_true rfl, Nat.le_of_ble_eq_true rfl⟩ rfl (Nat.le_of_ble_eq_true rfl)) rfl rfl rfl rfl (fun s5 _ _ => ?_)
  refine gq_putr (pc' := 26) dX5_init_23 rfl flX5_19 plX5_1 rfl rfl rfl rfl rfl rfl rfl ?_
  refine gq_aload_n (i := 0) (pc' := 27) dX5_init_26 rfl rfl ?_
  refine gq_new (ci := 4) (pc' := 30) (fs := [some none]) (cs' := 21) (ns' := 990) dX5_init_27 rfl (List.mem_filter.mpr ⟨List.mem_of_getElem? (i := 145) (by decide +kernel), by decide +kernel⟩) (List.mem_filter.mpr ⟨List.mem_of_getElem? (i := 146) (by decide +kernel), by decide +kernel⟩) (List.mem_filter.mpr ⟨List.mem_of_getElem? (i := 24) (by decide +kernel), by decide +kernel⟩) iwX4 tyX4_ok rfl (fun j hj => by rcases (show j = 0 by omega) with rfl <;> rfl) rfl (by decide) (Nat.le_of_ble_eq_true rfl) (Nat.le_of_ble_eq_true rfl) (o := 21) rfl (by decide) rfl rfl rfl ?_
  refine gq_lets (fun s7 => ?_)
  refine gq_dup (pc' := 31) dX5_init_30 rfl rfl ?_
  refine gq_callv (cs' := 22) (ns' := 998) (pc' := 34) (gq_siteI (Mc := mX4_init) (As := []) (rest := [.ref (xa X 21), .ref (xa X 0)]) dX5_init_31 lkX5_25 mfX4_init rfl (t_X4_init_21 s7) rfl ⟨Nat.le_of_ble_eq_true rfl, Nat.le_of_ble_eq_true rfl⟩ ⟨Nat.le_of_ble_eq_true rfl, Nat.le_of_ble_eq_true rfl⟩ rfl (Nat.le_of_ble_eq_true rfl)) rfl rfl rfl rfl (fun s8 _ _ => ?_)
  refine gq_putr (pc' := 37) dX5_init_34 rfl flX5_26 plX5_2 rfl rfl rfl rfl rfl rfl rfl ?_
  refine gq_aload_n (i := 0) (pc' := 38) dX5_init_37 rfl rfl ?_
  refine gq_new (ci := 1) (pc' := 41) (fs := [some none, some none, none]) (cs' := 23) (ns' := 1001) dX5_init_38 rfl (List.mem_filter.mpr ⟨List.mem_of_getElem? (i := 158) (by decide +kernel), by decide +kernel⟩) (List.mem_filter.mpr ⟨List.mem_of_getElem? (i := 159) (by decide +kernel), by decide +kernel⟩) (List.mem_filter.mpr ⟨List.mem_of_getElem? (i := 26) (by decide +kernel), by decide +kernel⟩) iwX1 tyX1_ok rfl (fun j hj => by rcases (show j = 0 ∨ j = 1 ∨ j = 2 by omega) with rfl | rfl | rfl <;> rfl) rfl (by decide) (Nat.le_of_ble_eq_true rfl) (Nat.le_of_ble_eq_true rfl) (o := 23) rfl (by decide) rfl rfl rfl ?_
  refine gq_lets (fun s10 => ?_)
  refine gq_dup (pc' := 42) dX5_init_41 rfl rfl ?_
  refine gq_callv (cs' := 25) (ns' := 1031) (pc' := 45) (gq_siteI (Mc := mX1_init) (As := []) (rest := [.ref (xa X 23), .ref (xa X 0)]) dX5_init_42 lkX5_32 mfX1_init rfl (t_X1_init_23 s10) rfl ⟨Nat.le_of_ble_eq_true rfl, Nat.le_of_ble_eq_true rfl⟩ ⟨Nat.le_of_ble_eq_true rfl, Nat.le_of_ble_eq_true rfl⟩ rfl (Nat.le_of_ble_eq_true rfl)) rfl rfl rfl rfl (fun s11 _ _ => ?_)
  refine gq_putr (pc' := 48) dX5_init_45 rfl flX5_33 plX5_3 rfl rfl rfl rfl rfl rfl rfl ?_
  exact gq_ph rfl (gq_vret dX5_init_48 rfl rfl rfl)
end
section
-- GENERATED by wip/p23/gen.py: the walks
set_option maxRecDepth 100000 in
set_option maxHeartbeats 4000000 in
theorem t_X3_stopFor {X : q_Cx} {Λr : q_Lay} (o : Nat) (ho : q_pos o) (σ : Sg) (p0 : Int32) : q_Ex X mX3_stopFor (q_LA Λr) (q_LA Λr) [.ref (xa X o), .int p0] σ (f_X3_stopFor o σ p0) := by
  refine gq_ex mfX3_stopFor (Nat.le_of_ble_eq_true rfl) ?_
  show q_G X mX3_stopFor (q_QM X (q_LA Λr) mX3_stopFor) ((q_LA Λr), 0, 0) σ 0 [(0, .ref (xa X o)), (1, .int p0)] [] _
  unfold f_X3_stopFor
  refine gq_aload_n (i := 0) (pc' := 1) dX3_stopFor_0 rfl rfl ?_
  refine gq_iload_n (i := 1) (pc' := 2) dX3_stopFor_1 rfl rfl ?_
  refine gq_puti (pc' := 5) dX3_stopFor_2 rfl flX3_58 plX3_2 (q_pos0 ho) rfl rfl rfl ?_
  refine gq_lets (fun s1 => ?_)
  refine gq_aload_n (i := 0) (pc' := 6) dX3_stopFor_5 rfl rfl ?_
  refine gq_bipush (v := -4) (pc' := 8) dX3_stopFor_6 rfl  (by decide) ?_
  refine gq_puti (pc' := 11) dX3_stopFor_8 rfl flX3_36 plX3_3 (q_pos0 ho) rfl rfl rfl ?_
  refine gq_lets (fun s2 => ?_)
  refine gq_aload_n (i := 0) (pc' := 12) dX3_stopFor_11 rfl rfl ?_
  refine gq_iconst (v := 0) (pc' := 13) dX3_stopFor_12 rfl  (by decide) ?_
  refine gq_puti (pc' := 16) dX3_stopFor_13 rfl flX3_83 plX3_4 (q_pos0 ho) rfl rfl rfl ?_
  refine gq_lets (fun s3 => ?_)
  refine gq_aload_n (i := 0) (pc' := 17) dX3_stopFor_16 rfl rfl ?_
  refine gq_iconst (v := 0) (pc' := 18) dX3_stopFor_17 rfl  (by decide) ?_
  refine gq_puti (pc' := 21) dX3_stopFor_18 rfl flX3_65 plX3_5 (q_pos0 ho) rfl rfl rfl ?_
  refine gq_lets (fun s4 => ?_)
  refine gq_aload_n (i := 0) (pc' := 22) dX3_stopFor_21 rfl rfl ?_
  refine gq_bipush (v := -4) (pc' := 24) dX3_stopFor_22 rfl  (by decide) ?_
  refine gq_puti (pc' := 27) dX3_stopFor_24 rfl flX3_48 plX3_6 (q_pos0 ho) rfl rfl rfl ?_
  refine gq_lets (fun s5 => ?_)
  refine gq_aload_n (i := 0) (pc' := 28) dX3_stopFor_27 rfl rfl ?_
  refine gq_bipush (v := -4) (pc' := 30) dX3_stopFor_28 rfl  (by decide) ?_
  refine gq_puti (pc' := 33) dX3_stopFor_30 rfl flX3_55 plX3_7 (q_pos0 ho) rfl rfl rfl ?_
  refine gq_lets (fun s6 => ?_)
  exact gq_vret dX3_stopFor_33 rfl rfl rfl
set_option maxRecDepth 100000 in
set_option maxHeartbeats 4000000 in
theorem t_X3_begin {X : q_Cx} {Λr : q_Lay} (o : Nat) (ho : q_pos o) (σ : Sg) (p0 : Int32) (p1 : Int32) : q_Ex X mX3_begin (q_LA Λr) (q_LA Λr) [.ref (xa X o), .int p0, .int p1] σ (f_X3_begin o σ p0 p1) := by
  refine gq_ex mfX3_begin (Nat.le_of_ble_eq_true rfl) ?_
  show q_G X mX3_begin (q_QM X (q_LA Λr) mX3_begin) ((q_LA Λr), 0, 0) σ 0 [(0, .ref (xa X o)), (1, .int p0), (2, .int p1)] [] _
  unfold f_X3_begin
  refine gq_aload_n (i := 0) (pc' := 1) dX3_begin_0 rfl rfl ?_
  refine gq_getr (pc' := 4) dX3_begin_1 rfl flX3_9 (q_pos0 ho) rfl ?_
  refine gq_iconst (v := 0) (pc' := 5) dX3_begin_4 rfl  (by decide) ?_
  refine gq_callv (cs' := 0) (ns' := 0) (pc' := 8) (gq_siteS (Mc := mJ7_fill_53178) (As := [.ref (xa X (o + 1)), .int (0 : Int32)]) (rest := []) dX3_begin_5 lkX3_18 mfJ7_fill_53178 (t_J7_fill_53178 (o + 1) 4 (q_pos1 ho) σ (0 : Int32)) rfl ⟨Nat.le_of_ble_eq_true rfl, Nat.le_of_ble_eq_true rfl⟩ ⟨Nat.le_of_ble_eq_true rfl, Nat.le_of_ble_eq_true rfl⟩ rfl (Nat.le_of_ble_eq_true rfl)) rfl rfl rfl rfl (fun s1 _ _ => ?_)
  refine gq_aload_n (i := 0) (pc' := 9) dX3_begin_8 rfl rfl ?_
  refine gq_getr (pc' := 12) dX3_begin_9 rfl flX3_15 (q_pos0 ho) rfl ?_
  refine gq_iconst (v := 0) (pc' := 13) dX3_begin_12 rfl  (by decide) ?_
  refine gq_iload_n (i := 1) (pc' := 14) dX3_begin_13 rfl rfl ?_
  refine gq_callv (cs' := 0) (ns' := 0) (pc' := 17) (gq_siteSN (Mc := mX5_set) (As := [.ref (xa X (o + 2)), .int (0 : Int32), .int p0]) (rest := []) dX3_begin_14 lkX3_24 mfX5_set (t_X5_set (o + 2) 2 (q_pos2 ho) s1 (0 : Int32) p0) rfl ⟨Nat.le_of_ble_eq_true rfl, Nat.le_of_ble_eq_true rfl⟩ ⟨Nat.le_of_ble_eq_true rfl, Nat.le_of_ble_eq_true rfl⟩ rfl (Nat.le_of_ble_eq_true rfl)) rfl rfl rfl rfl (fun s3 _ _ => ?_)
  refine gq_aload_n (i := 0) (pc' := 18) dX3_begin_17 rfl rfl ?_
  refine gq_getr (pc' := 21) dX3_begin_18 rfl flX3_15 (q_pos0 ho) rfl ?_
  refine gq_iconst (v := 1) (pc' := 22) dX3_begin_21 rfl  (by decide) ?_
  refine gq_iload_n (i := 2) (pc' := 23) dX3_begin_22 rfl rfl ?_
  refine gq_callv (cs' := 0) (ns' := 0) (pc' := 26) (gq_siteSN (Mc := mX5_set) (As := [.ref (xa X (o + 2)), .int (1 : Int32), .int p1]) (rest := []) dX3_begin_23 lkX3_24 mfX5_set (t_X5_set (o + 2) 2 (q_pos2 ho) s3 (1 : Int32) p1) rfl ⟨Nat.le_of_ble_eq_true rfl, Nat.le_of_ble_eq_true rfl⟩ ⟨Nat.le_of_ble_eq_true rfl, Nat.le_of_ble_eq_true rfl⟩ rfl (Nat.le_of_ble_eq_true rfl)) rfl rfl rfl rfl (fun s5 _ _ => ?_)
  refine gq_aload_n (i := 0) (pc' := 27) dX3_begin_26 rfl rfl ?_
  refine gq_iconst (v := 0) (pc' := 28) dX3_begin_27 rfl  (by decide) ?_
  refine gq_callv (cs' := 0) (ns' := 0) (pc' := 31) (gq_siteV (Mc := mX3_stopFor) (As := [.int (0 : Int32)]) (rest := []) dX3_begin_28 lkX3_28 mfX3_stopFor (t_X3_stopFor o ho s5 (0 : Int32)) (q_pos0 ho) rfl rfl ⟨Nat.le_of_ble_eq_true rfl, Nat.le_of_ble_eq_true rfl⟩ ⟨Nat.le_of_ble_eq_true rfl, Nat.le_of_ble_eq_true rfl⟩ rfl (Nat.le_of_ble_eq_true rfl)) rfl rfl rfl rfl (fun s7 _ _ => ?_)
  exact gq_vret dX3_begin_31 rfl rfl rfl
set_option maxRecDepth 100000 in
set_option maxHeartbeats 4000000 in
theorem t_X3_isOut {X : q_Cx} {Λr : q_Lay} (o : Nat) (ho : q_pos o) (σ : Sg) (p0 : Int32) : q_Ex X mX3_isOut (q_LA Λr) (q_LA Λr) [.ref (xa X o), .int p0] σ (f_X3_isOut o σ p0) := by
  refine gq_ex mfX3_isOut (Nat.le_of_ble_eq_true rfl) ?_
  show q_G X mX3_isOut (q_QM X (q_LA Λr) mX3_isOut) ((q_LA Λr), 0, 0) σ 0 [(0, .ref (xa X o)), (1, .int p0)] [] _
  unfold f_X3_isOut
  refine gq_aload_n (i := 0) (pc' := 1) dX3_isOut_0 rfl rfl ?_
  refine gq_getr (pc' := 4) dX3_isOut_1 rfl flX3_9 (q_pos0 ho) rfl ?_
  refine gq_iload_n (i := 1) (pc' := 5) dX3_isOut_4 rfl rfl ?_
  refine gq_calli (cs' := 0) (ns' := 0) (pc' := 8) (gq_siteSN (Mc := mX5_at) (As := [.ref (xa X (o + 1)), .int p0]) (rest := []) dX3_isOut_5 lkX3_61 mfX5_at (t_X5_at (o + 1) 4 (Or.inl (q_pos1 ho)) σ p0) rfl ⟨Nat.le_of_ble_eq_true rfl, Nat.le_of_ble_eq_true rfl⟩ ⟨Nat.le_of_ble_eq_true rfl, Nat.le_of_ble_eq_true rfl⟩ rfl (Nat.le_of_ble_eq_true rfl)) rfl rfl rfl rfl (fun s1 r2 _ => ?_)
  refine gq_bipush (v := 7) (pc' := 10) dX3_isOut_8 rfl  (by decide) ?_
  refine gq_icmp_ne (pc' := 13) (tgt := 17) dX3_isOut_10 rfl (by decide) (fun c3 => ?_) (fun c3 => ?_)
  · refine gq_iconst (v := 1) (pc' := 14) dX3_isOut_13 rfl  (by decide) ?_
    refine gq_goto (pc' := 18) dX3_isOut_14 (by decide) ?_
    exact gq_zret dX3_isOut_18 rfl rfl rfl rfl
  · refine gq_iconst (v := 0) (pc' := 18) dX3_isOut_17 rfl  (by decide) ?_
    exact gq_zret dX3_isOut_18 rfl rfl rfl rfl
set_option maxRecDepth 100000 in
set_option maxHeartbeats 4000000 in
theorem g_X3_winner_J18 {X : q_Cx} {Λr : q_Lay} (o : Nat) (ho : q_pos o) (σ : Sg) : q_G X mX3_winner (q_QM X (q_LA Λr) mX3_winner) ((q_LA Λr), 0, 0) σ 18 [(0, .ref (xa X o))] [] (f_X3_winner_J18 o σ) := by
  unfold f_X3_winner_J18
  refine gq_aload_n (i := 0) (pc' := 19) dX3_winner_18 rfl rfl ?_
  refine gq_iconst (v := 1) (pc' := 20) dX3_winner_19 rfl  (by decide) ?_
  refine gq_calli (cs' := 0) (ns' := 0) (pc' := 23) (gq_siteV (Mc := mX3_isOut) (As := [.int (1 : Int32)]) (rest := []) dX3_winner_20 lkX3_40 mfX3_isOut (t_X3_isOut o ho σ (1 : Int32)) (q_pos0 ho) rfl rfl ⟨Nat.le_of_ble_eq_true rfl, Nat.le_of_ble_eq_true rfl⟩ ⟨Nat.le_of_ble_eq_true rfl, Nat.le_of_ble_eq_true rfl⟩ rfl (Nat.le_of_ble_eq_true rfl)) rfl rfl rfl rfl (fun s4 r5 _ => ?_)
  refine gq_if_eq (pc' := 26) (tgt := 38) dX3_winner_23 rfl (by decide) (fun c6 => ?_) (fun c6 => ?_)
  · refine gq_bipush (v := -4) (pc' := 40) dX3_winner_38 rfl  (by decide) ?_
    exact gq_iret dX3_winner_40 rfl rfl rfl
  · refine gq_aload_n (i := 0) (pc' := 27) dX3_winner_26 rfl rfl ?_
    refine gq_iconst (v := 3) (pc' := 28) dX3_winner_27 rfl  (by decide) ?_
    refine gq_calli (cs' := 0) (ns' := 0) (pc' := 31) (gq_siteV (Mc := mX3_isOut) (As := [.int (3 : Int32)]) (rest := []) dX3_winner_28 lkX3_40 mfX3_isOut (t_X3_isOut o ho s4 (3 : Int32)) (q_pos0 ho) rfl rfl ⟨Nat.le_of_ble_eq_true rfl, Nat.le_of_ble_eq_true rfl⟩ ⟨Nat.le_of_ble_eq_true rfl, Nat.le_of_ble_eq_true rfl⟩ rfl (Nat.le_of_ble_eq_true rfl)) rfl rfl rfl rfl (fun s7 r8 _ => ?_)
    refine gq_if_eq (pc' := 34) (tgt := 38) dX3_winner_31 rfl (by decide) (fun c9 => ?_) (fun c9 => ?_)
    · refine gq_bipush (v := -4) (pc' := 40) dX3_winner_38 rfl  (by decide) ?_
      exact gq_iret dX3_winner_40 rfl rfl rfl
    · refine gq_iconst (v := 1) (pc' := 35) dX3_winner_34 rfl  (by decide) ?_
      refine gq_goto (pc' := 40) dX3_winner_35 (by decide) ?_
      exact gq_iret dX3_winner_40 rfl rfl rfl
set_option maxRecDepth 100000 in
set_option maxHeartbeats 4000000 in
theorem t_X3_winner {X : q_Cx} {Λr : q_Lay} (o : Nat) (ho : q_pos o) (σ : Sg) : q_Ex X mX3_winner (q_LA Λr) (q_LA Λr) [.ref (xa X o)] σ (f_X3_winner o σ) := by
  refine gq_ex mfX3_winner (Nat.le_of_ble_eq_true rfl) ?_
  show q_G X mX3_winner (q_QM X (q_LA Λr) mX3_winner) ((q_LA Λr), 0, 0) σ 0 [(0, .ref (xa X o))] [] _
  unfold f_X3_winner
  refine gq_aload_n (i := 0) (pc' := 1) dX3_winner_0 rfl rfl ?_
  refine gq_iconst (v := 0) (pc' := 2) dX3_winner_1 rfl  (by decide) ?_
  refine gq_calli (cs' := 0) (ns' := 0) (pc' := 5) (gq_siteV (Mc := mX3_isOut) (As := [.int (0 : Int32)]) (rest := []) dX3_winner_2 lkX3_40 mfX3_isOut (t_X3_isOut o ho σ (0 : Int32)) (q_pos0 ho) rfl rfl ⟨Nat.le_of_ble_eq_true rfl, Nat.le_of_ble_eq_true rfl⟩ ⟨Nat.le_of_ble_eq_true rfl, Nat.le_of_ble_eq_true rfl⟩ rfl (Nat.le_of_ble_eq_true rfl)) rfl rfl rfl rfl (fun s1 r2 _ => ?_)
  refine gq_if_eq (pc' := 8) (tgt := 18) dX3_winner_5 rfl (by decide) (fun c3 => ?_) (fun c3 => ?_)
  · refine gq_sub (l' := [(0, .ref (xa X o))]) [0] rfl ?_
    exact g_X3_winner_J18 o ho s1
  · refine gq_aload_n (i := 0) (pc' := 9) dX3_winner_8 rfl rfl ?_
    refine gq_iconst (v := 2) (pc' := 10) dX3_winner_9 rfl  (by decide) ?_
    refine gq_calli (cs' := 0) (ns' := 0) (pc' := 13) (gq_siteV (Mc := mX3_isOut) (As := [.int (2 : Int32)]) (rest := []) dX3_winner_10 lkX3_40 mfX3_isOut (t_X3_isOut o ho s1 (2 : Int32)) (q_pos0 ho) rfl rfl ⟨Nat.le_of_ble_eq_true rfl, Nat.le_of_ble_eq_true rfl⟩ ⟨Nat.le_of_ble_eq_true rfl, Nat.le_of_ble_eq_true rfl⟩ rfl (Nat.le_of_ble_eq_true rfl)) rfl rfl rfl rfl (fun s10 r11 _ => ?_)
    refine gq_if_eq (pc' := 16) (tgt := 18) dX3_winner_13 rfl (by decide) (fun c12 => ?_) (fun c12 => ?_)
    · refine gq_sub (l' := [(0, .ref (xa X o))]) [0] rfl ?_
      exact g_X3_winner_J18 o ho s10
    · refine gq_iconst (v := 0) (pc' := 17) dX3_winner_16 rfl  (by decide) ?_
      exact gq_iret dX3_winner_17 rfl rfl rfl
set_option maxRecDepth 100000 in
set_option maxHeartbeats 4000000 in
theorem t_X3_allowsFree {X : q_Cx} {Λr : q_Lay} (o : Nat) (ho : q_pos o) (σ : Sg) : q_Ex X mX3_allowsFree (q_LA Λr) (q_LA Λr) [.ref (xa X o)] σ (f_X3_allowsFree o σ) := by
  refine gq_ex mfX3_allowsFree (Nat.le_of_ble_eq_true rfl) ?_
  show q_G X mX3_allowsFree (q_QM X (q_LA Λr) mX3_allowsFree) ((q_LA Λr), 0, 0) σ 0 [(0, .ref (xa X o))] [] _
  unfold f_X3_allowsFree
  refine gq_aload_n (i := 0) (pc' := 1) dX3_allowsFree_0 rfl rfl ?_
  refine gq_geti (pc' := 4) dX3_allowsFree_1 rfl flX3_55 (q_pos0 ho) rfl ?_
  refine gq_bipush (v := -4) (pc' := 6) dX3_allowsFree_4 rfl  (by decide) ?_
  refine gq_icmp_eq (pc' := 9) (tgt := 40) dX3_allowsFree_6 rfl (by decide) (fun c1 => ?_) (fun c1 => ?_)
  · refine gq_iconst (v := 0) (pc' := 41) dX3_allowsFree_40 rfl  (by decide) ?_
    exact gq_zret dX3_allowsFree_41 rfl rfl rfl rfl
  · refine gq_aload_n (i := 0) (pc' := 10) dX3_allowsFree_9 rfl rfl ?_
    refine gq_aload_n (i := 0) (pc' := 11) dX3_allowsFree_10 rfl rfl ?_
    refine gq_geti (pc' := 14) dX3_allowsFree_11 rfl flX3_55 (q_pos0 ho) rfl ?_
    refine gq_calli (cs' := 0) (ns' := 0) (pc' := 17) (gq_siteV (Mc := mX3_isOut) (As := [.int (σ o 7)]) (rest := []) dX3_allowsFree_14 lkX3_40 mfX3_isOut (t_X3_isOut o ho σ (σ o 7)) (q_pos0 ho) rfl rfl ⟨Nat.le_of_ble_eq_true rfl, Nat.le_of_ble_eq_true rfl⟩ ⟨Nat.le_of_ble_eq_true rfl, Nat.le_of_ble_eq_true rfl⟩ rfl (Nat.le_of_ble_eq_true rfl)) rfl rfl rfl rfl (fun s2 r3 _ => ?_)
    refine gq_if_ne (pc' := 20) (tgt := 40) dX3_allowsFree_17 rfl (by decide) (fun c4 => ?_) (fun c4 => ?_)
    · refine gq_aload_n (i := 0) (pc' := 21) dX3_allowsFree_20 rfl rfl ?_
      refine gq_getr (pc' := 24) dX3_allowsFree_21 rfl flX3_15 (q_pos0 ho) rfl ?_
      refine gq_iconst (v := 1) (pc' := 25) dX3_allowsFree_24 rfl  (by decide) ?_
      refine gq_aload_n (i := 0) (pc' := 26) dX3_allowsFree_25 rfl rfl ?_
      refine gq_geti (pc' := 29) dX3_allowsFree_26 rfl flX3_58 (q_pos0 ho) rfl ?_
      refine gq_isub (pc' := 30) dX3_allowsFree_29 rfl ?_
      refine gq_calli (cs' := 0) (ns' := 0) (pc' := 33) (gq_siteSN (Mc := mX5_at) (As := [.ref (xa X (o + 2)), .int ((1 : Int32) - (s2 o 2))]) (rest := []) dX3_allowsFree_30 lkX3_61 mfX5_at (t_X5_at (o + 2) 2 (Or.inl (q_pos2 ho)) s2 ((1 : Int32) - (s2 o 2))) rfl ⟨Nat.le_of_ble_eq_true rfl, Nat.le_of_ble_eq_true rfl⟩ ⟨Nat.le_of_ble_eq_true rfl, Nat.le_of_ble_eq_true rfl⟩ rfl (Nat.le_of_ble_eq_true rfl)) rfl rfl rfl rfl (fun s5 r6 _ => ?_)
      refine gq_if_le (pc' := 36) (tgt := 40) dX3_allowsFree_33 rfl (by decide) (fun c7 => ?_) (fun c7 => ?_)
      · refine gq_iconst (v := 0) (pc' := 41) dX3_allowsFree_40 rfl  (by decide) ?_
        exact gq_zret dX3_allowsFree_41 rfl rfl rfl rfl
      · refine gq_iconst (v := 1) (pc' := 37) dX3_allowsFree_36 rfl  (by decide) ?_
        refine gq_goto (pc' := 41) dX3_allowsFree_37 (by decide) ?_
        exact gq_zret dX3_allowsFree_41 rfl rfl rfl rfl
    · refine gq_iconst (v := 0) (pc' := 41) dX3_allowsFree_40 rfl  (by decide) ?_
      exact gq_zret dX3_allowsFree_41 rfl rfl rfl rfl
set_option maxRecDepth 100000 in
set_option maxHeartbeats 4000000 in
theorem t_X3_allowsFresh {X : q_Cx} {Λr : q_Lay} (o : Nat) (ho : q_pos o) (σ : Sg) (p0 : Int32) (p1 : Int32) : q_Ex X mX3_allowsFresh (q_LA Λr) (q_LA Λr) [.ref (xa X o), .int p0, .int p1] σ (f_X3_allowsFresh o σ p0 p1) := by
  refine gq_ex mfX3_allowsFresh (Nat.le_of_ble_eq_true rfl) ?_
  show q_G X mX3_allowsFresh (q_QM X (q_LA Λr) mX3_allowsFresh) ((q_LA Λr), 0, 0) σ 0 [(0, .ref (xa X o)), (1, .int p0), (2, .int p1)] [] _
  unfold f_X3_allowsFresh
  refine gq_iload_n (i := 1) (pc' := 1) dX3_allowsFresh_0 rfl rfl ?_
  refine gq_ite (fun c1 => ?_) (fun _ => ?_)
  · refine gq_tswLo (tgt := 98) c1 dX3_allowsFresh_1 (by decide) (by decide) ?_
    refine gq_iconst (v := 1) (pc' := 99) dX3_allowsFresh_98 rfl  (by decide) ?_
    exact gq_zret dX3_allowsFresh_99 rfl rfl rfl rfl
  refine gq_ite (fun c2 => ?_) (fun _ => ?_)
  · refine gq_tswHi (tgt := 98) c2 dX3_allowsFresh_1 (by decide) (by decide) ?_
    refine gq_iconst (v := 1) (pc' := 99) dX3_allowsFresh_98 rfl  (by decide) ?_
    exact gq_zret dX3_allowsFresh_99 rfl rfl rfl rfl
  refine gq_ite (fun c3 => ?_) (fun _ => ?_)
  · refine gq_tswIn (tgt := 32) c3 dX3_allowsFresh_1 (by decide) (by decide) rfl (by decide) ?_
    refine gq_aload_n (i := 0) (pc' := 33) dX3_allowsFresh_32 rfl rfl ?_
    refine gq_getr (pc' := 36) dX3_allowsFresh_33 rfl flX3_9 (q_pos0 ho) rfl ?_
    refine gq_aload_n (i := 0) (pc' := 37) dX3_allowsFresh_36 rfl rfl ?_
    refine gq_geti (pc' := 40) dX3_allowsFresh_37 rfl flX3_36 (q_pos0 ho) rfl ?_
    refine gq_calli (cs' := 0) (ns' := 0) (pc' := 43) (gq_siteSN (Mc := mX5_at) (As := [.ref (xa X (o + 1)), .int (σ o 3)]) (rest := []) dX3_allowsFresh_40 lkX3_61 mfX5_at (t_X5_at (o + 1) 4 (Or.inl (q_pos1 ho)) σ (σ o 3)) rfl ⟨Nat.le_of_ble_eq_true rfl, Nat.le_of_ble_eq_true rfl⟩ ⟨Nat.le_of_ble_eq_true rfl, Nat.le_of_ble_eq_true rfl⟩ rfl (Nat.le_of_ble_eq_true rfl)) rfl rfl rfl rfl (fun s4 r5 _ => ?_)
    refine gq_bipush (v := 6) (pc' := 45) dX3_allowsFresh_43 rfl  (by decide) ?_
    refine gq_icmp_ge (pc' := 48) (tgt := 52) dX3_allowsFresh_45 rfl (by decide) (fun c6 => ?_) (fun c6 => ?_)
    · refine gq_iconst (v := 0) (pc' := 53) dX3_allowsFresh_52 rfl  (by decide) ?_
      exact gq_zret dX3_allowsFresh_53 rfl rfl rfl rfl
    · refine gq_iconst (v := 1) (pc' := 49) dX3_allowsFresh_48 rfl  (by decide) ?_
      refine gq_goto (pc' := 53) dX3_allowsFresh_49 (by decide) ?_
      exact gq_zret dX3_allowsFresh_53 rfl rfl rfl rfl
  refine gq_ite (fun c7 => ?_) (fun _ => ?_)
  · refine gq_tswIn (tgt := 76) c7 dX3_allowsFresh_1 (by decide) (by decide) rfl (by decide) ?_
    refine gq_iload_n (i := 2) (pc' := 77) dX3_allowsFresh_76 rfl rfl ?_
    refine gq_aload_n (i := 0) (pc' := 78) dX3_allowsFresh_77 rfl rfl ?_
    refine gq_geti (pc' := 81) dX3_allowsFresh_78 rfl flX3_36 (q_pos0 ho) rfl ?_
    refine gq_icmp_eq (pc' := 84) (tgt := 96) dX3_allowsFresh_81 rfl (by decide) (fun c8 => ?_) (fun c8 => ?_)
    · refine gq_iconst (v := 0) (pc' := 97) dX3_allowsFresh_96 rfl  (by decide) ?_
      exact gq_zret dX3_allowsFresh_97 rfl rfl rfl rfl
    · refine gq_aload_n (i := 0) (pc' := 85) dX3_allowsFresh_84 rfl rfl ?_
      refine gq_iload_n (i := 2) (pc' := 86) dX3_allowsFresh_85 rfl rfl ?_
      refine gq_calli (cs' := 0) (ns' := 0) (pc' := 89) (gq_siteV (Mc := mX3_isOut) (As := [.int p1]) (rest := []) dX3_allowsFresh_86 lkX3_40 mfX3_isOut (t_X3_isOut o ho σ p1) (q_pos0 ho) rfl rfl ⟨Nat.le_of_ble_eq_true rfl, Nat.le_of_ble_eq_true rfl⟩ ⟨Nat.le_of_ble_eq_true rfl, Nat.le_of_ble_eq_true rfl⟩ rfl (Nat.le_of_ble_eq_true rfl)) rfl rfl rfl rfl (fun s9 r10 _ => ?_)
      refine gq_if_ne (pc' := 92) (tgt := 96) dX3_allowsFresh_89 rfl (by decide) (fun c11 => ?_) (fun c11 => ?_)
      · refine gq_iconst (v := 1) (pc' := 93) dX3_allowsFresh_92 rfl  (by decide) ?_
        refine gq_goto (pc' := 97) dX3_allowsFresh_93 (by decide) ?_
        exact gq_zret dX3_allowsFresh_97 rfl rfl rfl rfl
      · refine gq_iconst (v := 0) (pc' := 97) dX3_allowsFresh_96 rfl  (by decide) ?_
        exact gq_zret dX3_allowsFresh_97 rfl rfl rfl rfl
  refine gq_ite (fun c12 => ?_) (fun _ => ?_)
  · refine gq_tswIn (tgt := 98) c12 dX3_allowsFresh_1 (by decide) (by decide) rfl (by decide) ?_
    refine gq_iconst (v := 1) (pc' := 99) dX3_allowsFresh_98 rfl  (by decide) ?_
    exact gq_zret dX3_allowsFresh_99 rfl rfl rfl rfl
  refine gq_ite (fun c13 => ?_) (fun _ => ?_)
  · refine gq_tswIn (tgt := 54) c13 dX3_allowsFresh_1 (by decide) (by decide) rfl (by decide) ?_
    refine gq_aload_n (i := 0) (pc' := 55) dX3_allowsFresh_54 rfl rfl ?_
    refine gq_getr (pc' := 58) dX3_allowsFresh_55 rfl flX3_9 (q_pos0 ho) rfl ?_
    refine gq_aload_n (i := 0) (pc' := 59) dX3_allowsFresh_58 rfl rfl ?_
    refine gq_geti (pc' := 62) dX3_allowsFresh_59 rfl flX3_36 (q_pos0 ho) rfl ?_
    refine gq_calli (cs' := 0) (ns' := 0) (pc' := 65) (gq_siteSN (Mc := mX5_at) (As := [.ref (xa X (o + 1)), .int (σ o 3)]) (rest := []) dX3_allowsFresh_62 lkX3_61 mfX5_at (t_X5_at (o + 1) 4 (Or.inl (q_pos1 ho)) σ (σ o 3)) rfl ⟨Nat.le_of_ble_eq_true rfl, Nat.le_of_ble_eq_true rfl⟩ ⟨Nat.le_of_ble_eq_true rfl, Nat.le_of_ble_eq_true rfl⟩ rfl (Nat.le_of_ble_eq_true rfl)) rfl rfl rfl rfl (fun s14 r15 _ => ?_)
    refine gq_bipush (v := 6) (pc' := 67) dX3_allowsFresh_65 rfl  (by decide) ?_
    refine gq_icmp_ne (pc' := 70) (tgt := 74) dX3_allowsFresh_67 rfl (by decide) (fun c16 => ?_) (fun c16 => ?_)
    · refine gq_iconst (v := 1) (pc' := 71) dX3_allowsFresh_70 rfl  (by decide) ?_
      refine gq_goto (pc' := 75) dX3_allowsFresh_71 (by decide) ?_
      exact gq_zret dX3_allowsFresh_75 rfl rfl rfl rfl
    · refine gq_iconst (v := 0) (pc' := 75) dX3_allowsFresh_74 rfl  (by decide) ?_
      exact gq_zret dX3_allowsFresh_75 rfl rfl rfl rfl
  exact gq_none
set_option maxRecDepth 100000 in
set_option maxHeartbeats 4000000 in
theorem t_X3_allows {X : q_Cx} {Λr : q_Lay} (o : Nat) (ho : q_pos o) (σ : Sg) (p0 : Int32) (p1 : Int32) : q_Ex X mX3_allows (q_LA Λr) (q_LA Λr) [.ref (xa X o), .int p0, .int p1] σ (f_X3_allows o σ p0 p1) := by
  refine gq_ex mfX3_allows (Nat.le_of_ble_eq_true rfl) ?_
  show q_G X mX3_allows (q_QM X (q_LA Λr) mX3_allows) ((q_LA Λr), 0, 0) σ 0 [(0, .ref (xa X o)), (1, .int p0), (2, .int p1)] [] _
  unfold f_X3_allows
  refine gq_aload_n (i := 0) (pc' := 1) dX3_allows_0 rfl rfl ?_
  refine gq_calli (cs' := 0) (ns' := 0) (pc' := 4) (gq_siteV (Mc := mX3_winner) (As := []) (rest := []) dX3_allows_1 lkX3_32 mfX3_winner (t_X3_winner o ho σ) (q_pos0 ho) rfl rfl ⟨Nat.le_of_ble_eq_true rfl, Nat.le_of_ble_eq_true rfl⟩ ⟨Nat.le_of_ble_eq_true rfl, Nat.le_of_ble_eq_true rfl⟩ rfl (Nat.le_of_ble_eq_true rfl)) rfl rfl rfl rfl (fun s1 r2 _ => ?_)
  refine gq_bipush (v := -4) (pc' := 6) dX3_allows_4 rfl  (by decide) ?_
  refine gq_icmp_eq (pc' := 9) (tgt := 11) dX3_allows_6 rfl (by decide) (fun c3 => ?_) (fun c3 => ?_)
  · refine gq_iload_n (i := 1) (pc' := 12) dX3_allows_11 rfl rfl ?_
    refine gq_if_ne (pc' := 15) (tgt := 38) dX3_allows_12 rfl (by decide) (fun c4 => ?_) (fun c4 => ?_)
    · refine gq_aload_n (i := 0) (pc' := 16) dX3_allows_15 rfl rfl ?_
      refine gq_geti (pc' := 19) dX3_allows_16 rfl flX3_36 (q_pos0 ho) rfl ?_
      refine gq_bipush (v := -4) (pc' := 21) dX3_allows_19 rfl  (by decide) ?_
      refine gq_icmp_ne (pc' := 24) (tgt := 36) dX3_allows_21 rfl (by decide) (fun c5 => ?_) (fun c5 => ?_)
      · refine gq_aload_n (i := 0) (pc' := 25) dX3_allows_24 rfl rfl ?_
        refine gq_iload_n (i := 2) (pc' := 26) dX3_allows_25 rfl rfl ?_
        refine gq_calli (cs' := 0) (ns' := 0) (pc' := 29) (gq_siteV (Mc := mX3_isOut) (As := [.int p1]) (rest := []) dX3_allows_26 lkX3_40 mfX3_isOut (t_X3_isOut o ho s1 p1) (q_pos0 ho) rfl rfl ⟨Nat.le_of_ble_eq_true rfl, Nat.le_of_ble_eq_true rfl⟩ ⟨Nat.le_of_ble_eq_true rfl, Nat.le_of_ble_eq_true rfl⟩ rfl (Nat.le_of_ble_eq_true rfl)) rfl rfl rfl rfl (fun s6 r7 _ => ?_)
        refine gq_if_ne (pc' := 32) (tgt := 36) dX3_allows_29 rfl (by decide) (fun c8 => ?_) (fun c8 => ?_)
        · refine gq_iconst (v := 1) (pc' := 33) dX3_allows_32 rfl  (by decide) ?_
          refine gq_goto (pc' := 37) dX3_allows_33 (by decide) ?_
          exact gq_zret dX3_allows_37 rfl rfl rfl rfl
        · refine gq_iconst (v := 0) (pc' := 37) dX3_allows_36 rfl  (by decide) ?_
          exact gq_zret dX3_allows_37 rfl rfl rfl rfl
      · refine gq_iconst (v := 0) (pc' := 37) dX3_allows_36 rfl  (by decide) ?_
        exact gq_zret dX3_allows_37 rfl rfl rfl rfl
    · refine gq_iload_n (i := 1) (pc' := 39) dX3_allows_38 rfl rfl ?_
      refine gq_bipush (v := 6) (pc' := 41) dX3_allows_39 rfl  (by decide) ?_
      refine gq_icmp_ne (pc' := 44) (tgt := 66) dX3_allows_41 rfl (by decide) (fun c9 => ?_) (fun c9 => ?_)
      · refine gq_aload_n (i := 0) (pc' := 45) dX3_allows_44 rfl rfl ?_
        refine gq_geti (pc' := 48) dX3_allows_45 rfl flX3_36 (q_pos0 ho) rfl ?_
        refine gq_bipush (v := -4) (pc' := 50) dX3_allows_48 rfl  (by decide) ?_
        refine gq_icmp_ne (pc' := 53) (tgt := 64) dX3_allows_50 rfl (by decide) (fun c10 => ?_) (fun c10 => ?_)
        · refine gq_aload_n (i := 0) (pc' := 54) dX3_allows_53 rfl rfl ?_
          refine gq_calli (cs' := 0) (ns' := 0) (pc' := 57) (gq_siteV (Mc := mX3_allowsFree) (As := []) (rest := []) dX3_allows_54 lkX3_44 mfX3_allowsFree (t_X3_allowsFree o ho s1) (q_pos0 ho) rfl rfl ⟨Nat.le_of_ble_eq_true rfl, Nat.le_of_ble_eq_true rfl⟩ ⟨Nat.le_of_ble_eq_true rfl, Nat.le_of_ble_eq_true rfl⟩ rfl (Nat.le_of_ble_eq_true rfl)) rfl rfl rfl rfl (fun s11 r12 _ => ?_)
          refine gq_if_eq (pc' := 60) (tgt := 64) dX3_allows_57 rfl (by decide) (fun c13 => ?_) (fun c13 => ?_)
          · refine gq_iconst (v := 0) (pc' := 65) dX3_allows_64 rfl  (by decide) ?_
            exact gq_zret dX3_allows_65 rfl rfl rfl rfl
          · refine gq_iconst (v := 1) (pc' := 61) dX3_allows_60 rfl  (by decide) ?_
            refine gq_goto (pc' := 65) dX3_allows_61 (by decide) ?_
            exact gq_zret dX3_allows_65 rfl rfl rfl rfl
        · refine gq_iconst (v := 0) (pc' := 65) dX3_allows_64 rfl  (by decide) ?_
          exact gq_zret dX3_allows_65 rfl rfl rfl rfl
      · refine gq_aload_n (i := 0) (pc' := 67) dX3_allows_66 rfl rfl ?_
        refine gq_geti (pc' := 70) dX3_allows_67 rfl flX3_36 (q_pos0 ho) rfl ?_
        refine gq_bipush (v := -4) (pc' := 72) dX3_allows_70 rfl  (by decide) ?_
        refine gq_icmp_ne (pc' := 75) (tgt := 77) dX3_allows_72 rfl (by decide) (fun c14 => ?_) (fun c14 => ?_)
        · refine gq_iconst (v := 0) (pc' := 76) dX3_allows_75 rfl  (by decide) ?_
          exact gq_zret dX3_allows_76 rfl rfl rfl rfl
        · refine gq_iload_n (i := 1) (pc' := 78) dX3_allows_77 rfl rfl ?_
          refine gq_iconst (v := 4) (pc' := 79) dX3_allows_78 rfl  (by decide) ?_
          refine gq_icmp_ne (pc' := 82) (tgt := 99) dX3_allows_79 rfl (by decide) (fun c15 => ?_) (fun c15 => ?_)
          · refine gq_aload_n (i := 0) (pc' := 83) dX3_allows_82 rfl rfl ?_
            refine gq_geti (pc' := 86) dX3_allows_83 rfl flX3_48 (q_pos0 ho) rfl ?_
            refine gq_bipush (v := -4) (pc' := 88) dX3_allows_86 rfl  (by decide) ?_
            refine gq_icmp_eq (pc' := 91) (tgt := 95) dX3_allows_88 rfl (by decide) (fun c16 => ?_) (fun c16 => ?_)
            · refine gq_iconst (v := 0) (pc' := 96) dX3_allows_95 rfl  (by decide) ?_
              refine gq_goto (pc' := 122) dX3_allows_96 (by decide) ?_
              exact gq_zret dX3_allows_122 rfl rfl rfl rfl
            · refine gq_iconst (v := 1) (pc' := 92) dX3_allows_91 rfl  (by decide) ?_
              refine gq_goto (pc' := 122) dX3_allows_92 (by decide) ?_
              exact gq_zret dX3_allows_122 rfl rfl rfl rfl
          · refine gq_aload_n (i := 0) (pc' := 100) dX3_allows_99 rfl rfl ?_
            refine gq_geti (pc' := 103) dX3_allows_100 rfl flX3_48 (q_pos0 ho) rfl ?_
            refine gq_bipush (v := -4) (pc' := 105) dX3_allows_103 rfl  (by decide) ?_
            refine gq_icmp_ne (pc' := 108) (tgt := 121) dX3_allows_105 rfl (by decide) (fun c17 => ?_) (fun c17 => ?_)
            · refine gq_aload_n (i := 0) (pc' := 109) dX3_allows_108 rfl rfl ?_
              refine gq_iload_n (i := 1) (pc' := 110) dX3_allows_109 rfl rfl ?_
              refine gq_iload_n (i := 2) (pc' := 111) dX3_allows_110 rfl rfl ?_
              refine gq_calli (cs' := 0) (ns' := 0) (pc' := 114) (gq_siteV (Mc := mX3_allowsFresh) (As := [.int p0, .int p1]) (rest := []) dX3_allows_111 lkX3_51 mfX3_allowsFresh (t_X3_allowsFresh o ho s1 p0 p1) (q_pos0 ho) rfl rfl ⟨Nat.le_of_ble_eq_true rfl, Nat.le_of_ble_eq_true rfl⟩ ⟨Nat.le_of_ble_eq_true rfl, Nat.le_of_ble_eq_true rfl⟩ rfl (Nat.le_of_ble_eq_true rfl)) rfl rfl rfl rfl (fun s18 r19 _ => ?_)
              refine gq_if_eq (pc' := 117) (tgt := 121) dX3_allows_114 rfl (by decide) (fun c20 => ?_) (fun c20 => ?_)
              · refine gq_iconst (v := 0) (pc' := 122) dX3_allows_121 rfl  (by decide) ?_
                exact gq_zret dX3_allows_122 rfl rfl rfl rfl
              · refine gq_iconst (v := 1) (pc' := 118) dX3_allows_117 rfl  (by decide) ?_
                refine gq_goto (pc' := 122) dX3_allows_118 (by decide) ?_
                exact gq_zret dX3_allows_122 rfl rfl rfl rfl
            · refine gq_iconst (v := 0) (pc' := 122) dX3_allows_121 rfl  (by decide) ?_
              exact gq_zret dX3_allows_122 rfl rfl rfl rfl
  · refine gq_iconst (v := 0) (pc' := 10) dX3_allows_9 rfl  (by decide) ?_
    exact gq_zret dX3_allows_10 rfl rfl rfl rfl
set_option maxRecDepth 100000 in
set_option maxHeartbeats 4000000 in
theorem t_X3_isWrong {X : q_Cx} {Λr : q_Lay} (o : Nat) (ho : q_pos o) (σ : Sg) (p0 : Int32) (p1 : Int32) : q_Ex X mX3_isWrong (q_LA Λr) (q_LA Λr) [.ref (xa X o), .int p0, .int p1] σ (f_X3_isWrong o σ p0 p1) := by
  refine gq_ex mfX3_isWrong (Nat.le_of_ble_eq_true rfl) ?_
  show q_G X mX3_isWrong (q_QM X (q_LA Λr) mX3_isWrong) ((q_LA Λr), 0, 0) σ 0 [(0, .ref (xa X o)), (1, .int p0), (2, .int p1)] [] _
  unfold f_X3_isWrong
  refine gq_iload_n (i := 1) (pc' := 1) dX3_isWrong_0 rfl rfl ?_
  refine gq_if_ne (pc' := 4) (tgt := 20) dX3_isWrong_1 rfl (by decide) (fun c1 => ?_) (fun c1 => ?_)
  · refine gq_iload_n (i := 2) (pc' := 5) dX3_isWrong_4 rfl rfl ?_
    refine gq_iconst (v := 2) (pc' := 6) dX3_isWrong_5 rfl  (by decide) ?_
    refine gq_irem (pc' := 7) dX3_isWrong_6 rfl (by decide) ?_
    refine gq_aload_n (i := 0) (pc' := 8) dX3_isWrong_7 rfl rfl ?_
    refine gq_geti (pc' := 11) dX3_isWrong_8 rfl flX3_58 (q_pos0 ho) rfl ?_
    refine gq_icmp_eq (pc' := 14) (tgt := 18) dX3_isWrong_11 rfl (by decide) (fun c2 => ?_) (fun c2 => ?_)
    · refine gq_iconst (v := 0) (pc' := 19) dX3_isWrong_18 rfl  (by decide) ?_
      exact gq_zret dX3_isWrong_19 rfl rfl rfl rfl
    · refine gq_iconst (v := 1) (pc' := 15) dX3_isWrong_14 rfl  (by decide) ?_
      refine gq_goto (pc' := 19) dX3_isWrong_15 (by decide) ?_
      exact gq_zret dX3_isWrong_19 rfl rfl rfl rfl
  · refine gq_iload_n (i := 1) (pc' := 21) dX3_isWrong_20 rfl rfl ?_
    refine gq_iconst (v := 3) (pc' := 22) dX3_isWrong_21 rfl  (by decide) ?_
    refine gq_icmp_ne (pc' := 25) (tgt := 40) dX3_isWrong_22 rfl (by decide) (fun c3 => ?_) (fun c3 => ?_)
    · refine gq_aload_n (i := 0) (pc' := 26) dX3_isWrong_25 rfl rfl ?_
      refine gq_geti (pc' := 29) dX3_isWrong_26 rfl flX3_65 (q_pos0 ho) rfl ?_
      refine gq_iload_n (i := 2) (pc' := 30) dX3_isWrong_29 rfl rfl ?_
      refine gq_ishr (pc' := 31) dX3_isWrong_30 rfl ?_
      refine gq_iconst (v := 1) (pc' := 32) dX3_isWrong_31 rfl  (by decide) ?_
      refine gq_iand (pc' := 33) dX3_isWrong_32 rfl ?_
      refine gq_if_ne (pc' := 36) (tgt := 40) dX3_isWrong_33 rfl (by decide) (fun c4 => ?_) (fun c4 => ?_)
      · refine gq_iconst (v := 1) (pc' := 37) dX3_isWrong_36 rfl  (by decide) ?_
        refine gq_goto (pc' := 41) dX3_isWrong_37 (by decide) ?_
        exact gq_zret dX3_isWrong_41 rfl rfl rfl rfl
      · refine gq_iconst (v := 0) (pc' := 41) dX3_isWrong_40 rfl  (by decide) ?_
        exact gq_zret dX3_isWrong_41 rfl rfl rfl rfl
    · refine gq_iconst (v := 0) (pc' := 41) dX3_isWrong_40 rfl  (by decide) ?_
      exact gq_zret dX3_isWrong_41 rfl rfl rfl rfl
set_option maxRecDepth 100000 in
set_option maxHeartbeats 4000000 in
theorem t_X3_inPlay {X : q_Cx} {Λr : q_Lay} (o : Nat) (ho : q_pos o) (σ : Sg) : q_Ex X mX3_inPlay (q_LA Λr) (q_LA Λr) [.ref (xa X o)] σ (f_X3_inPlay o σ) := by
  refine gq_ex mfX3_inPlay (Nat.le_of_ble_eq_true rfl) ?_
  show q_G X mX3_inPlay (q_QM X (q_LA Λr) mX3_inPlay) ((q_LA Λr), 0, 0) σ 0 [(0, .ref (xa X o))] [] _
  unfold f_X3_inPlay
  refine gq_aload_n (i := 0) (pc' := 1) dX3_inPlay_0 rfl rfl ?_
  refine gq_geti (pc' := 4) dX3_inPlay_1 rfl flX3_36 (q_pos0 ho) rfl ?_
  exact gq_iret dX3_inPlay_4 rfl rfl rfl
set_option maxRecDepth 100000 in
set_option maxHeartbeats 4000000 in
theorem t_X3_side {X : q_Cx} {Λr : q_Lay} (o : Nat) (ho : q_pos o) (σ : Sg) : q_Ex X mX3_side (q_LA Λr) (q_LA Λr) [.ref (xa X o)] σ (f_X3_side o σ) := by
  refine gq_ex mfX3_side (Nat.le_of_ble_eq_true rfl) ?_
  show q_G X mX3_side (q_QM X (q_LA Λr) mX3_side) ((q_LA Λr), 0, 0) σ 0 [(0, .ref (xa X o))] [] _
  unfold f_X3_side
  refine gq_aload_n (i := 0) (pc' := 1) dX3_side_0 rfl rfl ?_
  refine gq_geti (pc' := 4) dX3_side_1 rfl flX3_58 (q_pos0 ho) rfl ?_
  exact gq_iret dX3_side_4 rfl rfl rfl
set_option maxRecDepth 100000 in
set_option maxHeartbeats 4000000 in
theorem k_X3_bringIn_L17 {X : q_Cx} {Λr : q_Lay} (o : Nat) (ho : q_pos o) {rec : Sg → Int32 → Int32 → Rs} (hrec : ∀ (σ : Sg) (x1 : Int32) (x2 : Int32), q_G X mX3_bringIn (q_QM X (q_LA Λr) mX3_bringIn) ((q_LA Λr), 0, 0) σ 17 [(0, .ref (xa X o)), (1, .int x1), (2, .int x2)] [] (rec σ x1 x2)) (σ : Sg) (x1 : Int32) (x2 : Int32) : q_G X mX3_bringIn (q_QM X (q_LA Λr) mX3_bringIn) ((q_LA Λr), 0, 0) σ 17 [(0, .ref (xa X o)), (1, .int x1), (2, .int x2)] [] (s_X3_bringIn_L17 o rec σ x1 x2) := by
  unfold s_X3_bringIn_L17
  refine gq_iload_n (i := 2) (pc' := 18) dX3_bringIn_17 rfl rfl ?_
  refine gq_iconst (v := 4) (pc' := 19) dX3_bringIn_18 rfl  (by decide) ?_
  refine gq_icmp_ge (pc' := 22) (tgt := 58) dX3_bringIn_19 rfl (by decide) (fun c4 => ?_) (fun c4 => ?_)
  · exact gq_vret dX3_bringIn_58 rfl rfl rfl
  · refine gq_iload_n (i := 2) (pc' := 23) dX3_bringIn_22 rfl rfl ?_
    refine gq_iload_n (i := 1) (pc' := 24) dX3_bringIn_23 rfl rfl ?_
    refine gq_icmp_eq (pc' := 27) (tgt := 52) dX3_bringIn_24 rfl (by decide) (fun c5 => ?_) (fun c5 => ?_)
    · refine gq_iincl (j := 2) (pc' := 55) dX3_bringIn_52 rfl rfl (by decide) (by decide) (fun v6 => gq_sub (l' := [(2, .int v6), (0, .ref (xa X o)), (1, .int x1)]) [0, 1, 2] rfl ?_)
      refine gq_goto (pc' := 17) dX3_bringIn_55 (by decide) ?_
      refine gq_sub (l' := [(0, .ref (xa X o)), (1, .int x1), (2, .int v6)]) [1, 2, 0] rfl ?_
      exact hrec σ x1 v6
    · refine gq_aload_n (i := 0) (pc' := 28) dX3_bringIn_27 rfl rfl ?_
      refine gq_getr (pc' := 31) dX3_bringIn_28 rfl flX3_9 (q_pos0 ho) rfl ?_
      refine gq_iload_n (i := 2) (pc' := 32) dX3_bringIn_31 rfl rfl ?_
      refine gq_calli (cs' := 0) (ns' := 0) (pc' := 35) (gq_siteSN (Mc := mX5_at) (As := [.ref (xa X (o + 1)), .int x2]) (rest := []) dX3_bringIn_32 lkX3_61 mfX5_at (t_X5_at (o + 1) 4 (Or.inl (q_pos1 ho)) σ x2) rfl ⟨Nat.le_of_ble_eq_true rfl, Nat.le_of_ble_eq_true rfl⟩ ⟨Nat.le_of_ble_eq_true rfl, Nat.le_of_ble_eq_true rfl⟩ rfl (Nat.le_of_ble_eq_true rfl)) rfl rfl rfl rfl (fun s7 r8 _ => ?_)
      refine gq_bipush (v := 7) (pc' := 37) dX3_bringIn_35 rfl  (by decide) ?_
      refine gq_icmp_eq (pc' := 40) (tgt := 52) dX3_bringIn_37 rfl (by decide) (fun c9 => ?_) (fun c9 => ?_)
      · refine gq_iincl (j := 2) (pc' := 55) dX3_bringIn_52 rfl rfl (by decide) (by decide) (fun v10 => gq_sub (l' := [(2, .int v10), (0, .ref (xa X o)), (1, .int x1)]) [0, 1, 2] rfl ?_)
        refine gq_goto (pc' := 17) dX3_bringIn_55 (by decide) ?_
        refine gq_sub (l' := [(0, .ref (xa X o)), (1, .int x1), (2, .int v10)]) [1, 2, 0] rfl ?_
        exact hrec s7 x1 v10
      · refine gq_aload_n (i := 0) (pc' := 41) dX3_bringIn_40 rfl rfl ?_
        refine gq_dup (pc' := 42) dX3_bringIn_41 rfl rfl ?_
        refine gq_geti (pc' := 45) dX3_bringIn_42 rfl flX3_65 (q_pos0 ho) rfl ?_
        refine gq_iconst (v := 1) (pc' := 46) dX3_bringIn_45 rfl  (by decide) ?_
        refine gq_iload_n (i := 2) (pc' := 47) dX3_bringIn_46 rfl rfl ?_
        refine gq_ishl (pc' := 48) dX3_bringIn_47 rfl ?_
        refine gq_ior (pc' := 49) dX3_bringIn_48 rfl ?_
        refine gq_puti (pc' := 52) dX3_bringIn_49 rfl flX3_65 plX3_5 (q_pos0 ho) rfl rfl rfl ?_
        refine gq_lets (fun s11 => ?_)
        refine gq_iincl (j := 2) (pc' := 55) dX3_bringIn_52 rfl rfl (by decide) (by decide) (fun v12 => gq_sub (l' := [(2, .int v12), (0, .ref (xa X o)), (1, .int x1)]) [0, 1, 2] rfl ?_)
        refine gq_goto (pc' := 17) dX3_bringIn_55 (by decide) ?_
        refine gq_sub (l' := [(0, .ref (xa X o)), (1, .int x1), (2, .int v12)]) [1, 2, 0] rfl ?_
        exact hrec s11 x1 v12
set_option maxRecDepth 100000 in
set_option maxHeartbeats 4000000 in
theorem g_X3_bringIn_L17 {X : q_Cx} {Λr : q_Lay} (o : Nat) (ho : q_pos o) (qn : Nat) : ∀ (σ : Sg) (x1 : Int32) (x2 : Int32), q_G X mX3_bringIn (q_QM X (q_LA Λr) mX3_bringIn) ((q_LA Λr), 0, 0) σ 17 [(0, .ref (xa X o)), (1, .int x1), (2, .int x2)] [] (f_X3_bringIn_L17 o qn σ x1 x2) := by
  induction qn with
  | zero => exact fun σ x1 x2 => gq_none
  | succ qn ih => exact fun σ x1 x2 => k_X3_bringIn_L17 o ho ih σ x1 x2
set_option maxRecDepth 100000 in
set_option maxHeartbeats 4000000 in
theorem t_X3_bringIn {X : q_Cx} {Λr : q_Lay} (o : Nat) (ho : q_pos o) (σ : Sg) (p0 : Int32) : q_Ex X mX3_bringIn (q_LA Λr) (q_LA Λr) [.ref (xa X o), .int p0] σ (f_X3_bringIn o σ p0) := by
  refine gq_ex mfX3_bringIn (Nat.le_of_ble_eq_true rfl) ?_
  show q_G X mX3_bringIn (q_QM X (q_LA Λr) mX3_bringIn) ((q_LA Λr), 0, 0) σ 0 [(0, .ref (xa X o)), (1, .int p0)] [] _
  unfold f_X3_bringIn
  refine gq_aload_n (i := 0) (pc' := 1) dX3_bringIn_0 rfl rfl ?_
  refine gq_iload_n (i := 1) (pc' := 2) dX3_bringIn_1 rfl rfl ?_
  refine gq_puti (pc' := 5) dX3_bringIn_2 rfl flX3_36 plX3_3 (q_pos0 ho) rfl rfl rfl ?_
  refine gq_lets (fun s1 => ?_)
  refine gq_aload_n (i := 0) (pc' := 6) dX3_bringIn_5 rfl rfl ?_
  refine gq_iconst (v := 1) (pc' := 7) dX3_bringIn_6 rfl  (by decide) ?_
  refine gq_puti (pc' := 10) dX3_bringIn_7 rfl flX3_83 plX3_4 (q_pos0 ho) rfl rfl rfl ?_
  refine gq_lets (fun s2 => ?_)
  refine gq_aload_n (i := 0) (pc' := 11) dX3_bringIn_10 rfl rfl ?_
  refine gq_iconst (v := 0) (pc' := 12) dX3_bringIn_11 rfl  (by decide) ?_
  refine gq_puti (pc' := 15) dX3_bringIn_12 rfl flX3_65 plX3_5 (q_pos0 ho) rfl rfl rfl ?_
  refine gq_lets (fun s3 => ?_)
  refine gq_iconst (v := 0) (pc' := 16) dX3_bringIn_15 rfl  (by decide) ?_
  refine gq_istore_n (l' := [(2, .int (0 : Int32)), (0, .ref (xa X o)), (1, .int p0)]) (pc' := 17) dX3_bringIn_16 rfl (by decide) rfl ?_
  refine gq_sub (l' := [(0, .ref (xa X o)), (1, .int p0), (2, .int (0 : Int32))]) [1, 2, 0] rfl ?_
  exact g_X3_bringIn_L17 o ho 1000 s3 p0 (0 : Int32)
set_option maxRecDepth 100000 in
set_option maxHeartbeats 4000000 in
theorem t_X3_endTurn {X : q_Cx} {Λr : q_Lay} (o : Nat) (ho : q_pos o) (σ : Sg) : q_Ex X mX3_endTurn (q_LA Λr) (q_LA Λr) [.ref (xa X o)] σ (f_X3_endTurn o σ) := by
  refine gq_ex mfX3_endTurn (Nat.le_of_ble_eq_true rfl) ?_
  show q_G X mX3_endTurn (q_QM X (q_LA Λr) mX3_endTurn) ((q_LA Λr), 0, 0) σ 0 [(0, .ref (xa X o))] [] _
  unfold f_X3_endTurn
  refine gq_aload_n (i := 0) (pc' := 1) dX3_endTurn_0 rfl rfl ?_
  refine gq_geti (pc' := 4) dX3_endTurn_1 rfl flX3_36 (q_pos0 ho) rfl ?_
  refine gq_bipush (v := -4) (pc' := 6) dX3_endTurn_4 rfl  (by decide) ?_
  refine gq_icmp_eq (pc' := 9) (tgt := 29) dX3_endTurn_6 rfl (by decide) (fun c1 => ?_) (fun c1 => ?_)
  · exact gq_vret dX3_endTurn_29 rfl rfl rfl
  · refine gq_aload_n (i := 0) (pc' := 10) dX3_endTurn_9 rfl rfl ?_
    refine gq_geti (pc' := 13) dX3_endTurn_10 rfl flX3_36 (q_pos0 ho) rfl ?_
    refine gq_let (fun v2 => ?_)
    refine gq_istore_n (l' := [(1, .int v2), (0, .ref (xa X o))]) (pc' := 14) dX3_endTurn_13 rfl (by decide) rfl ?_
    refine gq_aload_n (i := 1) (pc' := 15) dX3_endTurn_14 rfl rfl ?_
    refine gq_iconst (v := 1) (pc' := 16) dX3_endTurn_15 rfl  (by decide) ?_
    refine gq_aload_n (i := 1) (pc' := 17) dX3_endTurn_16 rfl rfl ?_
    refine gq_geti (pc' := 20) dX3_endTurn_17 rfl flX3_58 (q_pos0 ho) rfl ?_
    refine gq_isub (pc' := 21) dX3_endTurn_20 rfl ?_
    refine gq_callv (cs' := 0) (ns' := 0) (pc' := 24) (gq_siteV (Mc := mX3_stopFor) (As := [.int ((1 : Int32) - (σ o 2))]) (rest := []) dX3_endTurn_21 lkX3_28 mfX3_stopFor (t_X3_stopFor o ho σ ((1 : Int32) - (σ o 2))) (q_pos0 ho) rfl rfl ⟨Nat.le_of_ble_eq_true rfl, Nat.le_of_ble_eq_true rfl⟩ ⟨Nat.le_of_ble_eq_true rfl, Nat.le_of_ble_eq_true rfl⟩ rfl (Nat.le_of_ble_eq_true rfl)) rfl rfl rfl rfl (fun s3 _ _ => ?_)
    refine gq_aload_n (i := 1) (pc' := 25) dX3_endTurn_24 rfl rfl ?_
    refine gq_iload_n (i := 0) (pc' := 26) dX3_endTurn_25 rfl rfl ?_
    refine gq_puti (pc' := 29) dX3_endTurn_26 rfl flX3_55 plX3_7 (q_pos0 ho) rfl rfl rfl ?_
    refine gq_lets (fun s5 => ?_)
    exact gq_vret dX3_endTurn_29 rfl rfl rfl
set_option maxRecDepth 100000 in
set_option maxHeartbeats 4000000 in
theorem t_X3_roquet {X : q_Cx} {Λr : q_Lay} (o : Nat) (ho : q_pos o) (σ : Sg) (p0 : Int32) : q_Ex X mX3_roquet (q_LA Λr) (q_LA Λr) [.ref (xa X o), .int p0] σ (f_X3_roquet o σ p0) := by
  refine gq_ex mfX3_roquet (Nat.le_of_ble_eq_true rfl) ?_
  show q_G X mX3_roquet (q_QM X (q_LA Λr) mX3_roquet) ((q_LA Λr), 0, 0) σ 0 [(0, .ref (xa X o)), (1, .int p0)] [] _
  unfold f_X3_roquet
  refine gq_aload_n (i := 0) (pc' := 1) dX3_roquet_0 rfl rfl ?_
  refine gq_dup (pc' := 2) dX3_roquet_1 rfl rfl ?_
  refine gq_geti (pc' := 5) dX3_roquet_2 rfl flX3_83 (q_pos0 ho) rfl ?_
  refine gq_iconst (v := 1) (pc' := 6) dX3_roquet_5 rfl  (by decide) ?_
  refine gq_isub (pc' := 7) dX3_roquet_6 rfl ?_
  refine gq_puti (pc' := 10) dX3_roquet_7 rfl flX3_83 plX3_4 (q_pos0 ho) rfl rfl rfl ?_
  refine gq_lets (fun s1 => ?_)
  refine gq_aload_n (i := 0) (pc' := 11) dX3_roquet_10 rfl rfl ?_
  refine gq_dup (pc' := 12) dX3_roquet_11 rfl rfl ?_
  refine gq_geti (pc' := 15) dX3_roquet_12 rfl flX3_65 (q_pos0 ho) rfl ?_
  refine gq_iconst (v := 1) (pc' := 16) dX3_roquet_15 rfl  (by decide) ?_
  refine gq_iload_n (i := 1) (pc' := 17) dX3_roquet_16 rfl rfl ?_
  refine gq_ishl (pc' := 18) dX3_roquet_17 rfl ?_
  refine gq_iconst (v := -1) (pc' := 19) dX3_roquet_18 rfl  (by decide) ?_
  refine gq_ixor (pc' := 20) dX3_roquet_19 rfl ?_
  refine gq_iand (pc' := 21) dX3_roquet_20 rfl ?_
  refine gq_puti (pc' := 24) dX3_roquet_21 rfl flX3_65 plX3_5 (q_pos0 ho) rfl rfl rfl ?_
  refine gq_lets (fun s2 => ?_)
  refine gq_aload_n (i := 0) (pc' := 25) dX3_roquet_24 rfl rfl ?_
  refine gq_iload_n (i := 1) (pc' := 26) dX3_roquet_25 rfl rfl ?_
  refine gq_puti (pc' := 29) dX3_roquet_26 rfl flX3_48 plX3_6 (q_pos0 ho) rfl rfl rfl ?_
  refine gq_lets (fun s3 => ?_)
  exact gq_vret dX3_roquet_29 rfl rfl rfl
set_option maxRecDepth 100000 in
set_option maxHeartbeats 4000000 in
theorem t_X3_croquet {X : q_Cx} {Λr : q_Lay} (o : Nat) (ho : q_pos o) (σ : Sg) : q_Ex X mX3_croquet (q_LA Λr) (q_LA Λr) [.ref (xa X o)] σ (f_X3_croquet o σ) := by
  refine gq_ex mfX3_croquet (Nat.le_of_ble_eq_true rfl) ?_
  show q_G X mX3_croquet (q_QM X (q_LA Λr) mX3_croquet) ((q_LA Λr), 0, 0) σ 0 [(0, .ref (xa X o))] [] _
  unfold f_X3_croquet
  refine gq_aload_n (i := 0) (pc' := 1) dX3_croquet_0 rfl rfl ?_
  refine gq_iconst (v := 1) (pc' := 2) dX3_croquet_1 rfl  (by decide) ?_
  refine gq_puti (pc' := 5) dX3_croquet_2 rfl flX3_83 plX3_4 (q_pos0 ho) rfl rfl rfl ?_
  refine gq_lets (fun s1 => ?_)
  refine gq_aload_n (i := 0) (pc' := 6) dX3_croquet_5 rfl rfl ?_
  refine gq_bipush (v := -4) (pc' := 8) dX3_croquet_6 rfl  (by decide) ?_
  refine gq_puti (pc' := 11) dX3_croquet_8 rfl flX3_48 plX3_6 (q_pos0 ho) rfl rfl rfl ?_
  refine gq_lets (fun s2 => ?_)
  exact gq_vret dX3_croquet_11 rfl rfl rfl
set_option maxRecDepth 100000 in
set_option maxHeartbeats 4000000 in
theorem t_X3_spendFree {X : q_Cx} {Λr : q_Lay} (o : Nat) (ho : q_pos o) (σ : Sg) : q_Ex X mX3_spendFree (q_LA Λr) (q_LA Λr) [.ref (xa X o)] σ (f_X3_spendFree o σ) := by
  refine gq_ex mfX3_spendFree (Nat.le_of_ble_eq_true rfl) ?_
  show q_G X mX3_spendFree (q_QM X (q_LA Λr) mX3_spendFree) ((q_LA Λr), 0, 0) σ 0 [(0, .ref (xa X o))] [] _
  unfold f_X3_spendFree
  refine gq_aload_n (i := 0) (pc' := 1) dX3_spendFree_0 rfl rfl ?_
  refine gq_iconst (v := 1) (pc' := 2) dX3_spendFree_1 rfl  (by decide) ?_
  refine gq_aload_n (i := 0) (pc' := 3) dX3_spendFree_2 rfl rfl ?_
  refine gq_geti (pc' := 6) dX3_spendFree_3 rfl flX3_58 (q_pos0 ho) rfl ?_
  refine gq_isub (pc' := 7) dX3_spendFree_6 rfl ?_
  refine gq_puti (pc' := 10) dX3_spendFree_7 rfl flX3_58 plX3_2 (q_pos0 ho) rfl rfl rfl ?_
  refine gq_lets (fun s1 => ?_)
  refine gq_aload_n (i := 0) (pc' := 11) dX3_spendFree_10 rfl rfl ?_
  refine gq_getr (pc' := 14) dX3_spendFree_11 rfl flX3_15 (q_pos0 ho) rfl ?_
  refine gq_aload_n (i := 0) (pc' := 15) dX3_spendFree_14 rfl rfl ?_
  refine gq_geti (pc' := 18) dX3_spendFree_15 rfl flX3_58 (q_pos0 ho) rfl ?_
  refine gq_aload_n (i := 0) (pc' := 19) dX3_spendFree_18 rfl rfl ?_
  refine gq_getr (pc' := 22) dX3_spendFree_19 rfl flX3_15 (q_pos0 ho) rfl ?_
  refine gq_aload_n (i := 0) (pc' := 23) dX3_spendFree_22 rfl rfl ?_
  refine gq_geti (pc' := 26) dX3_spendFree_23 rfl flX3_58 (q_pos0 ho) rfl ?_
  refine gq_calli (cs' := 0) (ns' := 0) (pc' := 29) (gq_siteSN (Mc := mX5_at) (As := [.ref (xa X (o + 2)), .int (s1 o 2)]) (rest := [.int (s1 o 2), .ref (xa X (o + 2))]) dX3_spendFree_26 lkX3_61 mfX5_at (t_X5_at (o + 2) 2 (Or.inl (q_pos2 ho)) s1 (s1 o 2)) rfl ⟨Nat.le_of_ble_eq_true rfl, Nat.le_of_ble_eq_true rfl⟩ ⟨Nat.le_of_ble_eq_true rfl, Nat.le_of_ble_eq_true rfl⟩ rfl (Nat.le_of_ble_eq_true rfl)) rfl rfl rfl rfl (fun s2 r3 _ => ?_)
  refine gq_iconst (v := 1) (pc' := 30) dX3_spendFree_29 rfl  (by decide) ?_
  refine gq_isub (pc' := 31) dX3_spendFree_30 rfl ?_
  refine gq_callv (cs' := 0) (ns' := 0) (pc' := 34) (gq_siteSN (Mc := mX5_set) (As := [.ref (xa X (o + 2)), .int (s1 o 2), .int (r3 - (1 : Int32))]) (rest := []) dX3_spendFree_31 lkX3_24 mfX5_set (t_X5_set (o + 2) 2 (q_pos2 ho) s2 (s1 o 2) (r3 - (1 : Int32))) rfl ⟨Nat.le_of_ble_eq_true rfl, Nat.le_of_ble_eq_true rfl⟩ ⟨Nat.le_of_ble_eq_true rfl, Nat.le_of_ble_eq_true rfl⟩ rfl (Nat.le_of_ble_eq_true rfl)) rfl rfl rfl rfl (fun s4 _ _ => ?_)
  exact gq_vret dX3_spendFree_34 rfl rfl rfl
set_option maxRecDepth 100000 in
set_option maxHeartbeats 4000000 in
theorem g_X3_lead_J125 {X : q_Cx} {Λr : q_Lay} (o : Nat) (ho : q_pos o) (σ : Sg) : q_G X mX3_lead (q_QM X (q_LA Λr) mX3_lead) ((q_LA Λr), 0, 0) σ 125 [(0, .ref (xa X o))] [] (f_X3_lead_J125 o σ) := by
  unfold f_X3_lead_J125
  refine gq_aload_n (i := 0) (pc' := 126) dX3_lead_125 rfl rfl ?_
  refine gq_callv (cs' := 0) (ns' := 0) (pc' := 129) (gq_siteV (Mc := mX3_spendFree) (As := []) (rest := []) dX3_lead_126 lkX3_80 mfX3_spendFree (t_X3_spendFree o ho σ) (q_pos0 ho) rfl rfl ⟨Nat.le_of_ble_eq_true rfl, Nat.le_of_ble_eq_true rfl⟩ ⟨Nat.le_of_ble_eq_true rfl, Nat.le_of_ble_eq_true rfl⟩ rfl (Nat.le_of_ble_eq_true rfl)) rfl rfl rfl rfl (fun s2 _ _ => ?_)
  refine gq_aload_n (i := 0) (pc' := 130) dX3_lead_129 rfl rfl ?_
  refine gq_aload_n (i := 0) (pc' := 131) dX3_lead_130 rfl rfl ?_
  refine gq_geti (pc' := 134) dX3_lead_131 rfl flX3_55 (q_pos0 ho) rfl ?_
  refine gq_callv (cs' := 0) (ns' := 0) (pc' := 137) (gq_siteV (Mc := mX3_bringIn) (As := [.int (s2 o 7)]) (rest := []) dX3_lead_134 lkX3_68 mfX3_bringIn (t_X3_bringIn o ho s2 (s2 o 7)) (q_pos0 ho) rfl rfl ⟨Nat.le_of_ble_eq_true rfl, Nat.le_of_ble_eq_true rfl⟩ ⟨Nat.le_of_ble_eq_true rfl, Nat.le_of_ble_eq_true rfl⟩ rfl (Nat.le_of_ble_eq_true rfl)) rfl rfl rfl rfl (fun s4 _ _ => ?_)
  exact gq_vret dX3_lead_137 rfl rfl rfl
set_option maxRecDepth 100000 in
set_option maxHeartbeats 4000000 in
theorem t_X3_lead {X : q_Cx} {Λr : q_Lay} (o : Nat) (ho : q_pos o) (σ : Sg) (p0 : Int32) (p1 : Int32) : q_Ex X mX3_lead (q_LA Λr) (q_LA Λr) [.ref (xa X o), .int p0, .int p1] σ (f_X3_lead o σ p0 p1) := by
  refine gq_ex mfX3_lead (Nat.le_of_ble_eq_true rfl) ?_
  show q_G X mX3_lead (q_QM X (q_LA Λr) mX3_lead) ((q_LA Λr), 0, 0) σ 0 [(0, .ref (xa X o)), (1, .int p0), (2, .int p1)] [] _
  unfold f_X3_lead
  refine gq_iload_n (i := 1) (pc' := 1) dX3_lead_0 rfl rfl ?_
  refine gq_ite (fun c1 => ?_) (fun _ => ?_)
  · refine gq_tswLo (tgt := 125) c1 dX3_lead_1 (by decide) (by decide) ?_
    refine gq_sub (l' := [(0, .ref (xa X o))]) [0] rfl ?_
    exact g_X3_lead_J125 o ho σ
  refine gq_ite (fun c6 => ?_) (fun _ => ?_)
  · refine gq_tswHi (tgt := 125) c6 dX3_lead_1 (by decide) (by decide) ?_
    refine gq_sub (l' := [(0, .ref (xa X o))]) [0] rfl ?_
    exact g_X3_lead_J125 o ho σ
  refine gq_ite (fun c7 => ?_) (fun _ => ?_)
  · refine gq_tswIn (tgt := 40) c7 dX3_lead_1 (by decide) (by decide) rfl (by decide) ?_
    refine gq_aload_n (i := 0) (pc' := 41) dX3_lead_40 rfl rfl ?_
    refine gq_iload_n (i := 2) (pc' := 42) dX3_lead_41 rfl rfl ?_
    refine gq_callv (cs' := 0) (ns' := 0) (pc' := 45) (gq_siteV (Mc := mX3_bringIn) (As := [.int p1]) (rest := []) dX3_lead_42 lkX3_68 mfX3_bringIn (t_X3_bringIn o ho σ p1) (q_pos0 ho) rfl rfl ⟨Nat.le_of_ble_eq_true rfl, Nat.le_of_ble_eq_true rfl⟩ ⟨Nat.le_of_ble_eq_true rfl, Nat.le_of_ble_eq_true rfl⟩ rfl (Nat.le_of_ble_eq_true rfl)) rfl rfl rfl rfl (fun s8 _ _ => ?_)
    refine gq_goto (pc' := 137) dX3_lead_45 (by decide) ?_
    exact gq_vret dX3_lead_137 rfl rfl rfl
  refine gq_ite (fun c10 => ?_) (fun _ => ?_)
  · refine gq_tswIn (tgt := 48) c10 dX3_lead_1 (by decide) (by decide) rfl (by decide) ?_
    refine gq_aload_n (i := 0) (pc' := 49) dX3_lead_48 rfl rfl ?_
    refine gq_callv (cs' := 0) (ns' := 0) (pc' := 52) (gq_siteV (Mc := mX3_endTurn) (As := []) (rest := []) dX3_lead_49 lkX3_71 mfX3_endTurn (t_X3_endTurn o ho σ) (q_pos0 ho) rfl rfl ⟨Nat.le_of_ble_eq_true rfl, Nat.le_of_ble_eq_true rfl⟩ ⟨Nat.le_of_ble_eq_true rfl, Nat.le_of_ble_eq_true rfl⟩ rfl (Nat.le_of_ble_eq_true rfl)) rfl rfl rfl rfl (fun s11 _ _ => ?_)
    refine gq_goto (pc' := 137) dX3_lead_52 (by decide) ?_
    exact gq_vret dX3_lead_137 rfl rfl rfl
  refine gq_ite (fun c13 => ?_) (fun _ => ?_)
  · refine gq_tswIn (tgt := 55) c13 dX3_lead_1 (by decide) (by decide) rfl (by decide) ?_
    refine gq_aload_n (i := 0) (pc' := 56) dX3_lead_55 rfl rfl ?_
    refine gq_getr (pc' := 59) dX3_lead_56 rfl flX3_9 (q_pos0 ho) rfl ?_
    refine gq_aload_n (i := 0) (pc' := 60) dX3_lead_59 rfl rfl ?_
    refine gq_geti (pc' := 63) dX3_lead_60 rfl flX3_36 (q_pos0 ho) rfl ?_
    refine gq_aload_n (i := 0) (pc' := 64) dX3_lead_63 rfl rfl ?_
    refine gq_getr (pc' := 67) dX3_lead_64 rfl flX3_9 (q_pos0 ho) rfl ?_
    refine gq_aload_n (i := 0) (pc' := 68) dX3_lead_67 rfl rfl ?_
    refine gq_geti (pc' := 71) dX3_lead_68 rfl flX3_36 (q_pos0 ho) rfl ?_
    refine gq_calli (cs' := 0) (ns' := 0) (pc' := 74) (gq_siteSN (Mc := mX5_at) (As := [.ref (xa X (o + 1)), .int (σ o 3)]) (rest := [.int (σ o 3), .ref (xa X (o + 1))]) dX3_lead_71 lkX3_61 mfX5_at (t_X5_at (o + 1) 4 (Or.inl (q_pos1 ho)) σ (σ o 3)) rfl ⟨Nat.le_of_ble_eq_true rfl, Nat.le_of_ble_eq_true rfl⟩ ⟨Nat.le_of_ble_eq_true rfl, Nat.le_of_ble_eq_true rfl⟩ rfl (Nat.le_of_ble_eq_true rfl)) rfl rfl rfl rfl (fun s14 r15 _ => ?_)
    refine gq_iconst (v := 1) (pc' := 75) dX3_lead_74 rfl  (by decide) ?_
    refine gq_iadd (pc' := 76) dX3_lead_75 rfl ?_
    refine gq_callv (cs' := 0) (ns' := 0) (pc' := 79) (gq_siteSN (Mc := mX5_set) (As := [.ref (xa X (o + 1)), .int (σ o 3), .int (r15 + (1 : Int32))]) (rest := []) dX3_lead_76 lkX3_24 mfX5_set (t_X5_set (o + 1) 4 (q_pos1 ho) s14 (σ o 3) (r15 + (1 : Int32))) rfl ⟨Nat.le_of_ble_eq_true rfl, Nat.le_of_ble_eq_true rfl⟩ ⟨Nat.le_of_ble_eq_true rfl, Nat.le_of_ble_eq_true rfl⟩ rfl (Nat.le_of_ble_eq_true rfl)) rfl rfl rfl rfl (fun s16 _ _ => ?_)
    refine gq_aload_n (i := 0) (pc' := 80) dX3_lead_79 rfl rfl ?_
    refine gq_aload_n (i := 0) (pc' := 81) dX3_lead_80 rfl rfl ?_
    refine gq_geti (pc' := 84) dX3_lead_81 rfl flX3_36 (q_pos0 ho) rfl ?_
    refine gq_callv (cs' := 0) (ns' := 0) (pc' := 87) (gq_siteV (Mc := mX3_bringIn) (As := [.int (s16 o 3)]) (rest := []) dX3_lead_84 lkX3_68 mfX3_bringIn (t_X3_bringIn o ho s16 (s16 o 3)) (q_pos0 ho) rfl rfl ⟨Nat.le_of_ble_eq_true rfl, Nat.le_of_ble_eq_true rfl⟩ ⟨Nat.le_of_ble_eq_true rfl, Nat.le_of_ble_eq_true rfl⟩ rfl (Nat.le_of_ble_eq_true rfl)) rfl rfl rfl rfl (fun s18 _ _ => ?_)
    refine gq_goto (pc' := 137) dX3_lead_87 (by decide) ?_
    exact gq_vret dX3_lead_137 rfl rfl rfl
  refine gq_ite (fun c20 => ?_) (fun _ => ?_)
  · refine gq_tswIn (tgt := 90) c20 dX3_lead_1 (by decide) (by decide) rfl (by decide) ?_
    refine gq_aload_n (i := 0) (pc' := 91) dX3_lead_90 rfl rfl ?_
    refine gq_iload_n (i := 2) (pc' := 92) dX3_lead_91 rfl rfl ?_
    refine gq_callv (cs' := 0) (ns' := 0) (pc' := 95) (gq_siteV (Mc := mX3_roquet) (As := [.int p1]) (rest := []) dX3_lead_92 lkX3_74 mfX3_roquet (t_X3_roquet o ho σ p1) (q_pos0 ho) rfl rfl ⟨Nat.le_of_ble_eq_true rfl, Nat.le_of_ble_eq_true rfl⟩ ⟨Nat.le_of_ble_eq_true rfl, Nat.le_of_ble_eq_true rfl⟩ rfl (Nat.le_of_ble_eq_true rfl)) rfl rfl rfl rfl (fun s21 _ _ => ?_)
    refine gq_goto (pc' := 137) dX3_lead_95 (by decide) ?_
    exact gq_vret dX3_lead_137 rfl rfl rfl
  refine gq_ite (fun c23 => ?_) (fun _ => ?_)
  · refine gq_tswIn (tgt := 98) c23 dX3_lead_1 (by decide) (by decide) rfl (by decide) ?_
    refine gq_aload_n (i := 0) (pc' := 99) dX3_lead_98 rfl rfl ?_
    refine gq_callv (cs' := 0) (ns' := 0) (pc' := 102) (gq_siteV (Mc := mX3_croquet) (As := []) (rest := []) dX3_lead_99 lkX3_77 mfX3_croquet (t_X3_croquet o ho σ) (q_pos0 ho) rfl rfl ⟨Nat.le_of_ble_eq_true rfl, Nat.le_of_ble_eq_true rfl⟩ ⟨Nat.le_of_ble_eq_true rfl, Nat.le_of_ble_eq_true rfl⟩ rfl (Nat.le_of_ble_eq_true rfl)) rfl rfl rfl rfl (fun s24 _ _ => ?_)
    refine gq_goto (pc' := 137) dX3_lead_102 (by decide) ?_
    exact gq_vret dX3_lead_137 rfl rfl rfl
  refine gq_ite (fun c26 => ?_) (fun _ => ?_)
  · refine gq_tswIn (tgt := 105) c26 dX3_lead_1 (by decide) (by decide) rfl (by decide) ?_
    refine gq_aload_n (i := 0) (pc' := 106) dX3_lead_105 rfl rfl ?_
    refine gq_getr (pc' := 109) dX3_lead_106 rfl flX3_9 (q_pos0 ho) rfl ?_
    refine gq_aload_n (i := 0) (pc' := 110) dX3_lead_109 rfl rfl ?_
    refine gq_geti (pc' := 113) dX3_lead_110 rfl flX3_36 (q_pos0 ho) rfl ?_
    refine gq_bipush (v := 7) (pc' := 115) dX3_lead_113 rfl  (by decide) ?_
    refine gq_callv (cs' := 0) (ns' := 0) (pc' := 118) (gq_siteSN (Mc := mX5_set) (As := [.ref (xa X (o + 1)), .int (σ o 3), .int (7 : Int32)]) (rest := []) dX3_lead_115 lkX3_24 mfX5_set (t_X5_set (o + 1) 4 (q_pos1 ho) σ (σ o 3) (7 : Int32)) rfl ⟨Nat.le_of_ble_eq_true rfl, Nat.le_of_ble_eq_true rfl⟩ ⟨Nat.le_of_ble_eq_true rfl, Nat.le_of_ble_eq_true rfl⟩ rfl (Nat.le_of_ble_eq_true rfl)) rfl rfl rfl rfl (fun s27 _ _ => ?_)
    refine gq_aload_n (i := 0) (pc' := 119) dX3_lead_118 rfl rfl ?_
    refine gq_callv (cs' := 0) (ns' := 0) (pc' := 122) (gq_siteV (Mc := mX3_endTurn) (As := []) (rest := []) dX3_lead_119 lkX3_71 mfX3_endTurn (t_X3_endTurn o ho s27) (q_pos0 ho) rfl rfl ⟨Nat.le_of_ble_eq_true rfl, Nat.le_of_ble_eq_true rfl⟩ ⟨Nat.le_of_ble_eq_true rfl, Nat.le_of_ble_eq_true rfl⟩ rfl (Nat.le_of_ble_eq_true rfl)) rfl rfl rfl rfl (fun s29 _ _ => ?_)
    refine gq_goto (pc' := 137) dX3_lead_122 (by decide) ?_
    exact gq_vret dX3_lead_137 rfl rfl rfl
  exact gq_none
set_option maxRecDepth 100000 in
set_option maxHeartbeats 4000000 in
theorem g_X3_tell_J112 {X : q_Cx} {Λr : q_Lay} (o : Nat) (ho : q_pos o) (σ : Sg) (x1 : Int32) : q_G X mX3_tell (q_QM X (q_LA Λr) mX3_tell) ((q_LA Λr), 0, 0) σ 112 [(0, .ref (xa X o)), (1, .int x1)] [] (f_X3_tell_J112 o σ x1) := by
  unfold f_X3_tell_J112
  refine gq_aload_n (i := 0) (pc' := 113) dX3_tell_112 rfl rfl ?_
  refine gq_getr (pc' := 116) dX3_tell_113 rfl flX3_9 (q_pos0 ho) rfl ?_
  refine gq_iload_n (i := 1) (pc' := 117) dX3_tell_116 rfl rfl ?_
  refine gq_iconst (v := 5) (pc' := 118) dX3_tell_117 rfl  (by decide) ?_
  refine gq_isub (pc' := 119) dX3_tell_118 rfl ?_
  refine gq_calli (cs' := 0) (ns' := 0) (pc' := 122) (gq_siteSN (Mc := mX5_at) (As := [.ref (xa X (o + 1)), .int (x1 - (5 : Int32))]) (rest := []) dX3_tell_119 lkX3_61 mfX5_at (t_X5_at (o + 1) 4 (Or.inl (q_pos1 ho)) σ (x1 - (5 : Int32))) rfl ⟨Nat.le_of_ble_eq_true rfl, Nat.le_of_ble_eq_true rfl⟩ ⟨Nat.le_of_ble_eq_true rfl, Nat.le_of_ble_eq_true rfl⟩ rfl (Nat.le_of_ble_eq_true rfl)) rfl rfl rfl rfl (fun s2 r3 _ => ?_)
  exact gq_iret dX3_tell_122 rfl rfl rfl
set_option maxRecDepth 100000 in
set_option maxHeartbeats 4000000 in
theorem t_X3_tell {X : q_Cx} {Λr : q_Lay} (o : Nat) (ho : q_pos o) (σ : Sg) (p0 : Int32) : q_Ex X mX3_tell (q_LA Λr) (q_LA Λr) [.ref (xa X o), .int p0] σ (f_X3_tell o σ p0) := by
  refine gq_ex mfX3_tell (Nat.le_of_ble_eq_true rfl) ?_
  show q_G X mX3_tell (q_QM X (q_LA Λr) mX3_tell) ((q_LA Λr), 0, 0) σ 0 [(0, .ref (xa X o)), (1, .int p0)] [] _
  unfold f_X3_tell
  refine gq_iload_n (i := 1) (pc' := 1) dX3_tell_0 rfl rfl ?_
  refine gq_ite (fun c1 => ?_) (fun _ => ?_)
  · refine gq_tswLo (tgt := 112) c1 dX3_tell_1 (by decide) (by decide) ?_
    refine gq_sub (l' := [(0, .ref (xa X o)), (1, .int p0)]) [0, 1] rfl ?_
    exact g_X3_tell_J112 o ho σ p0
  refine gq_ite (fun c4 => ?_) (fun _ => ?_)
  · refine gq_tswHi (tgt := 112) c4 dX3_tell_1 (by decide) (by decide) ?_
    refine gq_sub (l' := [(0, .ref (xa X o)), (1, .int p0)]) [0, 1] rfl ?_
    exact g_X3_tell_J112 o ho σ p0
  refine gq_ite (fun c5 => ?_) (fun _ => ?_)
  · refine gq_tswIn (tgt := 64) c5 dX3_tell_1 (by decide) (by decide) rfl (by decide) ?_
    refine gq_aload_n (i := 0) (pc' := 65) dX3_tell_64 rfl rfl ?_
    refine gq_geti (pc' := 68) dX3_tell_65 rfl flX3_58 (q_pos0 ho) rfl ?_
    exact gq_iret dX3_tell_68 rfl rfl rfl
  refine gq_ite (fun c6 => ?_) (fun _ => ?_)
  · refine gq_tswIn (tgt := 69) c6 dX3_tell_1 (by decide) (by decide) rfl (by decide) ?_
    refine gq_aload_n (i := 0) (pc' := 70) dX3_tell_69 rfl rfl ?_
    refine gq_geti (pc' := 73) dX3_tell_70 rfl flX3_36 (q_pos0 ho) rfl ?_
    exact gq_iret dX3_tell_73 rfl rfl rfl
  refine gq_ite (fun c7 => ?_) (fun _ => ?_)
  · refine gq_tswIn (tgt := 74) c7 dX3_tell_1 (by decide) (by decide) rfl (by decide) ?_
    refine gq_aload_n (i := 0) (pc' := 75) dX3_tell_74 rfl rfl ?_
    refine gq_geti (pc' := 78) dX3_tell_75 rfl flX3_83 (q_pos0 ho) rfl ?_
    exact gq_iret dX3_tell_78 rfl rfl rfl
  refine gq_ite (fun c8 => ?_) (fun _ => ?_)
  · refine gq_tswIn (tgt := 79) c8 dX3_tell_1 (by decide) (by decide) rfl (by decide) ?_
    refine gq_aload_n (i := 0) (pc' := 80) dX3_tell_79 rfl rfl ?_
    refine gq_geti (pc' := 83) dX3_tell_80 rfl flX3_65 (q_pos0 ho) rfl ?_
    exact gq_iret dX3_tell_83 rfl rfl rfl
  refine gq_ite (fun c9 => ?_) (fun _ => ?_)
  · refine gq_tswIn (tgt := 84) c9 dX3_tell_1 (by decide) (by decide) rfl (by decide) ?_
    refine gq_aload_n (i := 0) (pc' := 85) dX3_tell_84 rfl rfl ?_
    refine gq_geti (pc' := 88) dX3_tell_85 rfl flX3_48 (q_pos0 ho) rfl ?_
    exact gq_iret dX3_tell_88 rfl rfl rfl
  refine gq_ite (fun c10 => ?_) (fun _ => ?_)
  · refine gq_tswIn (tgt := 112) c10 dX3_tell_1 (by decide) (by decide) rfl (by decide) ?_
    refine gq_sub (l' := [(0, .ref (xa X o)), (1, .int p0)]) [0, 1] rfl ?_
    exact g_X3_tell_J112 o ho σ p0
  refine gq_ite (fun c11 => ?_) (fun _ => ?_)
  · refine gq_tswIn (tgt := 112) c11 dX3_tell_1 (by decide) (by decide) rfl (by decide) ?_
    refine gq_sub (l' := [(0, .ref (xa X o)), (1, .int p0)]) [0, 1] rfl ?_
    exact g_X3_tell_J112 o ho σ p0
  refine gq_ite (fun c12 => ?_) (fun _ => ?_)
  · refine gq_tswIn (tgt := 112) c12 dX3_tell_1 (by decide) (by decide) rfl (by decide) ?_
    refine gq_sub (l' := [(0, .ref (xa X o)), (1, .int p0)]) [0, 1] rfl ?_
    exact g_X3_tell_J112 o ho σ p0
  refine gq_ite (fun c13 => ?_) (fun _ => ?_)
  · refine gq_tswIn (tgt := 112) c13 dX3_tell_1 (by decide) (by decide) rfl (by decide) ?_
    refine gq_sub (l' := [(0, .ref (xa X o)), (1, .int p0)]) [0, 1] rfl ?_
    exact g_X3_tell_J112 o ho σ p0
  refine gq_ite (fun c14 => ?_) (fun _ => ?_)
  · refine gq_tswIn (tgt := 89) c14 dX3_tell_1 (by decide) (by decide) rfl (by decide) ?_
    refine gq_aload_n (i := 0) (pc' := 90) dX3_tell_89 rfl rfl ?_
    refine gq_getr (pc' := 93) dX3_tell_90 rfl flX3_15 (q_pos0 ho) rfl ?_
    refine gq_iconst (v := 0) (pc' := 94) dX3_tell_93 rfl  (by decide) ?_
    refine gq_calli (cs' := 0) (ns' := 0) (pc' := 97) (gq_siteSN (Mc := mX5_at) (As := [.ref (xa X (o + 2)), .int (0 : Int32)]) (rest := []) dX3_tell_94 lkX3_61 mfX5_at (t_X5_at (o + 2) 2 (Or.inl (q_pos2 ho)) σ (0 : Int32)) rfl ⟨Nat.le_of_ble_eq_true rfl, Nat.le_of_ble_eq_true rfl⟩ ⟨Nat.le_of_ble_eq_true rfl, Nat.le_of_ble_eq_true rfl⟩ rfl (Nat.le_of_ble_eq_true rfl)) rfl rfl rfl rfl (fun s15 r16 _ => ?_)
    exact gq_iret dX3_tell_97 rfl rfl rfl
  refine gq_ite (fun c17 => ?_) (fun _ => ?_)
  · refine gq_tswIn (tgt := 98) c17 dX3_tell_1 (by decide) (by decide) rfl (by decide) ?_
    refine gq_aload_n (i := 0) (pc' := 99) dX3_tell_98 rfl rfl ?_
    refine gq_getr (pc' := 102) dX3_tell_99 rfl flX3_15 (q_pos0 ho) rfl ?_
    refine gq_iconst (v := 1) (pc' := 103) dX3_tell_102 rfl  (by decide) ?_
    refine gq_calli (cs' := 0) (ns' := 0) (pc' := 106) (gq_siteSN (Mc := mX5_at) (As := [.ref (xa X (o + 2)), .int (1 : Int32)]) (rest := []) dX3_tell_103 lkX3_61 mfX5_at (t_X5_at (o + 2) 2 (Or.inl (q_pos2 ho)) σ (1 : Int32)) rfl ⟨Nat.le_of_ble_eq_true rfl, Nat.le_of_ble_eq_true rfl⟩ ⟨Nat.le_of_ble_eq_true rfl, Nat.le_of_ble_eq_true rfl⟩ rfl (Nat.le_of_ble_eq_true rfl)) rfl rfl rfl rfl (fun s18 r19 _ => ?_)
    exact gq_iret dX3_tell_106 rfl rfl rfl
  refine gq_ite (fun c20 => ?_) (fun _ => ?_)
  · refine gq_tswIn (tgt := 107) c20 dX3_tell_1 (by decide) (by decide) rfl (by decide) ?_
    refine gq_aload_n (i := 0) (pc' := 108) dX3_tell_107 rfl rfl ?_
    refine gq_calli (cs' := 0) (ns' := 0) (pc' := 111) (gq_siteV (Mc := mX3_winner) (As := []) (rest := []) dX3_tell_108 lkX3_32 mfX3_winner (t_X3_winner o ho σ) (q_pos0 ho) rfl rfl ⟨Nat.le_of_ble_eq_true rfl, Nat.le_of_ble_eq_true rfl⟩ ⟨Nat.le_of_ble_eq_true rfl, Nat.le_of_ble_eq_true rfl⟩ rfl (Nat.le_of_ble_eq_true rfl)) rfl rfl rfl rfl (fun s21 r22 _ => ?_)
    exact gq_iret dX3_tell_111 rfl rfl rfl
  exact gq_none
end
section
-- GENERATED by wip/p23/gen.py: the walks
set_option maxRecDepth 100000 in
set_option maxHeartbeats 4000000 in
theorem g_X0_letterFor_J9 {X : q_Cx} {Λr : q_Lay} (σ : Sg) (x2 : Int32) (y0 : Int32) : q_G X mX0_letterFor (q_QM X (q_LA Λr) mX0_letterFor) ((q_LA Λr), 0, 0) σ 9 [(0, .ref (xa X 15)), (2, .int x2)] [.int y0] (f_X0_letterFor_J9 σ x2 y0) := by
  unfold f_X0_letterFor_J9
  refine gq_istore_n (l' := [(3, .int y0), (0, .ref (xa X 15)), (2, .int x2)]) (pc' := 10) dX0_letterFor_9 rfl (by decide) rfl ?_
  refine gq_iload_n (i := 2) (pc' := 11) dX0_letterFor_10 rfl rfl ?_
  refine gq_aload_n (i := 1) (pc' := 12) dX0_letterFor_11 rfl rfl ?_
  refine gq_getr (pc' := 15) dX0_letterFor_12 rfl flX0_15 lo_15 rfl ?_
  refine gq_iload_n (i := 0) (pc' := 16) dX0_letterFor_15 rfl rfl ?_
  refine gq_calli (cs' := 0) (ns' := 0) (pc' := 19) (gq_siteSN (Mc := mX5_at) (As := [.ref (xa X 17), .int y0]) (rest := [.int x2]) dX0_letterFor_16 lkX0_31 mfX5_at (t_X5_at 17 2 (Or.inl lo_17) σ y0) rfl ⟨Nat.le_of_ble_eq_true rfl, Nat.le_of_ble_eq_true rfl⟩ ⟨Nat.le_of_ble_eq_true rfl, Nat.le_of_ble_eq_true rfl⟩ rfl (Nat.le_of_ble_eq_true rfl)) rfl rfl rfl rfl (fun s2 r3 _ => ?_)
  refine gq_icmp_gt (pc' := 22) (tgt := 33) dX0_letterFor_19 rfl (by decide) (fun c4 => ?_) (fun c4 => ?_)
  · refine gq_bipush (v := -4) (pc' := 35) dX0_letterFor_33 rfl  (by decide) ?_
    exact gq_iret dX0_letterFor_35 rfl rfl rfl
  · refine gq_aload_n (i := 1) (pc' := 23) dX0_letterFor_22 rfl rfl ?_
    refine gq_getr (pc' := 26) dX0_letterFor_23 rfl flX0_18 lo_15 rfl ?_
    refine gq_iload_n (i := 0) (pc' := 27) dX0_letterFor_26 rfl rfl ?_
    refine gq_calli (cs' := 0) (ns' := 0) (pc' := 30) (gq_siteSN (Mc := mX5_at) (As := [.ref (xa X 18), .int y0]) (rest := []) dX0_letterFor_27 lkX0_31 mfX5_at (t_X5_at 18 2 (Or.inl lo_18) s2 y0) rfl ⟨Nat.le_of_ble_eq_true rfl, Nat.le_of_ble_eq_true rfl⟩ ⟨Nat.le_of_ble_eq_true rfl, Nat.le_of_ble_eq_true rfl⟩ rfl (Nat.le_of_ble_eq_true rfl)) rfl rfl rfl rfl (fun s5 r6 _ => ?_)
    refine gq_goto (pc' := 35) dX0_letterFor_30 (by decide) ?_
    exact gq_iret dX0_letterFor_35 rfl rfl rfl
set_option maxRecDepth 100000 in
set_option maxHeartbeats 4000000 in
theorem t_X0_letterFor {X : q_Cx} {Λr : q_Lay} (σ : Sg) (p0 : Int32) (p1 : Int32) : q_Ex X mX0_letterFor (q_LA Λr) (q_LA Λr) [.ref (xa X 15), .int p0, .int p1] σ (f_X0_letterFor σ p0 p1) := by
  refine gq_ex mfX0_letterFor (Nat.le_of_ble_eq_true rfl) ?_
  show q_G X mX0_letterFor (q_QM X (q_LA Λr) mX0_letterFor) ((q_LA Λr), 0, 0) σ 0 [(0, .ref (xa X 15)), (1, .int p0), (2, .int p1)] [] _
  unfold f_X0_letterFor
  refine gq_iload_n (i := 1) (pc' := 1) dX0_letterFor_0 rfl rfl ?_
  refine gq_if_ne (pc' := 4) (tgt := 8) dX0_letterFor_1 rfl (by decide) (fun c1 => ?_) (fun c1 => ?_)
  · refine gq_iconst (v := 0) (pc' := 5) dX0_letterFor_4 rfl  (by decide) ?_
    refine gq_goto (pc' := 9) dX0_letterFor_5 (by decide) ?_
    refine gq_sub (l' := [(0, .ref (xa X 15)), (2, .int p1)]) [0, 2] rfl ?_
    exact g_X0_letterFor_J9 σ p1 (0 : Int32)
  · refine gq_iconst (v := 1) (pc' := 9) dX0_letterFor_8 rfl  (by decide) ?_
    refine gq_sub (l' := [(0, .ref (xa X 15)), (2, .int p1)]) [0, 2] rfl ?_
    exact g_X0_letterFor_J9 σ p1 (1 : Int32)
set_option maxRecDepth 100000 in
set_option maxHeartbeats 4000000 in
theorem k_X0_append_L64 {X : q_Cx} {Λr : q_Lay} {rec : Sg → Int64 → Int32 → Rs} (hrec : ∀ (σ : Sg) (x1 : Int64) (x4 : Int32), q_G X mX0_append (q_QM X (q_LA Λr) mX0_append) ((q_LA Λr), 0, 0) σ 64 [(0, .ref (xa X 15)), (1, .long x1), (4, .int x4)] [] (rec σ x1 x4)) (σ : Sg) (x1 : Int64) (x4 : Int32) : q_G X mX0_append (q_QM X (q_LA Λr) mX0_append) ((q_LA Λr), 0, 0) σ 64 [(0, .ref (xa X 15)), (1, .long x1), (4, .int x4)] [] (s_X0_append_L64 rec σ x1 x4) := by
  unfold s_X0_append_L64
  refine gq_iload (i := 2) (pc' := 66) dX0_append_64 rfl rfl ?_
  refine gq_if_lt (pc' := 69) (tgt := 102) dX0_append_66 rfl (by decide) (fun c7 => ?_) (fun c7 => ?_)
  · refine gq_aload_n (i := 0) (pc' := 103) dX0_append_102 rfl rfl ?_
    refine gq_geti (pc' := 106) dX0_append_103 rfl flX0_43 lo_15 rfl ?_
    exact gq_iret dX0_append_106 rfl rfl rfl
  · refine gq_aload_n (i := 0) (pc' := 70) dX0_append_69 rfl rfl ?_
    refine gq_getr (pc' := 73) dX0_append_70 rfl flX0_11 lo_15 rfl ?_
    refine gq_aload_n (i := 0) (pc' := 74) dX0_append_73 rfl rfl ?_
    refine gq_geti (pc' := 77) dX0_append_74 rfl flX0_43 lo_15 rfl ?_
    refine gq_lload_n (i := 1) (pc' := 78) dX0_append_77 rfl rfl ?_
    refine gq_iload (i := 2) (pc' := 80) dX0_append_78 rfl rfl ?_
    refine gq_calli (cs' := 0) (ns' := 0) (pc' := 83) (gq_siteS (Mc := mX0_byteOf) (As := [.long x1, .int x4]) (rest := [.int (σ 15 1), .ref (xa X 16)]) dX0_append_80 lkX0_39 mfX0_byteOf (t_X0_byteOf σ x1 x4) rfl ⟨Nat.le_of_ble_eq_true rfl, Nat.le_of_ble_eq_true rfl⟩ ⟨Nat.le_of_ble_eq_true rfl, Nat.le_of_ble_eq_true rfl⟩ rfl (Nat.le_of_ble_eq_true rfl)) rfl rfl rfl rfl (fun s8 r9 _ => ?_)
    refine gq_callv (cs' := 0) (ns' := 0) (pc' := 86) (gq_siteSN (Mc := mX5_set) (As := [.ref (xa X 16), .int (σ 15 1), .int r9]) (rest := []) dX0_append_83 lkX0_27 mfX5_set (t_X5_set 16 30 lo_16 s8 (σ 15 1) r9) rfl ⟨Nat.le_of_ble_eq_true rfl, Nat.le_of_ble_eq_true rfl⟩ ⟨Nat.le_of_ble_eq_true rfl, Nat.le_of_ble_eq_true rfl⟩ rfl (Nat.le_of_ble_eq_true rfl)) rfl rfl rfl rfl (fun s10 _ _ => ?_)
    refine gq_aload_n (i := 0) (pc' := 87) dX0_append_86 rfl rfl ?_
    refine gq_dup (pc' := 88) dX0_append_87 rfl rfl ?_
    refine gq_geti (pc' := 91) dX0_append_88 rfl flX0_43 lo_15 rfl ?_
    refine gq_iconst (v := 1) (pc' := 92) dX0_append_91 rfl  (by decide) ?_
    refine gq_iadd (pc' := 93) dX0_append_92 rfl ?_
    refine gq_puti (pc' := 96) dX0_append_93 rfl flX0_43 plX0_1 lo_15 rfl rfl rfl ?_
    refine gq_lets (fun s12 => ?_)
    refine gq_iincl (j := 2) (pc' := 99) dX0_append_96 rfl rfl (by decide) (by decide) (fun v13 => gq_sub (l' := [(4, .int v13), (0, .ref (xa X 15)), (1, .long x1)]) [0, 1, 2] rfl ?_)
    refine gq_goto (pc' := 64) dX0_append_99 (by decide) ?_
    refine gq_sub (l' := [(0, .ref (xa X 15)), (1, .long x1), (4, .int v13)]) [1, 2, 0] rfl ?_
    exact hrec s12 x1 v13
set_option maxRecDepth 100000 in
set_option maxHeartbeats 4000000 in
theorem g_X0_append_L64 {X : q_Cx} {Λr : q_Lay} (qn : Nat) : ∀ (σ : Sg) (x1 : Int64) (x4 : Int32), q_G X mX0_append (q_QM X (q_LA Λr) mX0_append) ((q_LA Λr), 0, 0) σ 64 [(0, .ref (xa X 15)), (1, .long x1), (4, .int x4)] [] (f_X0_append_L64 qn σ x1 x4) := by
  induction qn with
  | zero => exact fun σ x1 x4 => gq_none
  | succ qn ih => exact fun σ x1 x4 => k_X0_append_L64 ih σ x1 x4
set_option maxRecDepth 100000 in
set_option maxHeartbeats 4000000 in
theorem k_X0_append_L15 {X : q_Cx} {Λr : q_Lay} {rec : Sg → Int64 → Int32 → Int32 → Rs} (hrec : ∀ (σ : Sg) (x1 : Int64) (x3 : Int32) (x4 : Int32), q_G X mX0_append (q_QM X (q_LA Λr) mX0_append) ((q_LA Λr), 0, 0) σ 15 [(0, .ref (xa X 15)), (1, .long x1), (3, .int x3), (4, .int x4)] [] (rec σ x1 x3 x4)) (σ : Sg) (x1 : Int64) (x3 : Int32) (x4 : Int32) : q_G X mX0_append (q_QM X (q_LA Λr) mX0_append) ((q_LA Λr), 0, 0) σ 15 [(0, .ref (xa X 15)), (1, .long x1), (3, .int x3), (4, .int x4)] [] (s_X0_append_L15 rec σ x1 x3 x4) := by
  unfold s_X0_append_L15
  refine gq_iload (i := 3) (pc' := 17) dX0_append_15 rfl rfl ?_
  refine gq_iload_n (i := 2) (pc' := 18) dX0_append_17 rfl rfl ?_
  refine gq_icmp_ge (pc' := 21) (tgt := 45) dX0_append_18 rfl (by decide) (fun c4 => ?_) (fun c4 => ?_)
  · refine gq_aload_n (i := 0) (pc' := 46) dX0_append_45 rfl rfl ?_
    refine gq_geti (pc' := 49) dX0_append_46 rfl flX0_43 lo_15 rfl ?_
    refine gq_iload_n (i := 2) (pc' := 50) dX0_append_49 rfl rfl ?_
    refine gq_iadd (pc' := 51) dX0_append_50 rfl ?_
    refine gq_bipush (v := 30) (pc' := 53) dX0_append_51 rfl  (by decide) ?_
    refine gq_icmp_le (pc' := 56) (tgt := 59) dX0_append_53 rfl (by decide) (fun c5 => ?_) (fun c5 => ?_)
    · refine gq_iload_n (i := 2) (pc' := 60) dX0_append_59 rfl rfl ?_
      refine gq_iconst (v := 1) (pc' := 61) dX0_append_60 rfl  (by decide) ?_
      refine gq_isub (pc' := 62) dX0_append_61 rfl ?_
      refine gq_let (fun v6 => ?_)
      refine gq_istore (l' := [(4, .int v6), (0, .ref (xa X 15)), (1, .long x1), (3, .int x3)]) (pc' := 64) dX0_append_62 rfl (by decide) rfl ?_
      refine gq_sub (l' := [(0, .ref (xa X 15)), (1, .long x1), (4, .int v6)]) [1, 2, 0] rfl ?_
      exact g_X0_append_L64 1000 σ x1 v6
    · refine gq_bipush (v := -3) (pc' := 58) dX0_append_56 rfl  (by decide) ?_
      exact gq_iret dX0_append_58 rfl rfl rfl
  · refine gq_lload_n (i := 1) (pc' := 22) dX0_append_21 rfl rfl ?_
    refine gq_iload (i := 3) (pc' := 24) dX0_append_22 rfl rfl ?_
    refine gq_calli (cs' := 0) (ns' := 0) (pc' := 27) (gq_siteS (Mc := mX0_byteOf) (As := [.long x1, .int x4]) (rest := []) dX0_append_24 lkX0_39 mfX0_byteOf (t_X0_byteOf σ x1 x4) rfl ⟨Nat.le_of_ble_eq_true rfl, Nat.le_of_ble_eq_true rfl⟩ ⟨Nat.le_of_ble_eq_true rfl, Nat.le_of_ble_eq_true rfl⟩ rfl (Nat.le_of_ble_eq_true rfl)) rfl rfl rfl rfl (fun s14 r15 _ => ?_)
    refine gq_bipush (v := 32) (pc' := 29) dX0_append_27 rfl  (by decide) ?_
    refine gq_bipush (v := 126) (pc' := 31) dX0_append_29 rfl  (by decide) ?_
    refine gq_calli (cs' := 0) (ns' := 0) (pc' := 34) (gq_siteSN (Mc := mX5_within) (As := [.int r15, .int (32 : Int32), .int (126 : Int32)]) (rest := []) dX0_append_31 lkX0_35 mfX5_within (t_X5_within s14 r15 (32 : Int32) (126 : Int32)) rfl ⟨Nat.le_of_ble_eq_true rfl, Nat.le_of_ble_eq_true rfl⟩ ⟨Nat.le_of_ble_eq_true rfl, Nat.le_of_ble_eq_true rfl⟩ rfl (Nat.le_of_ble_eq_true rfl)) rfl rfl rfl rfl (fun s16 r17 _ => ?_)
    refine gq_if_ne (pc' := 37) (tgt := 39) dX0_append_34 rfl (by decide) (fun c18 => ?_) (fun c18 => ?_)
    · refine gq_iconst (v := -1) (pc' := 38) dX0_append_37 rfl  (by decide) ?_
      exact gq_iret dX0_append_38 rfl rfl rfl
    · refine gq_iincl (j := 3) (pc' := 42) dX0_append_39 rfl rfl (by decide) (by decide) (fun v19 => gq_sub (l' := [(4, .int v19), (0, .ref (xa X 15)), (1, .long x1), (3, .int x3)]) [0, 1, 2, 3] rfl ?_)
      refine gq_goto (pc' := 15) dX0_append_42 (by decide) ?_
      refine gq_sub (l' := [(0, .ref (xa X 15)), (1, .long x1), (3, .int x3), (4, .int v19)]) [1, 2, 3, 0] rfl ?_
      exact hrec s16 x1 x3 v19
set_option maxRecDepth 100000 in
set_option maxHeartbeats 4000000 in
theorem g_X0_append_L15 {X : q_Cx} {Λr : q_Lay} (qn : Nat) : ∀ (σ : Sg) (x1 : Int64) (x3 : Int32) (x4 : Int32), q_G X mX0_append (q_QM X (q_LA Λr) mX0_append) ((q_LA Λr), 0, 0) σ 15 [(0, .ref (xa X 15)), (1, .long x1), (3, .int x3), (4, .int x4)] [] (f_X0_append_L15 qn σ x1 x3 x4) := by
  induction qn with
  | zero => exact fun σ x1 x3 x4 => gq_none
  | succ qn ih => exact fun σ x1 x3 x4 => k_X0_append_L15 ih σ x1 x3 x4
set_option maxRecDepth 100000 in
set_option maxHeartbeats 4000000 in
theorem t_X0_append {X : q_Cx} {Λr : q_Lay} (σ : Sg) (p0 : Int64) (p1 : Int32) : q_Ex X mX0_append (q_LA Λr) (q_LA Λr) [.ref (xa X 15), .long p0, .int p1] σ (f_X0_append σ p0 p1) := by
  refine gq_ex mfX0_append (Nat.le_of_ble_eq_true rfl) ?_
  show q_G X mX0_append (q_QM X (q_LA Λr) mX0_append) ((q_LA Λr), 0, 0) σ 0 [(0, .ref (xa X 15)), (1, .long p0), (3, .int p1)] [] _
  unfold f_X0_append
  refine gq_iload_n (i := 2) (pc' := 1) dX0_append_0 rfl rfl ?_
  refine gq_iconst (v := 1) (pc' := 2) dX0_append_1 rfl  (by decide) ?_
  refine gq_bipush (v := 8) (pc' := 4) dX0_append_2 rfl  (by decide) ?_
  refine gq_calli (cs' := 0) (ns' := 0) (pc' := 7) (gq_siteSN (Mc := mX5_within) (As := [.int p1, .int (1 : Int32), .int (8 : Int32)]) (rest := []) dX0_append_4 lkX0_35 mfX5_within (t_X5_within σ p1 (1 : Int32) (8 : Int32)) rfl ⟨Nat.le_of_ble_eq_true rfl, Nat.le_of_ble_eq_true rfl⟩ ⟨Nat.le_of_ble_eq_true rfl, Nat.le_of_ble_eq_true rfl⟩ rfl (Nat.le_of_ble_eq_true rfl)) rfl rfl rfl rfl (fun s1 r2 _ => ?_)
  refine gq_if_ne (pc' := 10) (tgt := 12) dX0_append_7 rfl (by decide) (fun c3 => ?_) (fun c3 => ?_)
  · refine gq_iconst (v := -1) (pc' := 11) dX0_append_10 rfl  (by decide) ?_
    exact gq_iret dX0_append_11 rfl rfl rfl
  · refine gq_iconst (v := 0) (pc' := 13) dX0_append_12 rfl  (by decide) ?_
    refine gq_istore (l' := [(4, .int (0 : Int32)), (0, .ref (xa X 15)), (1, .long p0), (3, .int p1)]) (pc' := 15) dX0_append_13 rfl (by decide) rfl ?_
    refine gq_sub (l' := [(0, .ref (xa X 15)), (1, .long p0), (3, .int p1), (4, .int (0 : Int32))]) [1, 2, 3, 0] rfl ?_
    exact g_X0_append_L15 1000 s1 p0 p1 (0 : Int32)
set_option maxRecDepth 100000 in
set_option maxHeartbeats 4000000 in
theorem t_X0_here {X : q_Cx} {Λr : q_Lay} (σ : Sg) : q_Ex X mX0_here (q_LA Λr) (q_LA Λr) [.ref (xa X 15)] σ (f_X0_here σ) := by
  refine gq_ex mfX0_here (Nat.le_of_ble_eq_true rfl) ?_
  show q_G X mX0_here (q_QM X (q_LA Λr) mX0_here) ((q_LA Λr), 0, 0) σ 0 [(0, .ref (xa X 15))] [] _
  unfold f_X0_here
  refine gq_aload_n (i := 0) (pc' := 1) dX0_here_0 rfl rfl ?_
  refine gq_geti (pc' := 4) dX0_here_1 rfl flX0_49 lo_15 rfl ?_
  refine gq_aload_n (i := 0) (pc' := 5) dX0_here_4 rfl rfl ?_
  refine gq_geti (pc' := 8) dX0_here_5 rfl flX0_43 lo_15 rfl ?_
  refine gq_icmp_ge (pc' := 11) (tgt := 25) dX0_here_8 rfl (by decide) (fun c1 => ?_) (fun c1 => ?_)
  · refine gq_bipush (v := -4) (pc' := 27) dX0_here_25 rfl  (by decide) ?_
    exact gq_iret dX0_here_27 rfl rfl rfl
  · refine gq_aload_n (i := 0) (pc' := 12) dX0_here_11 rfl rfl ?_
    refine gq_getr (pc' := 15) dX0_here_12 rfl flX0_11 lo_15 rfl ?_
    refine gq_aload_n (i := 0) (pc' := 16) dX0_here_15 rfl rfl ?_
    refine gq_geti (pc' := 19) dX0_here_16 rfl flX0_49 lo_15 rfl ?_
    refine gq_calli (cs' := 0) (ns' := 0) (pc' := 22) (gq_siteSN (Mc := mX5_at) (As := [.ref (xa X 16), .int (σ 15 2)]) (rest := []) dX0_here_19 lkX0_31 mfX5_at (t_X5_at 16 30 (Or.inl lo_16) σ (σ 15 2)) rfl ⟨Nat.le_of_ble_eq_true rfl, Nat.le_of_ble_eq_true rfl⟩ ⟨Nat.le_of_ble_eq_true rfl, Nat.le_of_ble_eq_true rfl⟩ rfl (Nat.le_of_ble_eq_true rfl)) rfl rfl rfl rfl (fun s2 r3 _ => ?_)
    refine gq_goto (pc' := 27) dX0_here_22 (by decide) ?_
    exact gq_iret dX0_here_27 rfl rfl rfl
set_option maxRecDepth 100000 in
set_option maxHeartbeats 4000000 in
theorem k_X0_skipBlanks_L0 {X : q_Cx} {Λr : q_Lay} {rec : Sg → Rs} (hrec : ∀ (σ : Sg), q_G X mX0_skipBlanks (q_QM X (q_LA Λr) mX0_skipBlanks) ((q_LA Λr), 0, 0) σ 0 [(0, .ref (xa X 15))] [] (rec σ)) (σ : Sg) : q_G X mX0_skipBlanks (q_QM X (q_LA Λr) mX0_skipBlanks) ((q_LA Λr), 0, 0) σ 0 [(0, .ref (xa X 15))] [] (s_X0_skipBlanks_L0 rec σ) := by
  unfold s_X0_skipBlanks_L0
  refine gq_aload_n (i := 0) (pc' := 1) dX0_skipBlanks_0 rfl rfl ?_
  refine gq_geti (pc' := 4) dX0_skipBlanks_1 rfl flX0_49 lo_15 rfl ?_
  refine gq_aload_n (i := 0) (pc' := 5) dX0_skipBlanks_4 rfl rfl ?_
  refine gq_geti (pc' := 8) dX0_skipBlanks_5 rfl flX0_43 lo_15 rfl ?_
  refine gq_icmp_ge (pc' := 11) (tgt := 33) dX0_skipBlanks_8 rfl (by decide) (fun c1 => ?_) (fun c1 => ?_)
  · exact gq_vret dX0_skipBlanks_33 rfl rfl rfl
  · refine gq_aload_n (i := 0) (pc' := 12) dX0_skipBlanks_11 rfl rfl ?_
    refine gq_calli (cs' := 0) (ns' := 0) (pc' := 15) (gq_siteV (Mc := mX0_here) (As := []) (rest := []) dX0_skipBlanks_12 lkX0_72 mfX0_here (t_X0_here σ) lo_15 rfl rfl ⟨Nat.le_of_ble_eq_true rfl, Nat.le_of_ble_eq_true rfl⟩ ⟨Nat.le_of_ble_eq_true rfl, Nat.le_of_ble_eq_true rfl⟩ rfl (Nat.le_of_ble_eq_true rfl)) rfl rfl rfl rfl (fun s2 r3 _ => ?_)
    refine gq_bipush (v := 32) (pc' := 17) dX0_skipBlanks_15 rfl  (by decide) ?_
    refine gq_icmp_ne (pc' := 20) (tgt := 33) dX0_skipBlanks_17 rfl (by decide) (fun c4 => ?_) (fun c4 => ?_)
    · refine gq_aload_n (i := 0) (pc' := 21) dX0_skipBlanks_20 rfl rfl ?_
      refine gq_dup (pc' := 22) dX0_skipBlanks_21 rfl rfl ?_
      refine gq_geti (pc' := 25) dX0_skipBlanks_22 rfl flX0_49 lo_15 rfl ?_
      refine gq_iconst (v := 1) (pc' := 26) dX0_skipBlanks_25 rfl  (by decide) ?_
      refine gq_iadd (pc' := 27) dX0_skipBlanks_26 rfl ?_
      refine gq_puti (pc' := 30) dX0_skipBlanks_27 rfl flX0_49 plX0_2 lo_15 rfl rfl rfl ?_
      refine gq_lets (fun s5 => ?_)
      refine gq_goto (pc' := 0) dX0_skipBlanks_30 (by decide) ?_
      refine gq_sub (l' := [(0, .ref (xa X 15))]) [0] rfl ?_
      exact hrec s5
    · exact gq_vret dX0_skipBlanks_33 rfl rfl rfl
set_option maxRecDepth 100000 in
set_option maxHeartbeats 4000000 in
theorem g_X0_skipBlanks_L0 {X : q_Cx} {Λr : q_Lay} (qn : Nat) : ∀ (σ : Sg), q_G X mX0_skipBlanks (q_QM X (q_LA Λr) mX0_skipBlanks) ((q_LA Λr), 0, 0) σ 0 [(0, .ref (xa X 15))] [] (f_X0_skipBlanks_L0 qn σ) := by
  induction qn with
  | zero => exact fun σ => gq_none
  | succ qn ih => exact fun σ => k_X0_skipBlanks_L0 ih σ
set_option maxRecDepth 100000 in
set_option maxHeartbeats 4000000 in
theorem t_X0_skipBlanks {X : q_Cx} {Λr : q_Lay} (σ : Sg) : q_Ex X mX0_skipBlanks (q_LA Λr) (q_LA Λr) [.ref (xa X 15)] σ (f_X0_skipBlanks σ) := by
  refine gq_ex mfX0_skipBlanks (Nat.le_of_ble_eq_true rfl) ?_
  show q_G X mX0_skipBlanks (q_QM X (q_LA Λr) mX0_skipBlanks) ((q_LA Λr), 0, 0) σ 0 [(0, .ref (xa X 15))] [] _
  unfold f_X0_skipBlanks
  refine gq_sub (l' := [(0, .ref (xa X 15))]) [0] rfl ?_
  exact g_X0_skipBlanks_L0 1000 σ
set_option maxRecDepth 100000 in
set_option maxHeartbeats 4000000 in
theorem t_X0_atEnd {X : q_Cx} {Λr : q_Lay} (σ : Sg) : q_Ex X mX0_atEnd (q_LA Λr) (q_LA Λr) [.ref (xa X 15)] σ (f_X0_atEnd σ) := by
  refine gq_ex mfX0_atEnd (Nat.le_of_ble_eq_true rfl) ?_
  show q_G X mX0_atEnd (q_QM X (q_LA Λr) mX0_atEnd) ((q_LA Λr), 0, 0) σ 0 [(0, .ref (xa X 15))] [] _
  unfold f_X0_atEnd
  refine gq_aload_n (i := 0) (pc' := 1) dX0_atEnd_0 rfl rfl ?_
  refine gq_callv (cs' := 0) (ns' := 0) (pc' := 4) (gq_siteV (Mc := mX0_skipBlanks) (As := []) (rest := []) dX0_atEnd_1 lkX0_75 mfX0_skipBlanks (t_X0_skipBlanks σ) lo_15 rfl rfl ⟨Nat.le_of_ble_eq_true rfl, Nat.le_of_ble_eq_true rfl⟩ ⟨Nat.le_of_ble_eq_true rfl, Nat.le_of_ble_eq_true rfl⟩ rfl (Nat.le_of_ble_eq_true rfl)) rfl rfl rfl rfl (fun s1 _ _ => ?_)
  refine gq_aload_n (i := 0) (pc' := 5) dX0_atEnd_4 rfl rfl ?_
  refine gq_geti (pc' := 8) dX0_atEnd_5 rfl flX0_49 lo_15 rfl ?_
  refine gq_aload_n (i := 0) (pc' := 9) dX0_atEnd_8 rfl rfl ?_
  refine gq_geti (pc' := 12) dX0_atEnd_9 rfl flX0_43 lo_15 rfl ?_
  refine gq_icmp_lt (pc' := 15) (tgt := 19) dX0_atEnd_12 rfl (by decide) (fun c3 => ?_) (fun c3 => ?_)
  · refine gq_iconst (v := 0) (pc' := 20) dX0_atEnd_19 rfl  (by decide) ?_
    exact gq_zret dX0_atEnd_20 rfl rfl rfl rfl
  · refine gq_iconst (v := 1) (pc' := 16) dX0_atEnd_15 rfl  (by decide) ?_
    refine gq_goto (pc' := 20) dX0_atEnd_16 (by decide) ?_
    exact gq_zret dX0_atEnd_20 rfl rfl rfl rfl
set_option maxRecDepth 100000 in
set_option maxHeartbeats 4000000 in
theorem g_X0_readNumber_J63 {X : q_Cx} {Λr : q_Lay} (σ : Sg) (x1 : Int32) (x2 : Int32) : q_G X mX0_readNumber (q_QM X (q_LA Λr) mX0_readNumber) ((q_LA Λr), 0, 0) σ 63 [(0, .ref (xa X 15)), (1, .int x1), (2, .int x2)] [] (f_X0_readNumber_J63 σ x1 x2) := by
  unfold f_X0_readNumber_J63
  refine gq_aload_n (i := 0) (pc' := 64) dX0_readNumber_63 rfl rfl ?_
  refine gq_geti (pc' := 67) dX0_readNumber_64 rfl flX0_49 lo_15 rfl ?_
  refine gq_iload_n (i := 1) (pc' := 68) dX0_readNumber_67 rfl rfl ?_
  refine gq_icmp_ne (pc' := 71) (tgt := 74) dX0_readNumber_68 rfl (by decide) (fun c3 => ?_) (fun c3 => ?_)
  · refine gq_bipush (v := -4) (pc' := 73) dX0_readNumber_71 rfl  (by decide) ?_
    exact gq_iret dX0_readNumber_73 rfl rfl rfl
  · refine gq_iload_n (i := 2) (pc' := 75) dX0_readNumber_74 rfl rfl ?_
    refine gq_bipush (v := 99) (pc' := 77) dX0_readNumber_75 rfl  (by decide) ?_
    refine gq_icmp_le (pc' := 80) (tgt := 88) dX0_readNumber_77 rfl (by decide) (fun c4 => ?_) (fun c4 => ?_)
    · refine gq_iload_n (i := 2) (pc' := 89) dX0_readNumber_88 rfl rfl ?_
      exact gq_iret dX0_readNumber_89 rfl rfl rfl
    · refine gq_aload_n (i := 0) (pc' := 81) dX0_readNumber_80 rfl rfl ?_
      refine gq_iload_n (i := 1) (pc' := 82) dX0_readNumber_81 rfl rfl ?_
      refine gq_puti (pc' := 85) dX0_readNumber_82 rfl flX0_49 plX0_2 lo_15 rfl rfl rfl ?_
      refine gq_lets (fun s5 => ?_)
      refine gq_bipush (v := -4) (pc' := 87) dX0_readNumber_85 rfl  (by decide) ?_
      exact gq_iret dX0_readNumber_87 rfl rfl rfl
set_option maxRecDepth 100000 in
set_option maxHeartbeats 4000000 in
theorem k_X0_readNumber_L7 {X : q_Cx} {Λr : q_Lay} {rec : Sg → Int32 → Int32 → Rs} (hrec : ∀ (σ : Sg) (x1 : Int32) (x2 : Int32), q_G X mX0_readNumber (q_QM X (q_LA Λr) mX0_readNumber) ((q_LA Λr), 0, 0) σ 7 [(0, .ref (xa X 15)), (1, .int x1), (2, .int x2)] [] (rec σ x1 x2)) (σ : Sg) (x1 : Int32) (x2 : Int32) : q_G X mX0_readNumber (q_QM X (q_LA Λr) mX0_readNumber) ((q_LA Λr), 0, 0) σ 7 [(0, .ref (xa X 15)), (1, .int x1), (2, .int x2)] [] (s_X0_readNumber_L7 rec σ x1 x2) := by
  unfold s_X0_readNumber_L7
  refine gq_aload_n (i := 0) (pc' := 8) dX0_readNumber_7 rfl rfl ?_
  refine gq_geti (pc' := 11) dX0_readNumber_8 rfl flX0_49 lo_15 rfl ?_
  refine gq_aload_n (i := 0) (pc' := 12) dX0_readNumber_11 rfl rfl ?_
  refine gq_geti (pc' := 15) dX0_readNumber_12 rfl flX0_43 lo_15 rfl ?_
  refine gq_icmp_ge (pc' := 18) (tgt := 63) dX0_readNumber_15 rfl (by decide) (fun c2 => ?_) (fun c2 => ?_)
  · refine gq_sub (l' := [(0, .ref (xa X 15)), (1, .int x1), (2, .int x2)]) [0, 1, 2] rfl ?_
    exact g_X0_readNumber_J63 σ x1 x2
  · refine gq_aload_n (i := 0) (pc' := 19) dX0_readNumber_18 rfl rfl ?_
    refine gq_calli (cs' := 0) (ns' := 0) (pc' := 22) (gq_siteV (Mc := mX0_here) (As := []) (rest := []) dX0_readNumber_19 lkX0_72 mfX0_here (t_X0_here σ) lo_15 rfl rfl ⟨Nat.le_of_ble_eq_true rfl, Nat.le_of_ble_eq_true rfl⟩ ⟨Nat.le_of_ble_eq_true rfl, Nat.le_of_ble_eq_true rfl⟩ rfl (Nat.le_of_ble_eq_true rfl)) rfl rfl rfl rfl (fun s6 r7 _ => ?_)
    refine gq_bipush (v := 48) (pc' := 24) dX0_readNumber_22 rfl  (by decide) ?_
    refine gq_bipush (v := 57) (pc' := 26) dX0_readNumber_24 rfl  (by decide) ?_
    refine gq_calli (cs' := 0) (ns' := 0) (pc' := 29) (gq_siteSN (Mc := mX5_within) (As := [.int r7, .int (48 : Int32), .int (57 : Int32)]) (rest := []) dX0_readNumber_26 lkX0_35 mfX5_within (t_X5_within s6 r7 (48 : Int32) (57 : Int32)) rfl ⟨Nat.le_of_ble_eq_true rfl, Nat.le_of_ble_eq_true rfl⟩ ⟨Nat.le_of_ble_eq_true rfl, Nat.le_of_ble_eq_true rfl⟩ rfl (Nat.le_of_ble_eq_true rfl)) rfl rfl rfl rfl (fun s8 r9 _ => ?_)
    refine gq_if_eq (pc' := 32) (tgt := 63) dX0_readNumber_29 rfl (by decide) (fun c10 => ?_) (fun c10 => ?_)
    · refine gq_sub (l' := [(0, .ref (xa X 15)), (1, .int x1), (2, .int x2)]) [0, 1, 2] rfl ?_
      exact g_X0_readNumber_J63 s8 x1 x2
    · refine gq_bipush (v := 100) (pc' := 34) dX0_readNumber_32 rfl  (by decide) ?_
      refine gq_iload_n (i := 2) (pc' := 35) dX0_readNumber_34 rfl rfl ?_
      refine gq_bipush (v := 10) (pc' := 37) dX0_readNumber_35 rfl  (by decide) ?_
      refine gq_imul (pc' := 38) dX0_readNumber_37 rfl ?_
      refine gq_aload_n (i := 0) (pc' := 39) dX0_readNumber_38 rfl rfl ?_
      refine gq_calli (cs' := 0) (ns' := 0) (pc' := 42) (gq_siteV (Mc := mX0_here) (As := []) (rest := [.int (x2 * (10 : Int32)), .int (100 : Int32)]) dX0_readNumber_39 lkX0_72 mfX0_here (t_X0_here s8) lo_15 rfl rfl ⟨Nat.le_of_ble_eq_true rfl, Nat.le_of_ble_eq_true rfl⟩ ⟨Nat.le_of_ble_eq_true rfl, Nat.le_of_ble_eq_true rfl⟩ rfl (Nat.le_of_ble_eq_true rfl)) rfl rfl rfl rfl (fun s11 r12 _ => ?_)
      refine gq_iadd (pc' := 43) dX0_readNumber_42 rfl ?_
      refine gq_bipush (v := 48) (pc' := 45) dX0_readNumber_43 rfl  (by decide) ?_
      refine gq_isub (pc' := 46) dX0_readNumber_45 rfl ?_
      refine gq_mmin (pc' := 49) dX0_readNumber_46 rfl lkX0_81 (Nat.le_of_ble_eq_true rfl) (Nat.le_of_ble_eq_true rfl) (Nat.le_of_ble_eq_true rfl) (Nat.le_of_ble_eq_true rfl) ?_
      refine gq_let (fun v13 => ?_)
      refine gq_istore_n (l' := [(2, .int v13), (0, .ref (xa X 15)), (1, .int x1)]) (pc' := 50) dX0_readNumber_49 rfl (by decide) rfl ?_
      refine gq_aload_n (i := 1) (pc' := 51) dX0_readNumber_50 rfl rfl ?_
      refine gq_dup (pc' := 52) dX0_readNumber_51 rfl rfl ?_
      refine gq_geti (pc' := 55) dX0_readNumber_52 rfl flX0_49 lo_15 rfl ?_
      refine gq_iconst (v := 1) (pc' := 56) dX0_readNumber_55 rfl  (by decide) ?_
      refine gq_iadd (pc' := 57) dX0_readNumber_56 rfl ?_
      refine gq_puti (pc' := 60) dX0_readNumber_57 rfl flX0_49 plX0_2 lo_15 rfl rfl rfl ?_
      refine gq_lets (fun s14 => ?_)
      refine gq_goto (pc' := 7) dX0_readNumber_60 (by decide) ?_
      refine gq_sub (l' := [(0, .ref (xa X 15)), (1, .int x1), (2, .int v13)]) [1, 2, 0] rfl ?_
      exact hrec s14 x1 v13
set_option maxRecDepth 100000 in
set_option maxHeartbeats 4000000 in
theorem g_X0_readNumber_L7 {X : q_Cx} {Λr : q_Lay} (qn : Nat) : ∀ (σ : Sg) (x1 : Int32) (x2 : Int32), q_G X mX0_readNumber (q_QM X (q_LA Λr) mX0_readNumber) ((q_LA Λr), 0, 0) σ 7 [(0, .ref (xa X 15)), (1, .int x1), (2, .int x2)] [] (f_X0_readNumber_L7 qn σ x1 x2) := by
  induction qn with
  | zero => exact fun σ x1 x2 => gq_none
  | succ qn ih => exact fun σ x1 x2 => k_X0_readNumber_L7 ih σ x1 x2
set_option maxRecDepth 100000 in
set_option maxHeartbeats 4000000 in
theorem t_X0_readNumber {X : q_Cx} {Λr : q_Lay} (σ : Sg) : q_Ex X mX0_readNumber (q_LA Λr) (q_LA Λr) [.ref (xa X 15)] σ (f_X0_readNumber σ) := by
  refine gq_ex mfX0_readNumber (Nat.le_of_ble_eq_true rfl) ?_
  show q_G X mX0_readNumber (q_QM X (q_LA Λr) mX0_readNumber) ((q_LA Λr), 0, 0) σ 0 [(0, .ref (xa X 15))] [] _
  unfold f_X0_readNumber
  refine gq_aload_n (i := 0) (pc' := 1) dX0_readNumber_0 rfl rfl ?_
  refine gq_geti (pc' := 4) dX0_readNumber_1 rfl flX0_49 lo_15 rfl ?_
  refine gq_let (fun v1 => ?_)
  refine gq_istore_n (l' := [(1, .int v1), (0, .ref (xa X 15))]) (pc' := 5) dX0_readNumber_4 rfl (by decide) rfl ?_
  refine gq_iconst (v := 0) (pc' := 6) dX0_readNumber_5 rfl  (by decide) ?_
  refine gq_istore_n (l' := [(2, .int (0 : Int32)), (1, .int v1), (0, .ref (xa X 15))]) (pc' := 7) dX0_readNumber_6 rfl (by decide) rfl ?_
  refine gq_sub (l' := [(0, .ref (xa X 15)), (1, .int v1), (2, .int (0 : Int32))]) [2, 1, 0] rfl ?_
  exact g_X0_readNumber_L7 1000 σ v1 (0 : Int32)
set_option maxRecDepth 100000 in
set_option maxHeartbeats 4000000 in
theorem g_X0_readClause_J98 {X : q_Cx} {Λr : q_Lay} (σ : Sg) (x1 : Int32) (x2 : Int32) (x3 : Int32) (y1 : Int32) : q_G X mX0_readClause (q_QM X (q_LA Λr) mX0_readClause) ((q_LA Λr), 0, 0) σ 98 [(0, .ref (xa X 15)), (1, .int x1), (2, .int x2), (3, .int x3)] [.int y1, .ref (xa X 19)] (f_X0_readClause_J98 σ x1 x2 x3 y1) := by
  unfold f_X0_readClause_J98
  refine gq_iload_n (i := 2) (pc' := 99) dX0_readClause_98 rfl rfl ?_
  refine gq_callv (cs' := 0) (ns' := 0) (pc' := 102) (gq_siteSN (Mc := mX5_set) (As := [.ref (xa X 19), .int y1, .int x2]) (rest := []) dX0_readClause_99 lkX0_27 mfX5_set (t_X5_set 19 2 lo_19 σ y1 x2) rfl ⟨Nat.le_of_ble_eq_true rfl, Nat.le_of_ble_eq_true rfl⟩ ⟨Nat.le_of_ble_eq_true rfl, Nat.le_of_ble_eq_true rfl⟩ rfl (Nat.le_of_ble_eq_true rfl)) rfl rfl rfl rfl (fun s19 _ _ => ?_)
  refine gq_aload_n (i := 0) (pc' := 103) dX0_readClause_102 rfl rfl ?_
  refine gq_getr (pc' := 106) dX0_readClause_103 rfl flX0_24 lo_15 rfl ?_
  refine gq_iload_n (i := 1) (pc' := 107) dX0_readClause_106 rfl rfl ?_
  refine gq_bipush (v := 112) (pc' := 109) dX0_readClause_107 rfl  (by decide) ?_
  refine gq_icmp_ne (pc' := 112) (tgt := 116) dX0_readClause_109 rfl (by decide) (fun c21 => ?_) (fun c21 => ?_)
  · refine gq_iconst (v := 0) (pc' := 113) dX0_readClause_112 rfl  (by decide) ?_
    refine gq_goto (pc' := 117) dX0_readClause_113 (by decide) ?_
    refine gq_iload_n (i := 3) (pc' := 118) dX0_readClause_117 rfl rfl ?_
    refine gq_callv (cs' := 0) (ns' := 0) (pc' := 121) (gq_siteSN (Mc := mX5_set) (As := [.ref (xa X 20), .int (0 : Int32), .int x3]) (rest := []) dX0_readClause_118 lkX0_27 mfX5_set (t_X5_set 20 2 lo_20 s19 (0 : Int32) x3) rfl ⟨Nat.le_of_ble_eq_true rfl, Nat.le_of_ble_eq_true rfl⟩ ⟨Nat.le_of_ble_eq_true rfl, Nat.le_of_ble_eq_true rfl⟩ rfl (Nat.le_of_ble_eq_true rfl)) rfl rfl rfl rfl (fun s22 _ _ => ?_)
    refine gq_iconst (v := 1) (pc' := 122) dX0_readClause_121 rfl  (by decide) ?_
    exact gq_zret dX0_readClause_122 rfl rfl rfl rfl
  · refine gq_iconst (v := 1) (pc' := 117) dX0_readClause_116 rfl  (by decide) ?_
    refine gq_iload_n (i := 3) (pc' := 118) dX0_readClause_117 rfl rfl ?_
    refine gq_callv (cs' := 0) (ns' := 0) (pc' := 121) (gq_siteSN (Mc := mX5_set) (As := [.ref (xa X 20), .int (1 : Int32), .int x3]) (rest := []) dX0_readClause_118 lkX0_27 mfX5_set (t_X5_set 20 2 lo_20 s19 (1 : Int32) x3) rfl ⟨Nat.le_of_ble_eq_true rfl, Nat.le_of_ble_eq_true rfl⟩ ⟨Nat.le_of_ble_eq_true rfl, Nat.le_of_ble_eq_true rfl⟩ rfl (Nat.le_of_ble_eq_true rfl)) rfl rfl rfl rfl (fun s24 _ _ => ?_)
    refine gq_iconst (v := 1) (pc' := 122) dX0_readClause_121 rfl  (by decide) ?_
    exact gq_zret dX0_readClause_122 rfl rfl rfl rfl
set_option maxRecDepth 100000 in
set_option maxHeartbeats 4000000 in
theorem g_X0_readClause_J73 {X : q_Cx} {Λr : q_Lay} (σ : Sg) (x1 : Int32) (x2 : Int32) (x3 : Int32) : q_G X mX0_readClause (q_QM X (q_LA Λr) mX0_readClause) ((q_LA Λr), 0, 0) σ 73 [(0, .ref (xa X 15)), (1, .int x1), (2, .int x2), (3, .int x3)] [] (f_X0_readClause_J73 σ x1 x2 x3) := by
  unfold f_X0_readClause_J73
  refine gq_aload_n (i := 0) (pc' := 74) dX0_readClause_73 rfl rfl ?_
  refine gq_dup (pc' := 75) dX0_readClause_74 rfl rfl ?_
  refine gq_geti (pc' := 78) dX0_readClause_75 rfl flX0_49 lo_15 rfl ?_
  refine gq_iconst (v := 1) (pc' := 79) dX0_readClause_78 rfl  (by decide) ?_
  refine gq_iadd (pc' := 80) dX0_readClause_79 rfl ?_
  refine gq_puti (pc' := 83) dX0_readClause_80 rfl flX0_49 plX0_2 lo_15 rfl rfl rfl ?_
  refine gq_lets (fun s17 => ?_)
  refine gq_aload_n (i := 0) (pc' := 84) dX0_readClause_83 rfl rfl ?_
  refine gq_getr (pc' := 87) dX0_readClause_84 rfl flX0_21 lo_15 rfl ?_
  refine gq_iload_n (i := 1) (pc' := 88) dX0_readClause_87 rfl rfl ?_
  refine gq_bipush (v := 112) (pc' := 90) dX0_readClause_88 rfl  (by decide) ?_
  refine gq_icmp_ne (pc' := 93) (tgt := 97) dX0_readClause_90 rfl (by decide) (fun c18 => ?_) (fun c18 => ?_)
  · refine gq_iconst (v := 0) (pc' := 94) dX0_readClause_93 rfl  (by decide) ?_
    refine gq_goto (pc' := 98) dX0_readClause_94 (by decide) ?_
    refine gq_sub (l' := [(0, .ref (xa X 15)), (1, .int x1), (2, .int x2), (3, .int x3)]) [0, 1, 2, 3] rfl ?_
    exact g_X0_readClause_J98 s17 x1 x2 x3 (0 : Int32)
  · refine gq_iconst (v := 1) (pc' := 98) dX0_readClause_97 rfl  (by decide) ?_
    refine gq_sub (l' := [(0, .ref (xa X 15)), (1, .int x1), (2, .int x2), (3, .int x3)]) [0, 1, 2, 3] rfl ?_
    exact g_X0_readClause_J98 s17 x1 x2 x3 (1 : Int32)
set_option maxRecDepth 100000 in
set_option maxHeartbeats 4000000 in
theorem g_X0_readClause_J23 {X : q_Cx} {Λr : q_Lay} (σ : Sg) (x1 : Int32) : q_G X mX0_readClause (q_QM X (q_LA Λr) mX0_readClause) ((q_LA Λr), 0, 0) σ 23 [(0, .ref (xa X 15)), (1, .int x1)] [] (f_X0_readClause_J23 σ x1) := by
  unfold f_X0_readClause_J23
  refine gq_aload_n (i := 0) (pc' := 24) dX0_readClause_23 rfl rfl ?_
  refine gq_dup (pc' := 25) dX0_readClause_24 rfl rfl ?_
  refine gq_geti (pc' := 28) dX0_readClause_25 rfl flX0_49 lo_15 rfl ?_
  refine gq_iconst (v := 1) (pc' := 29) dX0_readClause_28 rfl  (by decide) ?_
  refine gq_iadd (pc' := 30) dX0_readClause_29 rfl ?_
  refine gq_puti (pc' := 33) dX0_readClause_30 rfl flX0_49 plX0_2 lo_15 rfl rfl rfl ?_
  refine gq_lets (fun s6 => ?_)
  refine gq_aload_n (i := 0) (pc' := 34) dX0_readClause_33 rfl rfl ?_
  refine gq_callv (cs' := 0) (ns' := 0) (pc' := 37) (gq_siteV (Mc := mX0_skipBlanks) (As := []) (rest := []) dX0_readClause_34 lkX0_75 mfX0_skipBlanks (t_X0_skipBlanks s6) lo_15 rfl rfl ⟨Nat.le_of_ble_eq_true rfl, Nat.le_of_ble_eq_true rfl⟩ ⟨Nat.le_of_ble_eq_true rfl, Nat.le_of_ble_eq_true rfl⟩ rfl (Nat.le_of_ble_eq_true rfl)) rfl rfl rfl rfl (fun s7 _ _ => ?_)
  refine gq_aload_n (i := 0) (pc' := 38) dX0_readClause_37 rfl rfl ?_
  refine gq_calli (cs' := 0) (ns' := 0) (pc' := 41) (gq_siteV (Mc := mX0_readNumber) (As := []) (rest := []) dX0_readClause_38 lkX0_78 mfX0_readNumber (t_X0_readNumber s7) lo_15 rfl rfl ⟨Nat.le_of_ble_eq_true rfl, Nat.le_of_ble_eq_true rfl⟩ ⟨Nat.le_of_ble_eq_true rfl, Nat.le_of_ble_eq_true rfl⟩ rfl (Nat.le_of_ble_eq_true rfl)) rfl rfl rfl rfl (fun s9 r10 _ => ?_)
  refine gq_istore_n (l' := [(2, .int r10), (0, .ref (xa X 15)), (1, .int x1)]) (pc' := 42) dX0_readClause_41 rfl (by decide) rfl ?_
  refine gq_iload_n (i := 0) (pc' := 43) dX0_readClause_42 rfl rfl ?_
  refine gq_bipush (v := -4) (pc' := 45) dX0_readClause_43 rfl  (by decide) ?_
  refine gq_icmp_ne (pc' := 48) (tgt := 50) dX0_readClause_45 rfl (by decide) (fun c11 => ?_) (fun c11 => ?_)
  · refine gq_iconst (v := 0) (pc' := 49) dX0_readClause_48 rfl  (by decide) ?_
    exact gq_zret dX0_readClause_49 rfl rfl rfl rfl
  · refine gq_aload_n (i := 1) (pc' := 51) dX0_readClause_50 rfl rfl ?_
    refine gq_callv (cs' := 0) (ns' := 0) (pc' := 54) (gq_siteV (Mc := mX0_skipBlanks) (As := []) (rest := []) dX0_readClause_51 lkX0_75 mfX0_skipBlanks (t_X0_skipBlanks s9) lo_15 rfl rfl ⟨Nat.le_of_ble_eq_true rfl, Nat.le_of_ble_eq_true rfl⟩ ⟨Nat.le_of_ble_eq_true rfl, Nat.le_of_ble_eq_true rfl⟩ rfl (Nat.le_of_ble_eq_true rfl)) rfl rfl rfl rfl (fun s12 _ _ => ?_)
    refine gq_aload_n (i := 1) (pc' := 55) dX0_readClause_54 rfl rfl ?_
    refine gq_calli (cs' := 0) (ns' := 0) (pc' := 58) (gq_siteV (Mc := mX0_here) (As := []) (rest := []) dX0_readClause_55 lkX0_72 mfX0_here (t_X0_here s12) lo_15 rfl rfl ⟨Nat.le_of_ble_eq_true rfl, Nat.le_of_ble_eq_true rfl⟩ ⟨Nat.le_of_ble_eq_true rfl, Nat.le_of_ble_eq_true rfl⟩ rfl (Nat.le_of_ble_eq_true rfl)) rfl rfl rfl rfl (fun s14 r15 _ => ?_)
    refine gq_istore_n (l' := [(3, .int r15), (2, .int r10), (0, .ref (xa X 15)), (1, .int x1)]) (pc' := 59) dX0_readClause_58 rfl (by decide) rfl ?_
    refine gq_iload_n (i := 0) (pc' := 60) dX0_readClause_59 rfl rfl ?_
    refine gq_bipush (v := 82) (pc' := 62) dX0_readClause_60 rfl  (by decide) ?_
    refine gq_icmp_eq (pc' := 65) (tgt := 73) dX0_readClause_62 rfl (by decide) (fun c16 => ?_) (fun c16 => ?_)
    · refine gq_sub (l' := [(0, .ref (xa X 15)), (1, .int x1), (2, .int r10), (3, .int r15)]) [2, 3, 1, 0] rfl ?_
      exact g_X0_readClause_J73 s14 x1 r10 r15
    · refine gq_iload_n (i := 0) (pc' := 66) dX0_readClause_65 rfl rfl ?_
      refine gq_bipush (v := 78) (pc' := 68) dX0_readClause_66 rfl  (by decide) ?_
      refine gq_icmp_eq (pc' := 71) (tgt := 73) dX0_readClause_68 rfl (by decide) (fun c26 => ?_) (fun c26 => ?_)
      · refine gq_sub (l' := [(0, .ref (xa X 15)), (1, .int x1), (2, .int r10), (3, .int r15)]) [2, 3, 1, 0] rfl ?_
        exact g_X0_readClause_J73 s14 x1 r10 r15
      · refine gq_iconst (v := 0) (pc' := 72) dX0_readClause_71 rfl  (by decide) ?_
        exact gq_zret dX0_readClause_72 rfl rfl rfl rfl
set_option maxRecDepth 100000 in
set_option maxHeartbeats 4000000 in
theorem t_X0_readClause {X : q_Cx} {Λr : q_Lay} (σ : Sg) : q_Ex X mX0_readClause (q_LA Λr) (q_LA Λr) [.ref (xa X 15)] σ (f_X0_readClause σ) := by
  refine gq_ex mfX0_readClause (Nat.le_of_ble_eq_true rfl) ?_
  show q_G X mX0_readClause (q_QM X (q_LA Λr) mX0_readClause) ((q_LA Λr), 0, 0) σ 0 [(0, .ref (xa X 15))] [] _
  unfold f_X0_readClause
  refine gq_aload_n (i := 0) (pc' := 1) dX0_readClause_0 rfl rfl ?_
  refine gq_callv (cs' := 0) (ns' := 0) (pc' := 4) (gq_siteV (Mc := mX0_skipBlanks) (As := []) (rest := []) dX0_readClause_1 lkX0_75 mfX0_skipBlanks (t_X0_skipBlanks σ) lo_15 rfl rfl ⟨Nat.le_of_ble_eq_true rfl, Nat.le_of_ble_eq_true rfl⟩ ⟨Nat.le_of_ble_eq_true rfl, Nat.le_of_ble_eq_true rfl⟩ rfl (Nat.le_of_ble_eq_true rfl)) rfl rfl rfl rfl (fun s1 _ _ => ?_)
  refine gq_aload_n (i := 0) (pc' := 5) dX0_readClause_4 rfl rfl ?_
  refine gq_calli (cs' := 0) (ns' := 0) (pc' := 8) (gq_siteV (Mc := mX0_here) (As := []) (rest := []) dX0_readClause_5 lkX0_72 mfX0_here (t_X0_here s1) lo_15 rfl rfl ⟨Nat.le_of_ble_eq_true rfl, Nat.le_of_ble_eq_true rfl⟩ ⟨Nat.le_of_ble_eq_true rfl, Nat.le_of_ble_eq_true rfl⟩ rfl (Nat.le_of_ble_eq_true rfl)) rfl rfl rfl rfl (fun s3 r4 _ => ?_)
  refine gq_istore_n (l' := [(1, .int r4), (0, .ref (xa X 15))]) (pc' := 9) dX0_readClause_8 rfl (by decide) rfl ?_
  refine gq_iload_n (i := 0) (pc' := 10) dX0_readClause_9 rfl rfl ?_
  refine gq_bipush (v := 112) (pc' := 12) dX0_readClause_10 rfl  (by decide) ?_
  refine gq_icmp_eq (pc' := 15) (tgt := 23) dX0_readClause_12 rfl (by decide) (fun c5 => ?_) (fun c5 => ?_)
  · refine gq_sub (l' := [(0, .ref (xa X 15)), (1, .int r4)]) [1, 0] rfl ?_
    exact g_X0_readClause_J23 s3 r4
  · refine gq_iload_n (i := 0) (pc' := 16) dX0_readClause_15 rfl rfl ?_
    refine gq_bipush (v := 114) (pc' := 18) dX0_readClause_16 rfl  (by decide) ?_
    refine gq_icmp_eq (pc' := 21) (tgt := 23) dX0_readClause_18 rfl (by decide) (fun c27 => ?_) (fun c27 => ?_)
    · refine gq_sub (l' := [(0, .ref (xa X 15)), (1, .int r4)]) [1, 0] rfl ?_
      exact g_X0_readClause_J23 s3 r4
    · refine gq_iconst (v := 0) (pc' := 22) dX0_readClause_21 rfl  (by decide) ?_
      exact gq_zret dX0_readClause_22 rfl rfl rfl rfl
set_option maxRecDepth 100000 in
set_option maxHeartbeats 4000000 in
theorem t_X0_read {X : q_Cx} {Λr : q_Lay} (σ : Sg) : q_Ex X mX0_read (q_LA Λr) (q_LA Λr) [.ref (xa X 15)] σ (f_X0_read σ) := by
  refine gq_ex mfX0_read (Nat.le_of_ble_eq_true rfl) ?_
  show q_G X mX0_read (q_QM X (q_LA Λr) mX0_read) ((q_LA Λr), 0, 0) σ 0 [(0, .ref (xa X 15))] [] _
  unfold f_X0_read
  refine gq_aload_n (i := 0) (pc' := 1) dX0_read_0 rfl rfl ?_
  refine gq_calli (cs' := 0) (ns' := 0) (pc' := 4) (gq_siteV (Mc := mX0_atEnd) (As := []) (rest := []) dX0_read_1 lkX0_65 mfX0_atEnd (t_X0_atEnd σ) lo_15 rfl rfl ⟨Nat.le_of_ble_eq_true rfl, Nat.le_of_ble_eq_true rfl⟩ ⟨Nat.le_of_ble_eq_true rfl, Nat.le_of_ble_eq_true rfl⟩ rfl (Nat.le_of_ble_eq_true rfl)) rfl rfl rfl rfl (fun s1 r2 _ => ?_)
  refine gq_if_eq (pc' := 7) (tgt := 9) dX0_read_4 rfl (by decide) (fun c3 => ?_) (fun c3 => ?_)
  · refine gq_aload_n (i := 0) (pc' := 10) dX0_read_9 rfl rfl ?_
    refine gq_calli (cs' := 0) (ns' := 0) (pc' := 13) (gq_siteV (Mc := mX0_readClause) (As := []) (rest := []) dX0_read_10 lkX0_69 mfX0_readClause (t_X0_readClause s1) lo_15 rfl rfl ⟨Nat.le_of_ble_eq_true rfl, Nat.le_of_ble_eq_true rfl⟩ ⟨Nat.le_of_ble_eq_true rfl, Nat.le_of_ble_eq_true rfl⟩ rfl (Nat.le_of_ble_eq_true rfl)) rfl rfl rfl rfl (fun s4 r5 _ => ?_)
    refine gq_if_ne (pc' := 16) (tgt := 24) dX0_read_13 rfl (by decide) (fun c6 => ?_) (fun c6 => ?_)
    · refine gq_bipush (v := -20) (pc' := 18) dX0_read_16 rfl  (by decide) ?_
      refine gq_aload_n (i := 0) (pc' := 19) dX0_read_18 rfl rfl ?_
      refine gq_geti (pc' := 22) dX0_read_19 rfl flX0_49 lo_15 rfl ?_
      refine gq_isub (pc' := 23) dX0_read_22 rfl ?_
      exact gq_iret dX0_read_23 rfl rfl rfl
    · refine gq_aload_n (i := 0) (pc' := 25) dX0_read_24 rfl rfl ?_
      refine gq_calli (cs' := 0) (ns' := 0) (pc' := 28) (gq_siteV (Mc := mX0_atEnd) (As := []) (rest := []) dX0_read_25 lkX0_65 mfX0_atEnd (t_X0_atEnd s4) lo_15 rfl rfl ⟨Nat.le_of_ble_eq_true rfl, Nat.le_of_ble_eq_true rfl⟩ ⟨Nat.le_of_ble_eq_true rfl, Nat.le_of_ble_eq_true rfl⟩ rfl (Nat.le_of_ble_eq_true rfl)) rfl rfl rfl rfl (fun s7 r8 _ => ?_)
      refine gq_if_eq (pc' := 31) (tgt := 33) dX0_read_28 rfl (by decide) (fun c9 => ?_) (fun c9 => ?_)
      · refine gq_aload_n (i := 0) (pc' := 34) dX0_read_33 rfl rfl ?_
        refine gq_calli (cs' := 0) (ns' := 0) (pc' := 37) (gq_siteV (Mc := mX0_here) (As := []) (rest := []) dX0_read_34 lkX0_72 mfX0_here (t_X0_here s7) lo_15 rfl rfl ⟨Nat.le_of_ble_eq_true rfl, Nat.le_of_ble_eq_true rfl⟩ ⟨Nat.le_of_ble_eq_true rfl, Nat.le_of_ble_eq_true rfl⟩ rfl (Nat.le_of_ble_eq_true rfl)) rfl rfl rfl rfl (fun s10 r11 _ => ?_)
        refine gq_bipush (v := 59) (pc' := 39) dX0_read_37 rfl  (by decide) ?_
        refine gq_icmp_eq (pc' := 42) (tgt := 50) dX0_read_39 rfl (by decide) (fun c12 => ?_) (fun c12 => ?_)
        · refine gq_aload_n (i := 0) (pc' := 51) dX0_read_50 rfl rfl ?_
          refine gq_dup (pc' := 52) dX0_read_51 rfl rfl ?_
          refine gq_geti (pc' := 55) dX0_read_52 rfl flX0_49 lo_15 rfl ?_
          refine gq_iconst (v := 1) (pc' := 56) dX0_read_55 rfl  (by decide) ?_
          refine gq_iadd (pc' := 57) dX0_read_56 rfl ?_
          refine gq_puti (pc' := 60) dX0_read_57 rfl flX0_49 plX0_2 lo_15 rfl rfl rfl ?_
          refine gq_lets (fun s13 => ?_)
          refine gq_aload_n (i := 0) (pc' := 61) dX0_read_60 rfl rfl ?_
          refine gq_calli (cs' := 0) (ns' := 0) (pc' := 64) (gq_siteV (Mc := mX0_readClause) (As := []) (rest := []) dX0_read_61 lkX0_69 mfX0_readClause (t_X0_readClause s13) lo_15 rfl rfl ⟨Nat.le_of_ble_eq_true rfl, Nat.le_of_ble_eq_true rfl⟩ ⟨Nat.le_of_ble_eq_true rfl, Nat.le_of_ble_eq_true rfl⟩ rfl (Nat.le_of_ble_eq_true rfl)) rfl rfl rfl rfl (fun s14 r15 _ => ?_)
          refine gq_if_eq (pc' := 67) (tgt := 78) dX0_read_64 rfl (by decide) (fun c16 => ?_) (fun c16 => ?_)
          · refine gq_bipush (v := -20) (pc' := 80) dX0_read_78 rfl  (by decide) ?_
            refine gq_aload_n (i := 0) (pc' := 81) dX0_read_80 rfl rfl ?_
            refine gq_geti (pc' := 84) dX0_read_81 rfl flX0_49 lo_15 rfl ?_
            refine gq_isub (pc' := 85) dX0_read_84 rfl ?_
            exact gq_iret dX0_read_85 rfl rfl rfl
          · refine gq_aload_n (i := 0) (pc' := 68) dX0_read_67 rfl rfl ?_
            refine gq_calli (cs' := 0) (ns' := 0) (pc' := 71) (gq_siteV (Mc := mX0_atEnd) (As := []) (rest := []) dX0_read_68 lkX0_65 mfX0_atEnd (t_X0_atEnd s14) lo_15 rfl rfl ⟨Nat.le_of_ble_eq_true rfl, Nat.le_of_ble_eq_true rfl⟩ ⟨Nat.le_of_ble_eq_true rfl, Nat.le_of_ble_eq_true rfl⟩ rfl (Nat.le_of_ble_eq_true rfl)) rfl rfl rfl rfl (fun s17 r18 _ => ?_)
            refine gq_if_eq (pc' := 74) (tgt := 78) dX0_read_71 rfl (by decide) (fun c19 => ?_) (fun c19 => ?_)
            · refine gq_bipush (v := -20) (pc' := 80) dX0_read_78 rfl  (by decide) ?_
              refine gq_aload_n (i := 0) (pc' := 81) dX0_read_80 rfl rfl ?_
              refine gq_geti (pc' := 84) dX0_read_81 rfl flX0_49 lo_15 rfl ?_
              refine gq_isub (pc' := 85) dX0_read_84 rfl ?_
              exact gq_iret dX0_read_85 rfl rfl rfl
            · refine gq_iconst (v := 2) (pc' := 75) dX0_read_74 rfl  (by decide) ?_
              refine gq_goto (pc' := 85) dX0_read_75 (by decide) ?_
              exact gq_iret dX0_read_85 rfl rfl rfl
        · refine gq_bipush (v := -20) (pc' := 44) dX0_read_42 rfl  (by decide) ?_
          refine gq_aload_n (i := 0) (pc' := 45) dX0_read_44 rfl rfl ?_
          refine gq_geti (pc' := 48) dX0_read_45 rfl flX0_49 lo_15 rfl ?_
          refine gq_isub (pc' := 49) dX0_read_48 rfl ?_
          exact gq_iret dX0_read_49 rfl rfl rfl
      · refine gq_iconst (v := 1) (pc' := 32) dX0_read_31 rfl  (by decide) ?_
        exact gq_iret dX0_read_32 rfl rfl rfl
  · refine gq_iconst (v := 0) (pc' := 8) dX0_read_7 rfl  (by decide) ?_
    exact gq_iret dX0_read_8 rfl rfl rfl
set_option maxRecDepth 100000 in
set_option maxHeartbeats 4000000 in
theorem k_X0_adoptDraft_L2 {X : q_Cx} {Λr : q_Lay} {rec : Sg → Int32 → Rs} (hrec : ∀ (σ : Sg) (x1 : Int32), q_G X mX0_adoptDraft (q_QM X (q_LA Λr) mX0_adoptDraft) ((q_LA Λr), 0, 0) σ 2 [(0, .ref (xa X 15)), (1, .int x1)] [] (rec σ x1)) (σ : Sg) (x1 : Int32) : q_G X mX0_adoptDraft (q_QM X (q_LA Λr) mX0_adoptDraft) ((q_LA Λr), 0, 0) σ 2 [(0, .ref (xa X 15)), (1, .int x1)] [] (s_X0_adoptDraft_L2 rec σ x1) := by
  unfold s_X0_adoptDraft_L2
  refine gq_iload_n (i := 1) (pc' := 3) dX0_adoptDraft_2 rfl rfl ?_
  refine gq_iconst (v := 2) (pc' := 4) dX0_adoptDraft_3 rfl  (by decide) ?_
  refine gq_icmp_ge (pc' := 7) (tgt := 45) dX0_adoptDraft_4 rfl (by decide) (fun c1 => ?_) (fun c1 => ?_)
  · exact gq_vret dX0_adoptDraft_45 rfl rfl rfl
  · refine gq_aload_n (i := 0) (pc' := 8) dX0_adoptDraft_7 rfl rfl ?_
    refine gq_getr (pc' := 11) dX0_adoptDraft_8 rfl flX0_15 lo_15 rfl ?_
    refine gq_iload_n (i := 1) (pc' := 12) dX0_adoptDraft_11 rfl rfl ?_
    refine gq_aload_n (i := 0) (pc' := 13) dX0_adoptDraft_12 rfl rfl ?_
    refine gq_getr (pc' := 16) dX0_adoptDraft_13 rfl flX0_21 lo_15 rfl ?_
    refine gq_iload_n (i := 1) (pc' := 17) dX0_adoptDraft_16 rfl rfl ?_
    refine gq_calli (cs' := 0) (ns' := 0) (pc' := 20) (gq_siteSN (Mc := mX5_at) (As := [.ref (xa X 19), .int x1]) (rest := [.int x1, .ref (xa X 17)]) dX0_adoptDraft_17 lkX0_31 mfX5_at (t_X5_at 19 2 (Or.inl lo_19) σ x1) rfl ⟨Nat.le_of_ble_eq_true rfl, Nat.le_of_ble_eq_true rfl⟩ ⟨Nat.le_of_ble_eq_true rfl, Nat.le_of_ble_eq_true rfl⟩ rfl (Nat.le_of_ble_eq_true rfl)) rfl rfl rfl rfl (fun s2 r3 _ => ?_)
    refine gq_callv (cs' := 0) (ns' := 0) (pc' := 23) (gq_siteSN (Mc := mX5_set) (As := [.ref (xa X 17), .int x1, .int r3]) (rest := []) dX0_adoptDraft_20 lkX0_27 mfX5_set (t_X5_set 17 2 lo_17 s2 x1 r3) rfl ⟨Nat.le_of_ble_eq_true rfl, Nat.le_of_ble_eq_true rfl⟩ ⟨Nat.le_of_ble_eq_true rfl, Nat.le_of_ble_eq_true rfl⟩ rfl (Nat.le_of_ble_eq_true rfl)) rfl rfl rfl rfl (fun s4 _ _ => ?_)
    refine gq_aload_n (i := 0) (pc' := 24) dX0_adoptDraft_23 rfl rfl ?_
    refine gq_getr (pc' := 27) dX0_adoptDraft_24 rfl flX0_18 lo_15 rfl ?_
    refine gq_iload_n (i := 1) (pc' := 28) dX0_adoptDraft_27 rfl rfl ?_
    refine gq_aload_n (i := 0) (pc' := 29) dX0_adoptDraft_28 rfl rfl ?_
    refine gq_getr (pc' := 32) dX0_adoptDraft_29 rfl flX0_24 lo_15 rfl ?_
    refine gq_iload_n (i := 1) (pc' := 33) dX0_adoptDraft_32 rfl rfl ?_
    refine gq_calli (cs' := 0) (ns' := 0) (pc' := 36) (gq_siteSN (Mc := mX5_at) (As := [.ref (xa X 20), .int x1]) (rest := [.int x1, .ref (xa X 18)]) dX0_adoptDraft_33 lkX0_31 mfX5_at (t_X5_at 20 2 (Or.inl lo_20) s4 x1) rfl ⟨Nat.le_of_ble_eq_true rfl, Nat.le_of_ble_eq_true rfl⟩ ⟨Nat.le_of_ble_eq_true rfl, Nat.le_of_ble_eq_true rfl⟩ rfl (Nat.le_of_ble_eq_true rfl)) rfl rfl rfl rfl (fun s6 r7 _ => ?_)
    refine gq_callv (cs' := 0) (ns' := 0) (pc' := 39) (gq_siteSN (Mc := mX5_set) (As := [.ref (xa X 18), .int x1, .int r7]) (rest := []) dX0_adoptDraft_36 lkX0_27 mfX5_set (t_X5_set 18 2 lo_18 s6 x1 r7) rfl ⟨Nat.le_of_ble_eq_true rfl, Nat.le_of_ble_eq_true rfl⟩ ⟨Nat.le_of_ble_eq_true rfl, Nat.le_of_ble_eq_true rfl⟩ rfl (Nat.le_of_ble_eq_true rfl)) rfl rfl rfl rfl (fun s8 _ _ => ?_)
    refine gq_iincl (j := 1) (pc' := 42) dX0_adoptDraft_39 rfl rfl (by decide) (by decide) (fun v10 => gq_sub (l' := [(1, .int v10), (0, .ref (xa X 15))]) [0, 1] rfl ?_)
    refine gq_goto (pc' := 2) dX0_adoptDraft_42 (by decide) ?_
    refine gq_sub (l' := [(0, .ref (xa X 15)), (1, .int v10)]) [1, 0] rfl ?_
    exact hrec s8 v10
set_option maxRecDepth 100000 in
set_option maxHeartbeats 4000000 in
theorem g_X0_adoptDraft_L2 {X : q_Cx} {Λr : q_Lay} (qn : Nat) : ∀ (σ : Sg) (x1 : Int32), q_G X mX0_adoptDraft (q_QM X (q_LA Λr) mX0_adoptDraft) ((q_LA Λr), 0, 0) σ 2 [(0, .ref (xa X 15)), (1, .int x1)] [] (f_X0_adoptDraft_L2 qn σ x1) := by
  induction qn with
  | zero => exact fun σ x1 => gq_none
  | succ qn ih => exact fun σ x1 => k_X0_adoptDraft_L2 ih σ x1
set_option maxRecDepth 100000 in
set_option maxHeartbeats 4000000 in
theorem t_X0_adoptDraft {X : q_Cx} {Λr : q_Lay} (σ : Sg) : q_Ex X mX0_adoptDraft (q_LA Λr) (q_LA Λr) [.ref (xa X 15)] σ (f_X0_adoptDraft σ) := by
  refine gq_ex mfX0_adoptDraft (Nat.le_of_ble_eq_true rfl) ?_
  show q_G X mX0_adoptDraft (q_QM X (q_LA Λr) mX0_adoptDraft) ((q_LA Λr), 0, 0) σ 0 [(0, .ref (xa X 15))] [] _
  unfold f_X0_adoptDraft
  refine gq_iconst (v := 0) (pc' := 1) dX0_adoptDraft_0 rfl  (by decide) ?_
  refine gq_istore_n (l' := [(1, .int (0 : Int32)), (0, .ref (xa X 15))]) (pc' := 2) dX0_adoptDraft_1 rfl (by decide) rfl ?_
  refine gq_sub (l' := [(0, .ref (xa X 15)), (1, .int (0 : Int32))]) [1, 0] rfl ?_
  exact g_X0_adoptDraft_L2 1000 σ (0 : Int32)
set_option maxRecDepth 100000 in
set_option maxHeartbeats 4000000 in
theorem t_X0_takeTape {X : q_Cx} {Λr : q_Lay} (σ : Sg) : q_Ex X mX0_takeTape (q_LA Λr) (q_LA Λr) [.ref (xa X 15)] σ (f_X0_takeTape σ) := by
  refine gq_ex mfX0_takeTape (Nat.le_of_ble_eq_true rfl) ?_
  show q_G X mX0_takeTape (q_QM X (q_LA Λr) mX0_takeTape) ((q_LA Λr), 0, 0) σ 0 [(0, .ref (xa X 15))] [] _
  unfold f_X0_takeTape
  refine gq_aload_n (i := 0) (pc' := 1) dX0_takeTape_0 rfl rfl ?_
  refine gq_iconst (v := 0) (pc' := 2) dX0_takeTape_1 rfl  (by decide) ?_
  refine gq_puti (pc' := 5) dX0_takeTape_2 rfl flX0_49 plX0_2 lo_15 rfl rfl rfl ?_
  refine gq_lets (fun s1 => ?_)
  refine gq_aload_n (i := 0) (pc' := 6) dX0_takeTape_5 rfl rfl ?_
  refine gq_getr (pc' := 9) dX0_takeTape_6 rfl flX0_24 lo_15 rfl ?_
  refine gq_bipush (v := -4) (pc' := 11) dX0_takeTape_9 rfl  (by decide) ?_
  refine gq_callv (cs' := 0) (ns' := 0) (pc' := 14) (gq_siteS (Mc := mJ7_fill_53178) (As := [.ref (xa X 20), .int (-4 : Int32)]) (rest := []) dX0_takeTape_11 lkX0_52 mfJ7_fill_53178 (t_J7_fill_53178 20 2 lo_20 s1 (-4 : Int32)) rfl ⟨Nat.le_of_ble_eq_true rfl, Nat.le_of_ble_eq_true rfl⟩ ⟨Nat.le_of_ble_eq_true rfl, Nat.le_of_ble_eq_true rfl⟩ rfl (Nat.le_of_ble_eq_true rfl)) rfl rfl rfl rfl (fun s2 _ _ => ?_)
  refine gq_aload_n (i := 0) (pc' := 15) dX0_takeTape_14 rfl rfl ?_
  refine gq_calli (cs' := 0) (ns' := 0) (pc' := 18) (gq_siteV (Mc := mX0_read) (As := []) (rest := []) dX0_takeTape_15 lkX0_58 mfX0_read (t_X0_read s2) lo_15 rfl rfl ⟨Nat.le_of_ble_eq_true rfl, Nat.le_of_ble_eq_true rfl⟩ ⟨Nat.le_of_ble_eq_true rfl, Nat.le_of_ble_eq_true rfl⟩ rfl (Nat.le_of_ble_eq_true rfl)) rfl rfl rfl rfl (fun s4 r5 _ => ?_)
  refine gq_istore_n (l' := [(1, .int r5), (0, .ref (xa X 15))]) (pc' := 19) dX0_takeTape_18 rfl (by decide) rfl ?_
  refine gq_iload_n (i := 0) (pc' := 20) dX0_takeTape_19 rfl rfl ?_
  refine gq_if_lt (pc' := 23) (tgt := 27) dX0_takeTape_20 rfl (by decide) (fun c6 => ?_) (fun c6 => ?_)
  · refine gq_aload_n (i := 1) (pc' := 28) dX0_takeTape_27 rfl rfl ?_
    refine gq_iconst (v := 0) (pc' := 29) dX0_takeTape_28 rfl  (by decide) ?_
    refine gq_puti (pc' := 32) dX0_takeTape_29 rfl flX0_43 plX0_1 lo_15 rfl rfl rfl ?_
    refine gq_lets (fun s7 => ?_)
    refine gq_iload_n (i := 0) (pc' := 33) dX0_takeTape_32 rfl rfl ?_
    exact gq_iret dX0_takeTape_33 rfl rfl rfl
  · refine gq_aload_n (i := 1) (pc' := 24) dX0_takeTape_23 rfl rfl ?_
    refine gq_callv (cs' := 0) (ns' := 0) (pc' := 27) (gq_siteV (Mc := mX0_adoptDraft) (As := []) (rest := []) dX0_takeTape_24 lkX0_62 mfX0_adoptDraft (t_X0_adoptDraft s4) lo_15 rfl rfl ⟨Nat.le_of_ble_eq_true rfl, Nat.le_of_ble_eq_true rfl⟩ ⟨Nat.le_of_ble_eq_true rfl, Nat.le_of_ble_eq_true rfl⟩ rfl (Nat.le_of_ble_eq_true rfl)) rfl rfl rfl rfl (fun s8 _ _ => ?_)
    refine gq_aload_n (i := 1) (pc' := 28) dX0_takeTape_27 rfl rfl ?_
    refine gq_iconst (v := 0) (pc' := 29) dX0_takeTape_28 rfl  (by decide) ?_
    refine gq_puti (pc' := 32) dX0_takeTape_29 rfl flX0_43 plX0_1 lo_15 rfl rfl rfl ?_
    refine gq_lets (fun s10 => ?_)
    refine gq_iload_n (i := 0) (pc' := 33) dX0_takeTape_32 rfl rfl ?_
    exact gq_iret dX0_takeTape_33 rfl rfl rfl
set_option maxRecDepth 100000 in
set_option maxHeartbeats 4000000 in
theorem t_X4_put {X : q_Cx} {Λr : q_Lay} (σ : Sg) (p0 : Int32) (p1 : Int32) : q_Ex X mX4_put (q_LA Λr) (q_LA Λr) [.ref (xa X 21), .int p0, .int p1] σ (f_X4_put σ p0 p1) := by
  refine gq_ex mfX4_put (Nat.le_of_ble_eq_true rfl) ?_
  show q_G X mX4_put (q_QM X (q_LA Λr) mX4_put) ((q_LA Λr), 0, 0) σ 0 [(0, .ref (xa X 21)), (1, .int p0), (2, .int p1)] [] _
  unfold f_X4_put
  refine gq_aload_n (i := 0) (pc' := 1) dX4_put_0 rfl rfl ?_
  refine gq_getr (pc' := 4) dX4_put_1 rfl flX4_9 lo_21 rfl ?_
  refine gq_iload_n (i := 1) (pc' := 5) dX4_put_4 rfl rfl ?_
  refine gq_calli (cs' := 0) (ns' := 0) (pc' := 8) (gq_siteSN (Mc := mX5_at) (As := [.ref (xa X 22), .int p0]) (rest := []) dX4_put_5 lkX4_21 mfX5_at (t_X5_at 22 8 (Or.inl lo_22) σ p0) rfl ⟨Nat.le_of_ble_eq_true rfl, Nat.le_of_ble_eq_true rfl⟩ ⟨Nat.le_of_ble_eq_true rfl, Nat.le_of_ble_eq_true rfl⟩ rfl (Nat.le_of_ble_eq_true rfl)) rfl rfl rfl rfl (fun s1 r2 _ => ?_)
  refine gq_istore_n (l' := [(3, .int r2), (0, .ref (xa X 21)), (1, .int p0), (2, .int p1)]) (pc' := 9) dX4_put_8 rfl (by decide) rfl ?_
  refine gq_aload_n (i := 1) (pc' := 10) dX4_put_9 rfl rfl ?_
  refine gq_getr (pc' := 13) dX4_put_10 rfl flX4_9 lo_21 rfl ?_
  refine gq_iload_n (i := 2) (pc' := 14) dX4_put_13 rfl rfl ?_
  refine gq_iload_n (i := 3) (pc' := 15) dX4_put_14 rfl rfl ?_
  refine gq_callv (cs' := 0) (ns' := 0) (pc' := 18) (gq_siteSN (Mc := mX5_set) (As := [.ref (xa X 22), .int p0, .int p1]) (rest := []) dX4_put_15 lkX4_25 mfX5_set (t_X5_set 22 8 lo_22 s1 p0 p1) rfl ⟨Nat.le_of_ble_eq_true rfl, Nat.le_of_ble_eq_true rfl⟩ ⟨Nat.le_of_ble_eq_true rfl, Nat.le_of_ble_eq_true rfl⟩ rfl (Nat.le_of_ble_eq_true rfl)) rfl rfl rfl rfl (fun s3 _ _ => ?_)
  refine gq_iload_n (i := 0) (pc' := 19) dX4_put_18 rfl rfl ?_
  exact gq_iret dX4_put_19 rfl rfl rfl
set_option maxRecDepth 100000 in
set_option maxHeartbeats 4000000 in
theorem t_X4_handicapOf {X : q_Cx} {Λr : q_Lay} (σ : Sg) (p0 : Int32) : q_Ex X mX4_handicapOf (q_LA Λr) (q_LA Λr) [.ref (xa X 21), .int p0] σ (f_X4_handicapOf σ p0) := by
  refine gq_ex mfX4_handicapOf (Nat.le_of_ble_eq_true rfl) ?_
  show q_G X mX4_handicapOf (q_QM X (q_LA Λr) mX4_handicapOf) ((q_LA Λr), 0, 0) σ 0 [(0, .ref (xa X 21)), (1, .int p0)] [] _
  unfold f_X4_handicapOf
  refine gq_bipush (v := 20) (pc' := 2) dX4_handicapOf_0 rfl  (by decide) ?_
  refine gq_aload_n (i := 0) (pc' := 3) dX4_handicapOf_2 rfl rfl ?_
  refine gq_getr (pc' := 6) dX4_handicapOf_3 rfl flX4_9 lo_21 rfl ?_
  refine gq_iload_n (i := 1) (pc' := 7) dX4_handicapOf_6 rfl rfl ?_
  refine gq_calli (cs' := 0) (ns' := 0) (pc' := 10) (gq_siteSN (Mc := mX5_at) (As := [.ref (xa X 22), .int p0]) (rest := [.int (20 : Int32)]) dX4_handicapOf_7 lkX4_21 mfX5_at (t_X5_at 22 8 (Or.inl lo_22) σ p0) rfl ⟨Nat.le_of_ble_eq_true rfl, Nat.le_of_ble_eq_true rfl⟩ ⟨Nat.le_of_ble_eq_true rfl, Nat.le_of_ble_eq_true rfl⟩ rfl (Nat.le_of_ble_eq_true rfl)) rfl rfl rfl rfl (fun s1 r2 _ => ?_)
  refine gq_bipush (v := 100) (pc' := 12) dX4_handicapOf_10 rfl  (by decide) ?_
  refine gq_idiv (pc' := 13) dX4_handicapOf_12 rfl (by decide) ?_
  refine gq_isub (pc' := 14) dX4_handicapOf_13 rfl ?_
  exact gq_iret dX4_handicapOf_14 rfl rfl rfl
set_option maxRecDepth 100000 in
set_option maxHeartbeats 4000000 in
theorem t_X4_freeTurnsOfOther {X : q_Cx} {Λr : q_Lay} (σ : Sg) (p0 : Int32) (p1 : Int32) : q_Ex X mX4_freeTurnsOfOther (q_LA Λr) (q_LA Λr) [.ref (xa X 21), .int p0, .int p1] σ (f_X4_freeTurnsOfOther σ p0 p1) := by
  refine gq_ex mfX4_freeTurnsOfOther (Nat.le_of_ble_eq_true rfl) ?_
  show q_G X mX4_freeTurnsOfOther (q_QM X (q_LA Λr) mX4_freeTurnsOfOther) ((q_LA Λr), 0, 0) σ 0 [(0, .ref (xa X 21)), (1, .int p0), (2, .int p1)] [] _
  unfold f_X4_freeTurnsOfOther
  refine gq_aload_n (i := 0) (pc' := 1) dX4_freeTurnsOfOther_0 rfl rfl ?_
  refine gq_iload_n (i := 2) (pc' := 2) dX4_freeTurnsOfOther_1 rfl rfl ?_
  refine gq_calli (cs' := 0) (ns' := 0) (pc' := 5) (gq_siteV (Mc := mX4_handicapOf) (As := [.int p1]) (rest := []) dX4_freeTurnsOfOther_2 lkX4_29 mfX4_handicapOf (t_X4_handicapOf σ p1) lo_21 rfl rfl ⟨Nat.le_of_ble_eq_true rfl, Nat.le_of_ble_eq_true rfl⟩ ⟨Nat.le_of_ble_eq_true rfl, Nat.le_of_ble_eq_true rfl⟩ rfl (Nat.le_of_ble_eq_true rfl)) rfl rfl rfl rfl (fun s1 r2 _ => ?_)
  refine gq_aload_n (i := 0) (pc' := 6) dX4_freeTurnsOfOther_5 rfl rfl ?_
  refine gq_iload_n (i := 1) (pc' := 7) dX4_freeTurnsOfOther_6 rfl rfl ?_
  refine gq_calli (cs' := 0) (ns' := 0) (pc' := 10) (gq_siteV (Mc := mX4_handicapOf) (As := [.int p0]) (rest := [.int r2]) dX4_freeTurnsOfOther_7 lkX4_29 mfX4_handicapOf (t_X4_handicapOf s1 p0) lo_21 rfl rfl ⟨Nat.le_of_ble_eq_true rfl, Nat.le_of_ble_eq_true rfl⟩ ⟨Nat.le_of_ble_eq_true rfl, Nat.le_of_ble_eq_true rfl⟩ rfl (Nat.le_of_ble_eq_true rfl)) rfl rfl rfl rfl (fun s3 r4 _ => ?_)
  refine gq_isub (pc' := 11) dX4_freeTurnsOfOther_10 rfl ?_
  refine gq_let (fun v5 => ?_)
  refine gq_istore_n (l' := [(3, .int v5), (0, .ref (xa X 21)), (1, .int p0), (2, .int p1)]) (pc' := 12) dX4_freeTurnsOfOther_11 rfl (by decide) rfl ?_
  refine gq_iload_n (i := 0) (pc' := 13) dX4_freeTurnsOfOther_12 rfl rfl ?_
  refine gq_mabs (pc' := 16) dX4_freeTurnsOfOther_13 rfl lkX4_33 (Nat.le_of_ble_eq_true rfl) (Nat.le_of_ble_eq_true rfl) (Nat.le_of_ble_eq_true rfl) (Nat.le_of_ble_eq_true rfl) ?_
  refine gq_let (fun v6 => ?_)
  refine gq_iconst (v := 1) (pc' := 17) dX4_freeTurnsOfOther_16 rfl  (by decide) ?_
  refine gq_iadd (pc' := 18) dX4_freeTurnsOfOther_17 rfl ?_
  refine gq_iconst (v := 2) (pc' := 19) dX4_freeTurnsOfOther_18 rfl  (by decide) ?_
  refine gq_idiv (pc' := 20) dX4_freeTurnsOfOther_19 rfl (by decide) ?_
  refine gq_let (fun v7 => ?_)
  refine gq_istore (l' := [(4, .int v7), (3, .int v5), (0, .ref (xa X 21)), (1, .int p0), (2, .int p1)]) (pc' := 22) dX4_freeTurnsOfOther_20 rfl (by decide) rfl ?_
  refine gq_iload_n (i := 1) (pc' := 23) dX4_freeTurnsOfOther_22 rfl rfl ?_
  refine gq_if_ge (pc' := 26) (tgt := 32) dX4_freeTurnsOfOther_23 rfl (by decide) (fun c8 => ?_) (fun c8 => ?_)
  · refine gq_iload (i := 0) (pc' := 34) dX4_freeTurnsOfOther_32 rfl rfl ?_
    exact gq_iret dX4_freeTurnsOfOther_34 rfl rfl rfl
  · refine gq_iload (i := 0) (pc' := 28) dX4_freeTurnsOfOther_26 rfl rfl ?_
    refine gq_ineg (pc' := 29) dX4_freeTurnsOfOther_28 rfl ?_
    refine gq_goto (pc' := 34) dX4_freeTurnsOfOther_29 (by decide) ?_
    exact gq_iret dX4_freeTurnsOfOther_34 rfl rfl rfl
end
section
-- GENERATED by wip/p23/gen.py: the walks
set_option maxRecDepth 100000 in
set_option maxHeartbeats 4000000 in
theorem t_X2_begin {X : q_Cx} {Λr : q_Lay} (σ : Sg) (p0 : Int32) (p1 : Int32) (p2 : Int32) (p3 : Int32) : q_Ex X mX2_begin (q_LA Λr) (q_LA Λr) [.ref (xa X 1), .int p0, .int p1, .int p2, .int p3] σ (f_X2_begin σ p0 p1 p2 p3) := by
  refine gq_ex mfX2_begin (Nat.le_of_ble_eq_true rfl) ?_
  show q_G X mX2_begin (q_QM X (q_LA Λr) mX2_begin) ((q_LA Λr), 0, 0) σ 0 [(0, .ref (xa X 1)), (1, .int p0), (2, .int p1), (3, .int p2), (4, .int p3)] [] _
  unfold f_X2_begin
  refine gq_aload_n (i := 0) (pc' := 1) dX2_begin_0 rfl rfl ?_
  refine gq_getr (pc' := 4) dX2_begin_1 rfl flX2_30 lo_1 rfl ?_
  refine gq_iconst (v := 0) (pc' := 5) dX2_begin_4 rfl  (by decide) ?_
  refine gq_iload_n (i := 1) (pc' := 6) dX2_begin_5 rfl rfl ?_
  refine gq_callv (cs' := 0) (ns' := 0) (pc' := 9) (gq_siteSN (Mc := mX5_set) (As := [.ref (xa X 8), .int (0 : Int32), .int p0]) (rest := []) dX2_begin_6 lkX2_43 mfX5_set (t_X5_set 8 2 lo_8 σ (0 : Int32) p0) rfl ⟨Nat.le_of_ble_eq_true rfl, Nat.le_of_ble_eq_true rfl⟩ ⟨Nat.le_of_ble_eq_true rfl, Nat.le_of_ble_eq_true rfl⟩ rfl (Nat.le_of_ble_eq_true rfl)) rfl rfl rfl rfl (fun s1 _ _ => ?_)
  refine gq_aload_n (i := 0) (pc' := 10) dX2_begin_9 rfl rfl ?_
  refine gq_getr (pc' := 13) dX2_begin_10 rfl flX2_30 lo_1 rfl ?_
  refine gq_iconst (v := 1) (pc' := 14) dX2_begin_13 rfl  (by decide) ?_
  refine gq_iload_n (i := 2) (pc' := 15) dX2_begin_14 rfl rfl ?_
  refine gq_callv (cs' := 0) (ns' := 0) (pc' := 18) (gq_siteSN (Mc := mX5_set) (As := [.ref (xa X 8), .int (1 : Int32), .int p1]) (rest := []) dX2_begin_15 lkX2_43 mfX5_set (t_X5_set 8 2 lo_8 s1 (1 : Int32) p1) rfl ⟨Nat.le_of_ble_eq_true rfl, Nat.le_of_ble_eq_true rfl⟩ ⟨Nat.le_of_ble_eq_true rfl, Nat.le_of_ble_eq_true rfl⟩ rfl (Nat.le_of_ble_eq_true rfl)) rfl rfl rfl rfl (fun s3 _ _ => ?_)
  refine gq_aload_n (i := 0) (pc' := 19) dX2_begin_18 rfl rfl ?_
  refine gq_iload_n (i := 3) (pc' := 20) dX2_begin_19 rfl rfl ?_
  refine gq_puti (pc' := 23) dX2_begin_20 rfl flX2_47 plX2_11 lo_1 rfl rfl rfl ?_
  refine gq_lets (fun s5 => ?_)
  refine gq_aload_n (i := 0) (pc' := 24) dX2_begin_23 rfl rfl ?_
  refine gq_iload (i := 4) (pc' := 26) dX2_begin_24 rfl rfl ?_
  refine gq_puti (pc' := 29) dX2_begin_26 rfl flX2_51 plX2_12 lo_1 rfl rfl rfl ?_
  refine gq_lets (fun s6 => ?_)
  refine gq_aload_n (i := 0) (pc' := 30) dX2_begin_29 rfl rfl ?_
  refine gq_iconst (v := 1) (pc' := 31) dX2_begin_30 rfl  (by decide) ?_
  refine gq_puti (pc' := 34) dX2_begin_31 rfl flX2_54 plX2_9 lo_1 rfl rfl rfl ?_
  refine gq_lets (fun s7 => ?_)
  refine gq_aload_n (i := 0) (pc' := 35) dX2_begin_34 rfl rfl ?_
  refine gq_iconst (v := 0) (pc' := 36) dX2_begin_35 rfl  (by decide) ?_
  refine gq_puti (pc' := 39) dX2_begin_36 rfl flX2_58 plX2_10 lo_1 rfl rfl rfl ?_
  refine gq_lets (fun s8 => ?_)
  refine gq_aload_n (i := 0) (pc' := 40) dX2_begin_39 rfl rfl ?_
  refine gq_getr (pc' := 43) dX2_begin_40 rfl flX2_27 lo_1 rfl ?_
  refine gq_iconst (v := 0) (pc' := 44) dX2_begin_43 rfl  (by decide) ?_
  refine gq_iconst (v := 0) (pc' := 45) dX2_begin_44 rfl  (by decide) ?_
  refine gq_callv (cs' := 0) (ns' := 0) (pc' := 48) (gq_siteSN (Mc := mX5_set) (As := [.ref (xa X 7), .int (0 : Int32), .int (0 : Int32)]) (rest := []) dX2_begin_45 lkX2_43 mfX5_set (t_X5_set 7 151 lo_7 s8 (0 : Int32) (0 : Int32)) rfl ⟨Nat.le_of_ble_eq_true rfl, Nat.le_of_ble_eq_true rfl⟩ ⟨Nat.le_of_ble_eq_true rfl, Nat.le_of_ble_eq_true rfl⟩ rfl (Nat.le_of_ble_eq_true rfl)) rfl rfl rfl rfl (fun s9 _ _ => ?_)
  refine gq_aload_n (i := 0) (pc' := 49) dX2_begin_48 rfl rfl ?_
  refine gq_getr (pc' := 52) dX2_begin_49 rfl flX2_36 lo_1 rfl ?_
  refine gq_aload_n (i := 0) (pc' := 53) dX2_begin_52 rfl rfl ?_
  refine gq_geti (pc' := 56) dX2_begin_53 rfl flX2_47 lo_1 rfl ?_
  refine gq_aload_n (i := 0) (pc' := 57) dX2_begin_56 rfl rfl ?_
  refine gq_geti (pc' := 60) dX2_begin_57 rfl flX2_51 lo_1 rfl ?_
  refine gq_callv (cs' := 0) (ns' := 0) (pc' := 63) (gq_siteV (Mc := mX3_begin) (As := [.int (s9 1 11), .int (s9 1 12)]) (rest := []) dX2_begin_60 lkX2_61 mfX3_begin (t_X3_begin 9 (Or.inl rfl) s9 (s9 1 11) (s9 1 12)) lo_9 rfl rfl ⟨Nat.le_of_ble_eq_true rfl, Nat.le_of_ble_eq_true rfl⟩ ⟨Nat.le_of_ble_eq_true rfl, Nat.le_of_ble_eq_true rfl⟩ rfl (Nat.le_of_ble_eq_true rfl)) rfl rfl rfl rfl (fun s11 _ _ => ?_)
  exact gq_vret dX2_begin_63 rfl rfl rfl
set_option maxRecDepth 100000 in
set_option maxHeartbeats 4000000 in
theorem t_X2_noteStriker {X : q_Cx} {Λr : q_Lay} (σ : Sg) (p0 : Int32) : q_Ex X mX2_noteStriker (q_LA Λr) (q_LA Λr) [.ref (xa X 1), .int p0] σ (f_X2_noteStriker σ p0) := by
  refine gq_ex mfX2_noteStriker (Nat.le_of_ble_eq_true rfl) ?_
  show q_G X mX2_noteStriker (q_QM X (q_LA Λr) mX2_noteStriker) ((q_LA Λr), 0, 0) σ 0 [(0, .ref (xa X 1)), (1, .int p0)] [] _
  unfold f_X2_noteStriker
  refine gq_aload_n (i := 0) (pc' := 1) dX2_noteStriker_0 rfl rfl ?_
  refine gq_getr (pc' := 4) dX2_noteStriker_1 rfl flX2_18 lo_1 rfl ?_
  refine gq_iload_n (i := 1) (pc' := 5) dX2_noteStriker_4 rfl rfl ?_
  refine gq_aload_n (i := 0) (pc' := 6) dX2_noteStriker_5 rfl rfl ?_
  refine gq_getr (pc' := 9) dX2_noteStriker_6 rfl flX2_36 lo_1 rfl ?_
  refine gq_calli (cs' := 0) (ns' := 0) (pc' := 12) (gq_siteV (Mc := mX3_inPlay) (As := []) (rest := [.int p0, .ref (xa X 4)]) dX2_noteStriker_9 lkX2_91 mfX3_inPlay (t_X3_inPlay 9 (Or.inl rfl) σ) lo_9 rfl rfl ⟨Nat.le_of_ble_eq_true rfl, Nat.le_of_ble_eq_true rfl⟩ ⟨Nat.le_of_ble_eq_true rfl, Nat.le_of_ble_eq_true rfl⟩ rfl (Nat.le_of_ble_eq_true rfl)) rfl rfl rfl rfl (fun s1 r2 _ => ?_)
  refine gq_callv (cs' := 0) (ns' := 0) (pc' := 15) (gq_siteSN (Mc := mX5_set) (As := [.ref (xa X 4), .int p0, .int r2]) (rest := []) dX2_noteStriker_12 lkX2_43 mfX5_set (t_X5_set 4 150 lo_4 s1 p0 r2) rfl ⟨Nat.le_of_ble_eq_true rfl, Nat.le_of_ble_eq_true rfl⟩ ⟨Nat.le_of_ble_eq_true rfl, Nat.le_of_ble_eq_true rfl⟩ rfl (Nat.le_of_ble_eq_true rfl)) rfl rfl rfl rfl (fun s3 _ _ => ?_)
  refine gq_aload_n (i := 0) (pc' := 16) dX2_noteStriker_15 rfl rfl ?_
  refine gq_getr (pc' := 19) dX2_noteStriker_16 rfl flX2_21 lo_1 rfl ?_
  refine gq_iload_n (i := 1) (pc' := 20) dX2_noteStriker_19 rfl rfl ?_
  refine gq_aload_n (i := 0) (pc' := 21) dX2_noteStriker_20 rfl rfl ?_
  refine gq_getr (pc' := 24) dX2_noteStriker_21 rfl flX2_36 lo_1 rfl ?_
  refine gq_calli (cs' := 0) (ns' := 0) (pc' := 27) (gq_siteV (Mc := mX3_side) (As := []) (rest := [.int p0, .ref (xa X 5)]) dX2_noteStriker_24 lkX2_94 mfX3_side (t_X3_side 9 (Or.inl rfl) s3) lo_9 rfl rfl ⟨Nat.le_of_ble_eq_true rfl, Nat.le_of_ble_eq_true rfl⟩ ⟨Nat.le_of_ble_eq_true rfl, Nat.le_of_ble_eq_true rfl⟩ rfl (Nat.le_of_ble_eq_true rfl)) rfl rfl rfl rfl (fun s5 r6 _ => ?_)
  refine gq_callv (cs' := 0) (ns' := 0) (pc' := 30) (gq_siteSN (Mc := mX5_set) (As := [.ref (xa X 5), .int p0, .int r6]) (rest := []) dX2_noteStriker_27 lkX2_43 mfX5_set (t_X5_set 5 150 lo_5 s5 p0 r6) rfl ⟨Nat.le_of_ble_eq_true rfl, Nat.le_of_ble_eq_true rfl⟩ ⟨Nat.le_of_ble_eq_true rfl, Nat.le_of_ble_eq_true rfl⟩ rfl (Nat.le_of_ble_eq_true rfl)) rfl rfl rfl rfl (fun s7 _ _ => ?_)
  exact gq_vret dX2_noteStriker_30 rfl rfl rfl
set_option maxRecDepth 100000 in
set_option maxHeartbeats 4000000 in
theorem g_X2_take_J116 {X : q_Cx} {Λr : q_Lay} (σ : Sg) (x3 : Int32) : q_G X mX2_take (q_QM X (q_LA Λr) mX2_take) ((q_LA Λr), 0, 0) σ 116 [(0, .ref (xa X 1)), (3, .int x3)] [] (f_X2_take_J116 σ x3) := by
  unfold f_X2_take_J116
  refine gq_aload_n (i := 0) (pc' := 117) dX2_take_116 rfl rfl ?_
  refine gq_iload_n (i := 1) (pc' := 118) dX2_take_117 rfl rfl ?_
  refine gq_iconst (v := 1) (pc' := 119) dX2_take_118 rfl  (by decide) ?_
  refine gq_iadd (pc' := 120) dX2_take_119 rfl ?_
  refine gq_puti (pc' := 123) dX2_take_120 rfl flX2_58 plX2_10 lo_1 rfl rfl rfl ?_
  refine gq_lets (fun s26 => ?_)
  refine gq_aload_n (i := 0) (pc' := 124) dX2_take_123 rfl rfl ?_
  refine gq_getr (pc' := 127) dX2_take_124 rfl flX2_27 lo_1 rfl ?_
  refine gq_aload_n (i := 0) (pc' := 128) dX2_take_127 rfl rfl ?_
  refine gq_geti (pc' := 131) dX2_take_128 rfl flX2_58 lo_1 rfl ?_
  refine gq_iconst (v := 0) (pc' := 132) dX2_take_131 rfl  (by decide) ?_
  refine gq_callv (cs' := 0) (ns' := 0) (pc' := 135) (gq_siteSN (Mc := mX5_set) (As := [.ref (xa X 7), .int (s26 1 10), .int (0 : Int32)]) (rest := []) dX2_take_132 lkX2_43 mfX5_set (t_X5_set 7 151 lo_7 s26 (s26 1 10) (0 : Int32)) rfl ⟨Nat.le_of_ble_eq_true rfl, Nat.le_of_ble_eq_true rfl⟩ ⟨Nat.le_of_ble_eq_true rfl, Nat.le_of_ble_eq_true rfl⟩ rfl (Nat.le_of_ble_eq_true rfl)) rfl rfl rfl rfl (fun s27 _ _ => ?_)
  refine gq_iload_n (i := 1) (pc' := 136) dX2_take_135 rfl rfl ?_
  exact gq_iret dX2_take_136 rfl rfl rfl
set_option maxRecDepth 100000 in
set_option maxHeartbeats 4000000 in
theorem g_X2_take_J95 {X : q_Cx} {Λr : q_Lay} (σ : Sg) (x1 : Int32) (x2 : Int32) (x3 : Int32) : q_G X mX2_take (q_QM X (q_LA Λr) mX2_take) ((q_LA Λr), 0, 0) σ 95 [(0, .ref (xa X 1)), (1, .int x1), (2, .int x2), (3, .int x3)] [] (f_X2_take_J95 σ x1 x2 x3) := by
  unfold f_X2_take_J95
  refine gq_aload_n (i := 0) (pc' := 96) dX2_take_95 rfl rfl ?_
  refine gq_getr (pc' := 99) dX2_take_96 rfl flX2_36 lo_1 rfl ?_
  refine gq_iload_n (i := 1) (pc' := 100) dX2_take_99 rfl rfl ?_
  refine gq_iload_n (i := 2) (pc' := 101) dX2_take_100 rfl rfl ?_
  refine gq_callv (cs' := 0) (ns' := 0) (pc' := 104) (gq_siteV (Mc := mX3_lead) (As := [.int x1, .int x2]) (rest := []) dX2_take_101 lkX2_88 mfX3_lead (t_X3_lead 9 (Or.inl rfl) σ x1 x2) lo_9 rfl rfl ⟨Nat.le_of_ble_eq_true rfl, Nat.le_of_ble_eq_true rfl⟩ ⟨Nat.le_of_ble_eq_true rfl, Nat.le_of_ble_eq_true rfl⟩ rfl (Nat.le_of_ble_eq_true rfl)) rfl rfl rfl rfl (fun s21 _ _ => ?_)
  refine gq_iload_n (i := 1) (pc' := 105) dX2_take_104 rfl rfl ?_
  refine gq_calli (cs' := 0) (ns' := 0) (pc' := 108) (gq_siteS (Mc := mX2_begins) (As := [.int x1]) (rest := []) dX2_take_105 lkX2_80 mfX2_begins (t_X2_begins s21 x1) rfl ⟨Nat.le_of_ble_eq_true rfl, Nat.le_of_ble_eq_true rfl⟩ ⟨Nat.le_of_ble_eq_true rfl, Nat.le_of_ble_eq_true rfl⟩ rfl (Nat.le_of_ble_eq_true rfl)) rfl rfl rfl rfl (fun s23 r24 _ => ?_)
  refine gq_if_eq (pc' := 111) (tgt := 116) dX2_take_108 rfl (by decide) (fun c25 => ?_) (fun c25 => ?_)
  · refine gq_sub (l' := [(0, .ref (xa X 1)), (3, .int x3)]) [0, 3] rfl ?_
    exact g_X2_take_J116 s23 x3
  · refine gq_aload_n (i := 0) (pc' := 112) dX2_take_111 rfl rfl ?_
    refine gq_iload_n (i := 3) (pc' := 113) dX2_take_112 rfl rfl ?_
    refine gq_callv (cs' := 0) (ns' := 0) (pc' := 116) (gq_siteV (Mc := mX2_noteStriker) (As := [.int x3]) (rest := []) dX2_take_113 lkX2_84 mfX2_noteStriker (t_X2_noteStriker s23 x3) lo_1 rfl rfl ⟨Nat.le_of_ble_eq_true rfl, Nat.le_of_ble_eq_true rfl⟩ ⟨Nat.le_of_ble_eq_true rfl, Nat.le_of_ble_eq_true rfl⟩ rfl (Nat.le_of_ble_eq_true rfl)) rfl rfl rfl rfl (fun s29 _ _ => ?_)
    refine gq_sub (l' := [(0, .ref (xa X 1)), (3, .int x3)]) [0, 3] rfl ?_
    exact g_X2_take_J116 s29 x3
set_option maxRecDepth 100000 in
set_option maxHeartbeats 4000000 in
theorem g_X2_take_J80 {X : q_Cx} {Λr : q_Lay} (σ : Sg) (x1 : Int32) (x2 : Int32) (x3 : Int32) (y1 : Int32) (y2 : Int32) : q_G X mX2_take (q_QM X (q_LA Λr) mX2_take) ((q_LA Λr), 0, 0) σ 80 [(0, .ref (xa X 1)), (1, .int x1), (2, .int x2), (3, .int x3)] [.int y2, .int y1, .ref (xa X 6)] (f_X2_take_J80 σ x1 x2 x3 y1 y2) := by
  unfold f_X2_take_J80
  refine gq_callv (cs' := 0) (ns' := 0) (pc' := 83) (gq_siteSN (Mc := mX5_set) (As := [.ref (xa X 6), .int y1, .int y2]) (rest := []) dX2_take_80 lkX2_43 mfX5_set (t_X5_set 6 150 lo_6 σ y1 y2) rfl ⟨Nat.le_of_ble_eq_true rfl, Nat.le_of_ble_eq_true rfl⟩ ⟨Nat.le_of_ble_eq_true rfl, Nat.le_of_ble_eq_true rfl⟩ rfl (Nat.le_of_ble_eq_true rfl)) rfl rfl rfl rfl (fun s14 _ _ => ?_)
  refine gq_iload_n (i := 1) (pc' := 84) dX2_take_83 rfl rfl ?_
  refine gq_calli (cs' := 0) (ns' := 0) (pc' := 87) (gq_siteS (Mc := mX2_begins) (As := [.int x1]) (rest := []) dX2_take_84 lkX2_80 mfX2_begins (t_X2_begins s14 x1) rfl ⟨Nat.le_of_ble_eq_true rfl, Nat.le_of_ble_eq_true rfl⟩ ⟨Nat.le_of_ble_eq_true rfl, Nat.le_of_ble_eq_true rfl⟩ rfl (Nat.le_of_ble_eq_true rfl)) rfl rfl rfl rfl (fun s16 r17 _ => ?_)
  refine gq_if_ne (pc' := 90) (tgt := 95) dX2_take_87 rfl (by decide) (fun c18 => ?_) (fun c18 => ?_)
  · refine gq_aload_n (i := 0) (pc' := 91) dX2_take_90 rfl rfl ?_
    refine gq_iload_n (i := 3) (pc' := 92) dX2_take_91 rfl rfl ?_
    refine gq_callv (cs' := 0) (ns' := 0) (pc' := 95) (gq_siteV (Mc := mX2_noteStriker) (As := [.int x3]) (rest := []) dX2_take_92 lkX2_84 mfX2_noteStriker (t_X2_noteStriker s16 x3) lo_1 rfl rfl ⟨Nat.le_of_ble_eq_true rfl, Nat.le_of_ble_eq_true rfl⟩ ⟨Nat.le_of_ble_eq_true rfl, Nat.le_of_ble_eq_true rfl⟩ rfl (Nat.le_of_ble_eq_true rfl)) rfl rfl rfl rfl (fun s19 _ _ => ?_)
    refine gq_sub (l' := [(0, .ref (xa X 1)), (1, .int x1), (2, .int x2), (3, .int x3)]) [0, 1, 2, 3] rfl ?_
    exact g_X2_take_J95 s19 x1 x2 x3
  · refine gq_sub (l' := [(0, .ref (xa X 1)), (1, .int x1), (2, .int x2), (3, .int x3)]) [0, 1, 2, 3] rfl ?_
    exact g_X2_take_J95 s16 x1 x2 x3
set_option maxRecDepth 100000 in
set_option maxHeartbeats 4000000 in
theorem t_X2_take {X : q_Cx} {Λr : q_Lay} (σ : Sg) (p0 : Int32) (p1 : Int32) : q_Ex X mX2_take (q_LA Λr) (q_LA Λr) [.ref (xa X 1), .int p0, .int p1] σ (f_X2_take σ p0 p1) := by
  refine gq_ex mfX2_take (Nat.le_of_ble_eq_true rfl) ?_
  show q_G X mX2_take (q_QM X (q_LA Λr) mX2_take) ((q_LA Λr), 0, 0) σ 0 [(0, .ref (xa X 1)), (1, .int p0), (2, .int p1)] [] _
  unfold f_X2_take
  refine gq_aload_n (i := 0) (pc' := 1) dX2_take_0 rfl rfl ?_
  refine gq_geti (pc' := 4) dX2_take_1 rfl flX2_54 lo_1 rfl ?_
  refine gq_if_eq (pc' := 7) (tgt := 19) dX2_take_4 rfl (by decide) (fun c1 => ?_) (fun c1 => ?_)
  · refine gq_bipush (v := -2) (pc' := 21) dX2_take_19 rfl  (by decide) ?_
    exact gq_iret dX2_take_21 rfl rfl rfl
  · refine gq_aload_n (i := 0) (pc' := 8) dX2_take_7 rfl rfl ?_
    refine gq_getr (pc' := 11) dX2_take_8 rfl flX2_36 lo_1 rfl ?_
    refine gq_iload_n (i := 1) (pc' := 12) dX2_take_11 rfl rfl ?_
    refine gq_iload_n (i := 2) (pc' := 13) dX2_take_12 rfl rfl ?_
    refine gq_calli (cs' := 0) (ns' := 0) (pc' := 16) (gq_siteV (Mc := mX3_allows) (As := [.int p0, .int p1]) (rest := []) dX2_take_13 lkX2_73 mfX3_allows (t_X3_allows 9 (Or.inl rfl) σ p0 p1) lo_9 rfl rfl ⟨Nat.le_of_ble_eq_true rfl, Nat.le_of_ble_eq_true rfl⟩ ⟨Nat.le_of_ble_eq_true rfl, Nat.le_of_ble_eq_true rfl⟩ rfl (Nat.le_of_ble_eq_true rfl)) rfl rfl rfl rfl (fun s2 r3 _ => ?_)
    refine gq_if_ne (pc' := 19) (tgt := 22) dX2_take_16 rfl (by decide) (fun c4 => ?_) (fun c4 => ?_)
    · refine gq_bipush (v := -2) (pc' := 21) dX2_take_19 rfl  (by decide) ?_
      exact gq_iret dX2_take_21 rfl rfl rfl
    · refine gq_aload_n (i := 0) (pc' := 23) dX2_take_22 rfl rfl ?_
      refine gq_geti (pc' := 26) dX2_take_23 rfl flX2_58 lo_1 rfl ?_
      refine gq_sipush (v := 150) (pc' := 29) dX2_take_26 rfl  (by decide) ?_
      refine gq_icmp_lt (pc' := 32) (tgt := 35) dX2_take_29 rfl (by decide) (fun c5 => ?_) (fun c5 => ?_)
      · refine gq_aload_n (i := 0) (pc' := 36) dX2_take_35 rfl rfl ?_
        refine gq_geti (pc' := 39) dX2_take_36 rfl flX2_58 lo_1 rfl ?_
        refine gq_let (fun v6 => ?_)
        refine gq_istore_n (l' := [(3, .int v6), (0, .ref (xa X 1)), (1, .int p0), (2, .int p1)]) (pc' := 40) dX2_take_39 rfl (by decide) rfl ?_
        refine gq_aload_n (i := 1) (pc' := 41) dX2_take_40 rfl rfl ?_
        refine gq_getr (pc' := 44) dX2_take_41 rfl flX2_9 lo_1 rfl ?_
        refine gq_iload_n (i := 0) (pc' := 45) dX2_take_44 rfl rfl ?_
        refine gq_iload_n (i := 2) (pc' := 46) dX2_take_45 rfl rfl ?_
        refine gq_callv (cs' := 0) (ns' := 0) (pc' := 49) (gq_siteSN (Mc := mX5_set) (As := [.ref (xa X 2), .int v6, .int p0]) (rest := []) dX2_take_46 lkX2_43 mfX5_set (t_X5_set 2 150 lo_2 s2 v6 p0) rfl ⟨Nat.le_of_ble_eq_true rfl, Nat.le_of_ble_eq_true rfl⟩ ⟨Nat.le_of_ble_eq_true rfl, Nat.le_of_ble_eq_true rfl⟩ rfl (Nat.le_of_ble_eq_true rfl)) rfl rfl rfl rfl (fun s7 _ _ => ?_)
        refine gq_aload_n (i := 1) (pc' := 50) dX2_take_49 rfl rfl ?_
        refine gq_getr (pc' := 53) dX2_take_50 rfl flX2_15 lo_1 rfl ?_
        refine gq_iload_n (i := 0) (pc' := 54) dX2_take_53 rfl rfl ?_
        refine gq_iload_n (i := 3) (pc' := 55) dX2_take_54 rfl rfl ?_
        refine gq_callv (cs' := 0) (ns' := 0) (pc' := 58) (gq_siteSN (Mc := mX5_set) (As := [.ref (xa X 3), .int v6, .int p1]) (rest := []) dX2_take_55 lkX2_43 mfX5_set (t_X5_set 3 150 lo_3 s7 v6 p1) rfl ⟨Nat.le_of_ble_eq_true rfl, Nat.le_of_ble_eq_true rfl⟩ ⟨Nat.le_of_ble_eq_true rfl, Nat.le_of_ble_eq_true rfl⟩ rfl (Nat.le_of_ble_eq_true rfl)) rfl rfl rfl rfl (fun s9 _ _ => ?_)
        refine gq_aload_n (i := 1) (pc' := 59) dX2_take_58 rfl rfl ?_
        refine gq_getr (pc' := 62) dX2_take_59 rfl flX2_24 lo_1 rfl ?_
        refine gq_iload_n (i := 0) (pc' := 63) dX2_take_62 rfl rfl ?_
        refine gq_aload_n (i := 1) (pc' := 64) dX2_take_63 rfl rfl ?_
        refine gq_getr (pc' := 67) dX2_take_64 rfl flX2_36 lo_1 rfl ?_
        refine gq_iload_n (i := 2) (pc' := 68) dX2_take_67 rfl rfl ?_
        refine gq_iload_n (i := 3) (pc' := 69) dX2_take_68 rfl rfl ?_
        refine gq_calli (cs' := 0) (ns' := 0) (pc' := 72) (gq_siteV (Mc := mX3_isWrong) (As := [.int p0, .int p1]) (rest := [.int v6, .ref (xa X 6)]) dX2_take_69 lkX2_77 mfX3_isWrong (t_X3_isWrong 9 (Or.inl rfl) s9 p0 p1) lo_9 rfl rfl ⟨Nat.le_of_ble_eq_true rfl, Nat.le_of_ble_eq_true rfl⟩ ⟨Nat.le_of_ble_eq_true rfl, Nat.le_of_ble_eq_true rfl⟩ rfl (Nat.le_of_ble_eq_true rfl)) rfl rfl rfl rfl (fun s11 r12 _ => ?_)
        refine gq_if_eq (pc' := 75) (tgt := 79) dX2_take_72 rfl (by decide) (fun c13 => ?_) (fun c13 => ?_)
        · refine gq_iconst (v := 0) (pc' := 80) dX2_take_79 rfl  (by decide) ?_
          refine gq_sub (l' := [(0, .ref (xa X 1)), (1, .int p0), (2, .int p1), (3, .int v6)]) [1, 2, 3, 0] rfl ?_
          exact g_X2_take_J80 s11 p0 p1 v6 v6 (0 : Int32)
        · refine gq_iconst (v := 1) (pc' := 76) dX2_take_75 rfl  (by decide) ?_
          refine gq_goto (pc' := 80) dX2_take_76 (by decide) ?_
          refine gq_sub (l' := [(0, .ref (xa X 1)), (1, .int p0), (2, .int p1), (3, .int v6)]) [1, 2, 3, 0] rfl ?_
          exact g_X2_take_J80 s11 p0 p1 v6 v6 (1 : Int32)
      · refine gq_bipush (v := -3) (pc' := 34) dX2_take_32 rfl  (by decide) ?_
        exact gq_iret dX2_take_34 rfl rfl rfl
set_option maxRecDepth 100000 in
set_option maxHeartbeats 4000000 in
theorem t_X2_has {X : q_Cx} {Λr : q_Lay} (σ : Sg) (p0 : Int32) : q_Ex X mX2_has (q_LA Λr) (q_LA Λr) [.ref (xa X 1), .int p0] σ (f_X2_has σ p0) := by
  refine gq_ex mfX2_has (Nat.le_of_ble_eq_true rfl) ?_
  show q_G X mX2_has (q_QM X (q_LA Λr) mX2_has) ((q_LA Λr), 0, 0) σ 0 [(0, .ref (xa X 1)), (1, .int p0)] [] _
  unfold f_X2_has
  refine gq_iload_n (i := 1) (pc' := 1) dX2_has_0 rfl rfl ?_
  refine gq_if_lt (pc' := 4) (tgt := 16) dX2_has_1 rfl (by decide) (fun c1 => ?_) (fun c1 => ?_)
  · refine gq_iconst (v := 0) (pc' := 17) dX2_has_16 rfl  (by decide) ?_
    exact gq_zret dX2_has_17 rfl rfl rfl rfl
  · refine gq_iload_n (i := 1) (pc' := 5) dX2_has_4 rfl rfl ?_
    refine gq_aload_n (i := 0) (pc' := 6) dX2_has_5 rfl rfl ?_
    refine gq_geti (pc' := 9) dX2_has_6 rfl flX2_58 lo_1 rfl ?_
    refine gq_icmp_ge (pc' := 12) (tgt := 16) dX2_has_9 rfl (by decide) (fun c2 => ?_) (fun c2 => ?_)
    · refine gq_iconst (v := 0) (pc' := 17) dX2_has_16 rfl  (by decide) ?_
      exact gq_zret dX2_has_17 rfl rfl rfl rfl
    · refine gq_iconst (v := 1) (pc' := 13) dX2_has_12 rfl  (by decide) ?_
      refine gq_goto (pc' := 17) dX2_has_13 (by decide) ?_
      exact gq_zret dX2_has_17 rfl rfl rfl rfl
set_option maxRecDepth 100000 in
set_option maxHeartbeats 4000000 in
theorem t_X2_tell {X : q_Cx} {Λr : q_Lay} (σ : Sg) (p0 : Int32) (p1 : Int32) : q_Ex X mX2_tell (q_LA Λr) (q_LA Λr) [.ref (xa X 1), .int p0, .int p1] σ (f_X2_tell σ p0 p1) := by
  refine gq_ex mfX2_tell (Nat.le_of_ble_eq_true rfl) ?_
  show q_G X mX2_tell (q_QM X (q_LA Λr) mX2_tell) ((q_LA Λr), 0, 0) σ 0 [(0, .ref (xa X 1)), (1, .int p0), (2, .int p1)] [] _
  unfold f_X2_tell
  refine gq_aload_n (i := 0) (pc' := 1) dX2_tell_0 rfl rfl ?_
  refine gq_iload_n (i := 1) (pc' := 2) dX2_tell_1 rfl rfl ?_
  refine gq_calli (cs' := 0) (ns' := 0) (pc' := 5) (gq_siteV (Mc := mX2_has) (As := [.int p0]) (rest := []) dX2_tell_2 lkX2_97 mfX2_has (t_X2_has σ p0) lo_1 rfl rfl ⟨Nat.le_of_ble_eq_true rfl, Nat.le_of_ble_eq_true rfl⟩ ⟨Nat.le_of_ble_eq_true rfl, Nat.le_of_ble_eq_true rfl⟩ rfl (Nat.le_of_ble_eq_true rfl)) rfl rfl rfl rfl (fun s1 r2 _ => ?_)
  refine gq_if_ne (pc' := 8) (tgt := 11) dX2_tell_5 rfl (by decide) (fun c3 => ?_) (fun c3 => ?_)
  · refine gq_bipush (v := -4) (pc' := 10) dX2_tell_8 rfl  (by decide) ?_
    exact gq_iret dX2_tell_10 rfl rfl rfl
  · refine gq_iload_n (i := 2) (pc' := 12) dX2_tell_11 rfl rfl ?_
    refine gq_ite (fun c4 => ?_) (fun _ => ?_)
    · refine gq_tswLo (tgt := 67) c4 dX2_tell_12 (by decide) (by decide) ?_
      refine gq_aload_n (i := 0) (pc' := 68) dX2_tell_67 rfl rfl ?_
      refine gq_getr (pc' := 71) dX2_tell_68 rfl flX2_24 lo_1 rfl ?_
      refine gq_iload_n (i := 1) (pc' := 72) dX2_tell_71 rfl rfl ?_
      refine gq_calli (cs' := 0) (ns' := 0) (pc' := 75) (gq_siteSN (Mc := mX5_at) (As := [.ref (xa X 6), .int p0]) (rest := []) dX2_tell_72 lkX2_69 mfX5_at (t_X5_at 6 150 (Or.inl lo_6) s1 p0) rfl ⟨Nat.le_of_ble_eq_true rfl, Nat.le_of_ble_eq_true rfl⟩ ⟨Nat.le_of_ble_eq_true rfl, Nat.le_of_ble_eq_true rfl⟩ rfl (Nat.le_of_ble_eq_true rfl)) rfl rfl rfl rfl (fun s5 r6 _ => ?_)
      exact gq_iret dX2_tell_75 rfl rfl rfl
    refine gq_ite (fun c7 => ?_) (fun _ => ?_)
    · refine gq_tswHi (tgt := 67) c7 dX2_tell_12 (by decide) (by decide) ?_
      refine gq_aload_n (i := 0) (pc' := 68) dX2_tell_67 rfl rfl ?_
      refine gq_getr (pc' := 71) dX2_tell_68 rfl flX2_24 lo_1 rfl ?_
      refine gq_iload_n (i := 1) (pc' := 72) dX2_tell_71 rfl rfl ?_
      refine gq_calli (cs' := 0) (ns' := 0) (pc' := 75) (gq_siteSN (Mc := mX5_at) (As := [.ref (xa X 6), .int p0]) (rest := []) dX2_tell_72 lkX2_69 mfX5_at (t_X5_at 6 150 (Or.inl lo_6) s1 p0) rfl ⟨Nat.le_of_ble_eq_true rfl, Nat.le_of_ble_eq_true rfl⟩ ⟨Nat.le_of_ble_eq_true rfl, Nat.le_of_ble_eq_true rfl⟩ rfl (Nat.le_of_ble_eq_true rfl)) rfl rfl rfl rfl (fun s8 r9 _ => ?_)
      exact gq_iret dX2_tell_75 rfl rfl rfl
    refine gq_ite (fun c10 => ?_) (fun _ => ?_)
    · refine gq_tswIn (tgt := 40) c10 dX2_tell_12 (by decide) (by decide) rfl (by decide) ?_
      refine gq_aload_n (i := 0) (pc' := 41) dX2_tell_40 rfl rfl ?_
      refine gq_getr (pc' := 44) dX2_tell_41 rfl flX2_9 lo_1 rfl ?_
      refine gq_iload_n (i := 1) (pc' := 45) dX2_tell_44 rfl rfl ?_
      refine gq_calli (cs' := 0) (ns' := 0) (pc' := 48) (gq_siteSN (Mc := mX5_at) (As := [.ref (xa X 2), .int p0]) (rest := []) dX2_tell_45 lkX2_69 mfX5_at (t_X5_at 2 150 (Or.inl lo_2) s1 p0) rfl ⟨Nat.le_of_ble_eq_true rfl, Nat.le_of_ble_eq_true rfl⟩ ⟨Nat.le_of_ble_eq_true rfl, Nat.le_of_ble_eq_true rfl⟩ rfl (Nat.le_of_ble_eq_true rfl)) rfl rfl rfl rfl (fun s11 r12 _ => ?_)
      exact gq_iret dX2_tell_48 rfl rfl rfl
    refine gq_ite (fun c13 => ?_) (fun _ => ?_)
    · refine gq_tswIn (tgt := 49) c13 dX2_tell_12 (by decide) (by decide) rfl (by decide) ?_
      refine gq_aload_n (i := 0) (pc' := 50) dX2_tell_49 rfl rfl ?_
      refine gq_getr (pc' := 53) dX2_tell_50 rfl flX2_18 lo_1 rfl ?_
      refine gq_iload_n (i := 1) (pc' := 54) dX2_tell_53 rfl rfl ?_
      refine gq_calli (cs' := 0) (ns' := 0) (pc' := 57) (gq_siteSN (Mc := mX5_at) (As := [.ref (xa X 4), .int p0]) (rest := []) dX2_tell_54 lkX2_69 mfX5_at (t_X5_at 4 150 (Or.inl lo_4) s1 p0) rfl ⟨Nat.le_of_ble_eq_true rfl, Nat.le_of_ble_eq_true rfl⟩ ⟨Nat.le_of_ble_eq_true rfl, Nat.le_of_ble_eq_true rfl⟩ rfl (Nat.le_of_ble_eq_true rfl)) rfl rfl rfl rfl (fun s14 r15 _ => ?_)
      exact gq_iret dX2_tell_57 rfl rfl rfl
    refine gq_ite (fun c16 => ?_) (fun _ => ?_)
    · refine gq_tswIn (tgt := 58) c16 dX2_tell_12 (by decide) (by decide) rfl (by decide) ?_
      refine gq_aload_n (i := 0) (pc' := 59) dX2_tell_58 rfl rfl ?_
      refine gq_getr (pc' := 62) dX2_tell_59 rfl flX2_21 lo_1 rfl ?_
      refine gq_iload_n (i := 1) (pc' := 63) dX2_tell_62 rfl rfl ?_
      refine gq_calli (cs' := 0) (ns' := 0) (pc' := 66) (gq_siteSN (Mc := mX5_at) (As := [.ref (xa X 5), .int p0]) (rest := []) dX2_tell_63 lkX2_69 mfX5_at (t_X5_at 5 150 (Or.inl lo_5) s1 p0) rfl ⟨Nat.le_of_ble_eq_true rfl, Nat.le_of_ble_eq_true rfl⟩ ⟨Nat.le_of_ble_eq_true rfl, Nat.le_of_ble_eq_true rfl⟩ rfl (Nat.le_of_ble_eq_true rfl)) rfl rfl rfl rfl (fun s17 r18 _ => ?_)
      exact gq_iret dX2_tell_66 rfl rfl rfl
    exact gq_none
set_option maxRecDepth 100000 in
set_option maxHeartbeats 4000000 in
theorem t_X2_obey {X : q_Cx} {Λr : q_Lay} (o : Nat) (ho : q_pos o) (σ : Sg) (p1 : Int32) : q_Ex X mX2_obey (q_LA Λr) (q_LA Λr) [.ref (xa X o), .int p1] σ (f_X2_obey o σ p1) := by
  refine gq_ex mfX2_obey (Nat.le_of_ble_eq_true rfl) ?_
  show q_G X mX2_obey (q_QM X (q_LA Λr) mX2_obey) ((q_LA Λr), 0, 0) σ 0 [(0, .ref (xa X o)), (1, .int p1)] [] _
  unfold f_X2_obey
  refine gq_iload_n (i := 1) (pc' := 1) dX2_obey_0 rfl rfl ?_
  refine gq_iconst (v := 1) (pc' := 2) dX2_obey_1 rfl  (by decide) ?_
  refine gq_icmp_ne (pc' := 5) (tgt := 12) dX2_obey_2 rfl (by decide) (fun c1 => ?_) (fun c1 => ?_)
  · refine gq_aload_n (i := 0) (pc' := 6) dX2_obey_5 rfl rfl ?_
    refine gq_callv (cs' := 0) (ns' := 0) (pc' := 9) (gq_siteV (Mc := mX3_endTurn) (As := []) (rest := []) dX2_obey_6 lkX2_111 mfX3_endTurn (t_X3_endTurn o ho σ) (q_pos0 ho) rfl rfl ⟨Nat.le_of_ble_eq_true rfl, Nat.le_of_ble_eq_true rfl⟩ ⟨Nat.le_of_ble_eq_true rfl, Nat.le_of_ble_eq_true rfl⟩ rfl (Nat.le_of_ble_eq_true rfl)) rfl rfl rfl rfl (fun s2 _ _ => ?_)
    refine gq_goto (pc' := 24) dX2_obey_9 (by decide) ?_
    exact gq_vret dX2_obey_24 rfl rfl rfl
  · refine gq_iload_n (i := 1) (pc' := 13) dX2_obey_12 rfl rfl ?_
    refine gq_iconst (v := 2) (pc' := 14) dX2_obey_13 rfl  (by decide) ?_
    refine gq_icmp_lt (pc' := 17) (tgt := 24) dX2_obey_14 rfl (by decide) (fun c4 => ?_) (fun c4 => ?_)
    · exact gq_vret dX2_obey_24 rfl rfl rfl
    · refine gq_aload_n (i := 0) (pc' := 18) dX2_obey_17 rfl rfl ?_
      refine gq_iload_n (i := 1) (pc' := 19) dX2_obey_18 rfl rfl ?_
      refine gq_iconst (v := 2) (pc' := 20) dX2_obey_19 rfl  (by decide) ?_
      refine gq_isub (pc' := 21) dX2_obey_20 rfl ?_
      refine gq_callv (cs' := 0) (ns' := 0) (pc' := 24) (gq_siteV (Mc := mX3_stopFor) (As := [.int (p1 - (2 : Int32))]) (rest := []) dX2_obey_21 lkX2_114 mfX3_stopFor (t_X3_stopFor o ho σ (p1 - (2 : Int32))) (q_pos0 ho) rfl rfl ⟨Nat.le_of_ble_eq_true rfl, Nat.le_of_ble_eq_true rfl⟩ ⟨Nat.le_of_ble_eq_true rfl, Nat.le_of_ble_eq_true rfl⟩ rfl (Nat.le_of_ble_eq_true rfl)) rfl rfl rfl rfl (fun s5 _ _ => ?_)
      exact gq_vret dX2_obey_24 rfl rfl rfl
set_option maxRecDepth 100000 in
set_option maxHeartbeats 4000000 in
theorem k_X2_leadTo_L26 {X : q_Cx} {Λr : q_Lay} (o : Nat) (ho : q_pos o) {rec : Sg → Int32 → Int32 → Rs} (hrec : ∀ (σ : Sg) (x2 : Int32) (x3 : Int32), q_G X mX2_leadTo (q_QM X (q_LA Λr) mX2_leadTo) ((q_LA Λr), 0, 0) σ 26 [(0, .ref (xa X 1)), (1, .ref (xa X o)), (2, .int x2), (3, .int x3)] [] (rec σ x2 x3)) (σ : Sg) (x2 : Int32) (x3 : Int32) : q_G X mX2_leadTo (q_QM X (q_LA Λr) mX2_leadTo) ((q_LA Λr), 0, 0) σ 26 [(0, .ref (xa X 1)), (1, .ref (xa X o)), (2, .int x2), (3, .int x3)] [] (s_X2_leadTo_L26 o rec σ x2 x3) := by
  unfold s_X2_leadTo_L26
  refine gq_iload_n (i := 3) (pc' := 27) dX2_leadTo_26 rfl rfl ?_
  refine gq_iload_n (i := 2) (pc' := 28) dX2_leadTo_27 rfl rfl ?_
  refine gq_icmp_ge (pc' := 31) (tgt := 79) dX2_leadTo_28 rfl (by decide) (fun c7 => ?_) (fun c7 => ?_)
  · exact gq_vret dX2_leadTo_79 rfl rfl rfl
  · refine gq_iload_n (i := 3) (pc' := 32) dX2_leadTo_31 rfl rfl ?_
    refine gq_aload_n (i := 0) (pc' := 33) dX2_leadTo_32 rfl rfl ?_
    refine gq_geti (pc' := 36) dX2_leadTo_33 rfl flX2_58 lo_1 rfl ?_
    refine gq_icmp_ge (pc' := 39) (tgt := 79) dX2_leadTo_36 rfl (by decide) (fun c8 => ?_) (fun c8 => ?_)
    · exact gq_vret dX2_leadTo_79 rfl rfl rfl
    · refine gq_aload_n (i := 1) (pc' := 40) dX2_leadTo_39 rfl rfl ?_
      refine gq_aload_n (i := 0) (pc' := 41) dX2_leadTo_40 rfl rfl ?_
      refine gq_getr (pc' := 44) dX2_leadTo_41 rfl flX2_9 lo_1 rfl ?_
      refine gq_iload_n (i := 3) (pc' := 45) dX2_leadTo_44 rfl rfl ?_
      refine gq_calli (cs' := 0) (ns' := 0) (pc' := 48) (gq_siteSN (Mc := mX5_at) (As := [.ref (xa X 2), .int x3]) (rest := [.ref (xa X o)]) dX2_leadTo_45 lkX2_69 mfX5_at (t_X5_at 2 150 (Or.inl lo_2) σ x3) rfl ⟨Nat.le_of_ble_eq_true rfl, Nat.le_of_ble_eq_true rfl⟩ ⟨Nat.le_of_ble_eq_true rfl, Nat.le_of_ble_eq_true rfl⟩ rfl (Nat.le_of_ble_eq_true rfl)) rfl rfl rfl rfl (fun s9 r10 _ => ?_)
      refine gq_aload_n (i := 0) (pc' := 49) dX2_leadTo_48 rfl rfl ?_
      refine gq_getr (pc' := 52) dX2_leadTo_49 rfl flX2_15 lo_1 rfl ?_
      refine gq_iload_n (i := 3) (pc' := 53) dX2_leadTo_52 rfl rfl ?_
      refine gq_calli (cs' := 0) (ns' := 0) (pc' := 56) (gq_siteSN (Mc := mX5_at) (As := [.ref (xa X 3), .int x3]) (rest := [.int r10, .ref (xa X o)]) dX2_leadTo_53 lkX2_69 mfX5_at (t_X5_at 3 150 (Or.inl lo_3) s9 x3) rfl ⟨Nat.le_of_ble_eq_true rfl, Nat.le_of_ble_eq_true rfl⟩ ⟨Nat.le_of_ble_eq_true rfl, Nat.le_of_ble_eq_true rfl⟩ rfl (Nat.le_of_ble_eq_true rfl)) rfl rfl rfl rfl (fun s11 r12 _ => ?_)
      refine gq_callv (cs' := 0) (ns' := 0) (pc' := 59) (gq_siteV (Mc := mX3_lead) (As := [.int r10, .int r12]) (rest := []) dX2_leadTo_56 lkX2_88 mfX3_lead (t_X3_lead o ho s11 r10 r12) (q_pos0 ho) rfl rfl ⟨Nat.le_of_ble_eq_true rfl, Nat.le_of_ble_eq_true rfl⟩ ⟨Nat.le_of_ble_eq_true rfl, Nat.le_of_ble_eq_true rfl⟩ rfl (Nat.le_of_ble_eq_true rfl)) rfl rfl rfl rfl (fun s13 _ _ => ?_)
      refine gq_aload_n (i := 1) (pc' := 60) dX2_leadTo_59 rfl rfl ?_
      refine gq_aload_n (i := 0) (pc' := 61) dX2_leadTo_60 rfl rfl ?_
      refine gq_getr (pc' := 64) dX2_leadTo_61 rfl flX2_27 lo_1 rfl ?_
      refine gq_iload_n (i := 3) (pc' := 65) dX2_leadTo_64 rfl rfl ?_
      refine gq_iconst (v := 1) (pc' := 66) dX2_leadTo_65 rfl  (by decide) ?_
      refine gq_iadd (pc' := 67) dX2_leadTo_66 rfl ?_
      refine gq_calli (cs' := 0) (ns' := 0) (pc' := 70) (gq_siteSN (Mc := mX5_at) (As := [.ref (xa X 7), .int (x3 + (1 : Int32))]) (rest := [.ref (xa X o)]) dX2_leadTo_67 lkX2_69 mfX5_at (t_X5_at 7 151 (Or.inl lo_7) s13 (x3 + (1 : Int32))) rfl ⟨Nat.le_of_ble_eq_true rfl, Nat.le_of_ble_eq_true rfl⟩ ⟨Nat.le_of_ble_eq_true rfl, Nat.le_of_ble_eq_true rfl⟩ rfl (Nat.le_of_ble_eq_true rfl)) rfl rfl rfl rfl (fun s15 r16 _ => ?_)
      refine gq_callv (cs' := 0) (ns' := 0) (pc' := 73) (gq_siteS (Mc := mX2_obey) (As := [.ref (xa X o), .int r16]) (rest := []) dX2_leadTo_70 lkX2_108 mfX2_obey (t_X2_obey o ho s15 r16) rfl ⟨Nat.le_of_ble_eq_true rfl, Nat.le_of_ble_eq_true rfl⟩ ⟨Nat.le_of_ble_eq_true rfl, Nat.le_of_ble_eq_true rfl⟩ rfl (Nat.le_of_ble_eq_true rfl)) rfl rfl rfl rfl (fun s17 _ _ => ?_)
      refine gq_iincl (j := 3) (pc' := 76) dX2_leadTo_73 rfl rfl (by decide) (by decide) (fun v19 => gq_sub (l' := [(3, .int v19), (0, .ref (xa X 1)), (1, .ref (xa X o)), (2, .int x2)]) [0, 1, 2, 3] rfl ?_)
      refine gq_goto (pc' := 26) dX2_leadTo_76 (by decide) ?_
      refine gq_sub (l' := [(0, .ref (xa X 1)), (1, .ref (xa X o)), (2, .int x2), (3, .int v19)]) [1, 2, 3, 0] rfl ?_
      exact hrec s17 x2 v19
set_option maxRecDepth 100000 in
set_option maxHeartbeats 4000000 in
theorem g_X2_leadTo_L26 {X : q_Cx} {Λr : q_Lay} (o : Nat) (ho : q_pos o) (qn : Nat) : ∀ (σ : Sg) (x2 : Int32) (x3 : Int32), q_G X mX2_leadTo (q_QM X (q_LA Λr) mX2_leadTo) ((q_LA Λr), 0, 0) σ 26 [(0, .ref (xa X 1)), (1, .ref (xa X o)), (2, .int x2), (3, .int x3)] [] (f_X2_leadTo_L26 o qn σ x2 x3) := by
  induction qn with
  | zero => exact fun σ x2 x3 => gq_none
  | succ qn ih => exact fun σ x2 x3 => k_X2_leadTo_L26 o ho ih σ x2 x3
set_option maxRecDepth 100000 in
set_option maxHeartbeats 4000000 in
theorem t_X2_leadTo {X : q_Cx} {Λr : q_Lay} (o : Nat) (ho : q_pos o) (σ : Sg) (p1 : Int32) : q_Ex X mX2_leadTo (q_LA Λr) (q_LA Λr) [.ref (xa X 1), .ref (xa X o), .int p1] σ (f_X2_leadTo o σ p1) := by
  refine gq_ex mfX2_leadTo (Nat.le_of_ble_eq_true rfl) ?_
  show q_G X mX2_leadTo (q_QM X (q_LA Λr) mX2_leadTo) ((q_LA Λr), 0, 0) σ 0 [(0, .ref (xa X 1)), (1, .ref (xa X o)), (2, .int p1)] [] _
  unfold f_X2_leadTo
  refine gq_aload_n (i := 1) (pc' := 1) dX2_leadTo_0 rfl rfl ?_
  refine gq_aload_n (i := 0) (pc' := 2) dX2_leadTo_1 rfl rfl ?_
  refine gq_geti (pc' := 5) dX2_leadTo_2 rfl flX2_47 lo_1 rfl ?_
  refine gq_aload_n (i := 0) (pc' := 6) dX2_leadTo_5 rfl rfl ?_
  refine gq_geti (pc' := 9) dX2_leadTo_6 rfl flX2_51 lo_1 rfl ?_
  refine gq_callv (cs' := 0) (ns' := 0) (pc' := 12) (gq_siteV (Mc := mX3_begin) (As := [.int (σ 1 11), .int (σ 1 12)]) (rest := []) dX2_leadTo_9 lkX2_61 mfX3_begin (t_X3_begin o ho σ (σ 1 11) (σ 1 12)) (q_pos0 ho) rfl rfl ⟨Nat.le_of_ble_eq_true rfl, Nat.le_of_ble_eq_true rfl⟩ ⟨Nat.le_of_ble_eq_true rfl, Nat.le_of_ble_eq_true rfl⟩ rfl (Nat.le_of_ble_eq_true rfl)) rfl rfl rfl rfl (fun s1 _ _ => ?_)
  refine gq_aload_n (i := 1) (pc' := 13) dX2_leadTo_12 rfl rfl ?_
  refine gq_aload_n (i := 0) (pc' := 14) dX2_leadTo_13 rfl rfl ?_
  refine gq_getr (pc' := 17) dX2_leadTo_14 rfl flX2_27 lo_1 rfl ?_
  refine gq_iconst (v := 0) (pc' := 18) dX2_leadTo_17 rfl  (by decide) ?_
  refine gq_calli (cs' := 0) (ns' := 0) (pc' := 21) (gq_siteSN (Mc := mX5_at) (As := [.ref (xa X 7), .int (0 : Int32)]) (rest := [.ref (xa X o)]) dX2_leadTo_18 lkX2_69 mfX5_at (t_X5_at 7 151 (Or.inl lo_7) s1 (0 : Int32)) rfl ⟨Nat.le_of_ble_eq_true rfl, Nat.le_of_ble_eq_true rfl⟩ ⟨Nat.le_of_ble_eq_true rfl, Nat.le_of_ble_eq_true rfl⟩ rfl (Nat.le_of_ble_eq_true rfl)) rfl rfl rfl rfl (fun s3 r4 _ => ?_)
  refine gq_callv (cs' := 0) (ns' := 0) (pc' := 24) (gq_siteS (Mc := mX2_obey) (As := [.ref (xa X o), .int r4]) (rest := []) dX2_leadTo_21 lkX2_108 mfX2_obey (t_X2_obey o ho s3 r4) rfl ⟨Nat.le_of_ble_eq_true rfl, Nat.le_of_ble_eq_true rfl⟩ ⟨Nat.le_of_ble_eq_true rfl, Nat.le_of_ble_eq_true rfl⟩ rfl (Nat.le_of_ble_eq_true rfl)) rfl rfl rfl rfl (fun s5 _ _ => ?_)
  refine gq_iconst (v := 0) (pc' := 25) dX2_leadTo_24 rfl  (by decide) ?_
  refine gq_istore_n (l' := [(3, .int (0 : Int32)), (0, .ref (xa X 1)), (1, .ref (xa X o)), (2, .int p1)]) (pc' := 26) dX2_leadTo_25 rfl (by decide) rfl ?_
  refine gq_sub (l' := [(0, .ref (xa X 1)), (1, .ref (xa X o)), (2, .int p1), (3, .int (0 : Int32))]) [1, 2, 3, 0] rfl ?_
  exact g_X2_leadTo_L26 o ho 1000 s5 p1 (0 : Int32)
set_option maxRecDepth 100000 in
set_option maxHeartbeats 4000000 in
theorem t_X2_asOf {X : q_Cx} {Λr : q_Lay} (σ : Sg) (p0 : Int32) (p1 : Int32) : q_Ex X mX2_asOf (q_LA Λr) (q_LA Λr) [.ref (xa X 1), .int p0, .int p1] σ (f_X2_asOf σ p0 p1) := by
  refine gq_ex mfX2_asOf (Nat.le_of_ble_eq_true rfl) ?_
  show q_G X mX2_asOf (q_QM X (q_LA Λr) mX2_asOf) ((q_LA Λr), 0, 0) σ 0 [(0, .ref (xa X 1)), (1, .int p0), (2, .int p1)] [] _
  unfold f_X2_asOf
  refine gq_aload_n (i := 0) (pc' := 1) dX2_asOf_0 rfl rfl ?_
  refine gq_geti (pc' := 4) dX2_asOf_1 rfl flX2_54 lo_1 rfl ?_
  refine gq_if_eq (pc' := 7) (tgt := 19) dX2_asOf_4 rfl (by decide) (fun c1 => ?_) (fun c1 => ?_)
  · refine gq_iconst (v := -1) (pc' := 20) dX2_asOf_19 rfl  (by decide) ?_
    exact gq_iret dX2_asOf_20 rfl rfl rfl
  · refine gq_iload_n (i := 1) (pc' := 8) dX2_asOf_7 rfl rfl ?_
    refine gq_if_lt (pc' := 11) (tgt := 19) dX2_asOf_8 rfl (by decide) (fun c2 => ?_) (fun c2 => ?_)
    · refine gq_iconst (v := -1) (pc' := 20) dX2_asOf_19 rfl  (by decide) ?_
      exact gq_iret dX2_asOf_20 rfl rfl rfl
    · refine gq_iload_n (i := 1) (pc' := 12) dX2_asOf_11 rfl rfl ?_
      refine gq_aload_n (i := 0) (pc' := 13) dX2_asOf_12 rfl rfl ?_
      refine gq_geti (pc' := 16) dX2_asOf_13 rfl flX2_58 lo_1 rfl ?_
      refine gq_icmp_le (pc' := 19) (tgt := 21) dX2_asOf_16 rfl (by decide) (fun c3 => ?_) (fun c3 => ?_)
      · refine gq_aload_n (i := 0) (pc' := 22) dX2_asOf_21 rfl rfl ?_
        refine gq_aload_n (i := 0) (pc' := 23) dX2_asOf_22 rfl rfl ?_
        refine gq_getr (pc' := 26) dX2_asOf_23 rfl flX2_40 lo_1 rfl ?_
        refine gq_iload_n (i := 1) (pc' := 27) dX2_asOf_26 rfl rfl ?_
        refine gq_callv (cs' := 0) (ns' := 0) (pc' := 30) (gq_siteV (Mc := mX2_leadTo) (As := [.ref (xa X 12), .int p0]) (rest := []) dX2_asOf_27 lkX2_100 mfX2_leadTo (t_X2_leadTo 12 (Or.inr rfl) σ p0) lo_1 rfl rfl ⟨Nat.le_of_ble_eq_true rfl, Nat.le_of_ble_eq_true rfl⟩ ⟨Nat.le_of_ble_eq_true rfl, Nat.le_of_ble_eq_true rfl⟩ rfl (Nat.le_of_ble_eq_true rfl)) rfl rfl rfl rfl (fun s4 _ _ => ?_)
        refine gq_aload_n (i := 0) (pc' := 31) dX2_asOf_30 rfl rfl ?_
        refine gq_getr (pc' := 34) dX2_asOf_31 rfl flX2_40 lo_1 rfl ?_
        refine gq_iload_n (i := 2) (pc' := 35) dX2_asOf_34 rfl rfl ?_
        refine gq_calli (cs' := 0) (ns' := 0) (pc' := 38) (gq_siteV (Mc := mX3_tell) (As := [.int p1]) (rest := []) dX2_asOf_35 lkX2_104 mfX3_tell (t_X3_tell 12 (Or.inr rfl) s4 p1) lo_12 rfl rfl ⟨Nat.le_of_ble_eq_true rfl, Nat.le_of_ble_eq_true rfl⟩ ⟨Nat.le_of_ble_eq_true rfl, Nat.le_of_ble_eq_true rfl⟩ rfl (Nat.le_of_ble_eq_true rfl)) rfl rfl rfl rfl (fun s6 r7 _ => ?_)
        exact gq_iret dX2_asOf_38 rfl rfl rfl
      · refine gq_iconst (v := -1) (pc' := 20) dX2_asOf_19 rfl  (by decide) ?_
        exact gq_iret dX2_asOf_20 rfl rfl rfl
set_option maxRecDepth 100000 in
set_option maxHeartbeats 4000000 in
theorem t_X2_takeAway {X : q_Cx} {Λr : q_Lay} (σ : Sg) (p0 : Int32) : q_Ex X mX2_takeAway (q_LA Λr) (q_LA Λr) [.ref (xa X 1), .int p0] σ (f_X2_takeAway σ p0) := by
  refine gq_ex mfX2_takeAway (Nat.le_of_ble_eq_true rfl) ?_
  show q_G X mX2_takeAway (q_QM X (q_LA Λr) mX2_takeAway) ((q_LA Λr), 0, 0) σ 0 [(0, .ref (xa X 1)), (1, .int p0)] [] _
  unfold f_X2_takeAway
  refine gq_aload_n (i := 0) (pc' := 1) dX2_takeAway_0 rfl rfl ?_
  refine gq_getr (pc' := 4) dX2_takeAway_1 rfl flX2_27 lo_1 rfl ?_
  refine gq_iload_n (i := 1) (pc' := 5) dX2_takeAway_4 rfl rfl ?_
  refine gq_iconst (v := 3) (pc' := 6) dX2_takeAway_5 rfl  (by decide) ?_
  refine gq_aload_n (i := 0) (pc' := 7) dX2_takeAway_6 rfl rfl ?_
  refine gq_getr (pc' := 10) dX2_takeAway_7 rfl flX2_21 lo_1 rfl ?_
  refine gq_iload_n (i := 1) (pc' := 11) dX2_takeAway_10 rfl rfl ?_
  refine gq_calli (cs' := 0) (ns' := 0) (pc' := 14) (gq_siteSN (Mc := mX5_at) (As := [.ref (xa X 5), .int p0]) (rest := [.int (3 : Int32), .int p0, .ref (xa X 7)]) dX2_takeAway_11 lkX2_69 mfX5_at (t_X5_at 5 150 (Or.inl lo_5) σ p0) rfl ⟨Nat.le_of_ble_eq_true rfl, Nat.le_of_ble_eq_true rfl⟩ ⟨Nat.le_of_ble_eq_true rfl, Nat.le_of_ble_eq_true rfl⟩ rfl (Nat.le_of_ble_eq_true rfl)) rfl rfl rfl rfl (fun s1 r2 _ => ?_)
  refine gq_isub (pc' := 15) dX2_takeAway_14 rfl ?_
  refine gq_callv (cs' := 0) (ns' := 0) (pc' := 18) (gq_siteSN (Mc := mX5_set) (As := [.ref (xa X 7), .int p0, .int ((3 : Int32) - r2)]) (rest := []) dX2_takeAway_15 lkX2_43 mfX5_set (t_X5_set 7 151 lo_7 s1 p0 ((3 : Int32) - r2)) rfl ⟨Nat.le_of_ble_eq_true rfl, Nat.le_of_ble_eq_true rfl⟩ ⟨Nat.le_of_ble_eq_true rfl, Nat.le_of_ble_eq_true rfl⟩ rfl (Nat.le_of_ble_eq_true rfl)) rfl rfl rfl rfl (fun s3 _ _ => ?_)
  refine gq_aload_n (i := 0) (pc' := 19) dX2_takeAway_18 rfl rfl ?_
  refine gq_iload_n (i := 1) (pc' := 20) dX2_takeAway_19 rfl rfl ?_
  refine gq_puti (pc' := 23) dX2_takeAway_20 rfl flX2_58 plX2_10 lo_1 rfl rfl rfl ?_
  refine gq_lets (fun s5 => ?_)
  refine gq_aload_n (i := 0) (pc' := 24) dX2_takeAway_23 rfl rfl ?_
  refine gq_aload_n (i := 0) (pc' := 25) dX2_takeAway_24 rfl rfl ?_
  refine gq_getr (pc' := 28) dX2_takeAway_25 rfl flX2_36 lo_1 rfl ?_
  refine gq_aload_n (i := 0) (pc' := 29) dX2_takeAway_28 rfl rfl ?_
  refine gq_geti (pc' := 32) dX2_takeAway_29 rfl flX2_58 lo_1 rfl ?_
  refine gq_callv (cs' := 0) (ns' := 0) (pc' := 35) (gq_siteV (Mc := mX2_leadTo) (As := [.ref (xa X 9), .int (s5 1 10)]) (rest := []) dX2_takeAway_32 lkX2_100 mfX2_leadTo (t_X2_leadTo 9 (Or.inl rfl) s5 (s5 1 10)) lo_1 rfl rfl ⟨Nat.le_of_ble_eq_true rfl, Nat.le_of_ble_eq_true rfl⟩ ⟨Nat.le_of_ble_eq_true rfl, Nat.le_of_ble_eq_true rfl⟩ rfl (Nat.le_of_ble_eq_true rfl)) rfl rfl rfl rfl (fun s6 _ _ => ?_)
  refine gq_iconst (v := 1) (pc' := 36) dX2_takeAway_35 rfl  (by decide) ?_
  exact gq_iret dX2_takeAway_36 rfl rfl rfl
set_option maxRecDepth 100000 in
set_option maxHeartbeats 4000000 in
theorem t_X2_stopTurn {X : q_Cx} {Λr : q_Lay} (σ : Sg) (p0 : Int32) : q_Ex X mX2_stopTurn (q_LA Λr) (q_LA Λr) [.ref (xa X 1), .int p0] σ (f_X2_stopTurn σ p0) := by
  refine gq_ex mfX2_stopTurn (Nat.le_of_ble_eq_true rfl) ?_
  show q_G X mX2_stopTurn (q_QM X (q_LA Λr) mX2_stopTurn) ((q_LA Λr), 0, 0) σ 0 [(0, .ref (xa X 1)), (1, .int p0)] [] _
  unfold f_X2_stopTurn
  refine gq_aload_n (i := 0) (pc' := 1) dX2_stopTurn_0 rfl rfl ?_
  refine gq_getr (pc' := 4) dX2_stopTurn_1 rfl flX2_24 lo_1 rfl ?_
  refine gq_iload_n (i := 1) (pc' := 5) dX2_stopTurn_4 rfl rfl ?_
  refine gq_iconst (v := 0) (pc' := 6) dX2_stopTurn_5 rfl  (by decide) ?_
  refine gq_callv (cs' := 0) (ns' := 0) (pc' := 9) (gq_siteSN (Mc := mX5_set) (As := [.ref (xa X 6), .int p0, .int (0 : Int32)]) (rest := []) dX2_stopTurn_6 lkX2_43 mfX5_set (t_X5_set 6 150 lo_6 σ p0 (0 : Int32)) rfl ⟨Nat.le_of_ble_eq_true rfl, Nat.le_of_ble_eq_true rfl⟩ ⟨Nat.le_of_ble_eq_true rfl, Nat.le_of_ble_eq_true rfl⟩ rfl (Nat.le_of_ble_eq_true rfl)) rfl rfl rfl rfl (fun s1 _ _ => ?_)
  refine gq_aload_n (i := 0) (pc' := 10) dX2_stopTurn_9 rfl rfl ?_
  refine gq_getr (pc' := 13) dX2_stopTurn_10 rfl flX2_36 lo_1 rfl ?_
  refine gq_calli (cs' := 0) (ns' := 0) (pc' := 16) (gq_siteV (Mc := mX3_inPlay) (As := []) (rest := []) dX2_stopTurn_13 lkX2_91 mfX3_inPlay (t_X3_inPlay 9 (Or.inl rfl) s1) lo_9 rfl rfl ⟨Nat.le_of_ble_eq_true rfl, Nat.le_of_ble_eq_true rfl⟩ ⟨Nat.le_of_ble_eq_true rfl, Nat.le_of_ble_eq_true rfl⟩ rfl (Nat.le_of_ble_eq_true rfl)) rfl rfl rfl rfl (fun s3 r4 _ => ?_)
  refine gq_bipush (v := -4) (pc' := 18) dX2_stopTurn_16 rfl  (by decide) ?_
  refine gq_icmp_eq (pc' := 21) (tgt := 40) dX2_stopTurn_18 rfl (by decide) (fun c5 => ?_) (fun c5 => ?_)
  · refine gq_iconst (v := 2) (pc' := 41) dX2_stopTurn_40 rfl  (by decide) ?_
    exact gq_iret dX2_stopTurn_41 rfl rfl rfl
  · refine gq_aload_n (i := 0) (pc' := 22) dX2_stopTurn_21 rfl rfl ?_
    refine gq_getr (pc' := 25) dX2_stopTurn_22 rfl flX2_27 lo_1 rfl ?_
    refine gq_aload_n (i := 0) (pc' := 26) dX2_stopTurn_25 rfl rfl ?_
    refine gq_geti (pc' := 29) dX2_stopTurn_26 rfl flX2_58 lo_1 rfl ?_
    refine gq_iconst (v := 1) (pc' := 30) dX2_stopTurn_29 rfl  (by decide) ?_
    refine gq_callv (cs' := 0) (ns' := 0) (pc' := 33) (gq_siteSN (Mc := mX5_set) (As := [.ref (xa X 7), .int (s3 1 10), .int (1 : Int32)]) (rest := []) dX2_stopTurn_30 lkX2_43 mfX5_set (t_X5_set 7 151 lo_7 s3 (s3 1 10) (1 : Int32)) rfl ⟨Nat.le_of_ble_eq_true rfl, Nat.le_of_ble_eq_true rfl⟩ ⟨Nat.le_of_ble_eq_true rfl, Nat.le_of_ble_eq_true rfl⟩ rfl (Nat.le_of_ble_eq_true rfl)) rfl rfl rfl rfl (fun s6 _ _ => ?_)
    refine gq_aload_n (i := 0) (pc' := 34) dX2_stopTurn_33 rfl rfl ?_
    refine gq_getr (pc' := 37) dX2_stopTurn_34 rfl flX2_36 lo_1 rfl ?_
    refine gq_callv (cs' := 0) (ns' := 0) (pc' := 40) (gq_siteV (Mc := mX3_endTurn) (As := []) (rest := []) dX2_stopTurn_37 lkX2_111 mfX3_endTurn (t_X3_endTurn 9 (Or.inl rfl) s6) lo_9 rfl rfl ⟨Nat.le_of_ble_eq_true rfl, Nat.le_of_ble_eq_true rfl⟩ ⟨Nat.le_of_ble_eq_true rfl, Nat.le_of_ble_eq_true rfl⟩ rfl (Nat.le_of_ble_eq_true rfl)) rfl rfl rfl rfl (fun s8 _ _ => ?_)
    refine gq_iconst (v := 2) (pc' := 41) dX2_stopTurn_40 rfl  (by decide) ?_
    exact gq_iret dX2_stopTurn_41 rfl rfl rfl
set_option maxRecDepth 100000 in
set_option maxHeartbeats 4000000 in
theorem t_X2_find {X : q_Cx} {Λr : q_Lay} (σ : Sg) (p0 : Int32) : q_Ex X mX2_find (q_LA Λr) (q_LA Λr) [.ref (xa X 1), .int p0, .ref (xa X 15)] σ (f_X2_find σ p0) := by
  refine gq_ex mfX2_find (Nat.le_of_ble_eq_true rfl) ?_
  show q_G X mX2_find (q_QM X (q_LA Λr) mX2_find) ((q_LA Λr), 0, 0) σ 0 [(0, .ref (xa X 1)), (1, .int p0), (2, .ref (xa X 15))] [] _
  unfold f_X2_find
  refine gq_aload_n (i := 0) (pc' := 1) dX2_find_0 rfl rfl ?_
  refine gq_iload_n (i := 1) (pc' := 2) dX2_find_1 rfl rfl ?_
  refine gq_calli (cs' := 0) (ns' := 0) (pc' := 5) (gq_siteV (Mc := mX2_has) (As := [.int p0]) (rest := []) dX2_find_2 lkX2_97 mfX2_has (t_X2_has σ p0) lo_1 rfl rfl ⟨Nat.le_of_ble_eq_true rfl, Nat.le_of_ble_eq_true rfl⟩ ⟨Nat.le_of_ble_eq_true rfl, Nat.le_of_ble_eq_true rfl⟩ rfl (Nat.le_of_ble_eq_true rfl)) rfl rfl rfl rfl (fun s1 r2 _ => ?_)
  refine gq_if_ne (pc' := 8) (tgt := 10) dX2_find_5 rfl (by decide) (fun c3 => ?_) (fun c3 => ?_)
  · refine gq_iconst (v := -1) (pc' := 9) dX2_find_8 rfl  (by decide) ?_
    exact gq_iret dX2_find_9 rfl rfl rfl
  · refine gq_aload_n (i := 0) (pc' := 11) dX2_find_10 rfl rfl ?_
    refine gq_getr (pc' := 14) dX2_find_11 rfl flX2_24 lo_1 rfl ?_
    refine gq_iload_n (i := 1) (pc' := 15) dX2_find_14 rfl rfl ?_
    refine gq_calli (cs' := 0) (ns' := 0) (pc' := 18) (gq_siteSN (Mc := mX5_at) (As := [.ref (xa X 6), .int p0]) (rest := []) dX2_find_15 lkX2_69 mfX5_at (t_X5_at 6 150 (Or.inl lo_6) s1 p0) rfl ⟨Nat.le_of_ble_eq_true rfl, Nat.le_of_ble_eq_true rfl⟩ ⟨Nat.le_of_ble_eq_true rfl, Nat.le_of_ble_eq_true rfl⟩ rfl (Nat.le_of_ble_eq_true rfl)) rfl rfl rfl rfl (fun s4 r5 _ => ?_)
    refine gq_if_ne (pc' := 21) (tgt := 24) dX2_find_18 rfl (by decide) (fun c6 => ?_) (fun c6 => ?_)
    · refine gq_bipush (v := -2) (pc' := 23) dX2_find_21 rfl  (by decide) ?_
      exact gq_iret dX2_find_23 rfl rfl rfl
    · refine gq_aload_n (i := 2) (pc' := 25) dX2_find_24 rfl rfl ?_
      refine gq_aload_n (i := 0) (pc' := 26) dX2_find_25 rfl rfl ?_
      refine gq_getr (pc' := 29) dX2_find_26 rfl flX2_9 lo_1 rfl ?_
      refine gq_iload_n (i := 1) (pc' := 30) dX2_find_29 rfl rfl ?_
      refine gq_calli (cs' := 0) (ns' := 0) (pc' := 33) (gq_siteSN (Mc := mX5_at) (As := [.ref (xa X 2), .int p0]) (rest := [.ref (xa X 15)]) dX2_find_30 lkX2_69 mfX5_at (t_X5_at 2 150 (Or.inl lo_2) s4 p0) rfl ⟨Nat.le_of_ble_eq_true rfl, Nat.le_of_ble_eq_true rfl⟩ ⟨Nat.le_of_ble_eq_true rfl, Nat.le_of_ble_eq_true rfl⟩ rfl (Nat.le_of_ble_eq_true rfl)) rfl rfl rfl rfl (fun s7 r8 _ => ?_)
      refine gq_aload_n (i := 0) (pc' := 34) dX2_find_33 rfl rfl ?_
      refine gq_geti (pc' := 37) dX2_find_34 rfl flX2_58 lo_1 rfl ?_
      refine gq_iconst (v := 1) (pc' := 38) dX2_find_37 rfl  (by decide) ?_
      refine gq_isub (pc' := 39) dX2_find_38 rfl ?_
      refine gq_iload_n (i := 1) (pc' := 40) dX2_find_39 rfl rfl ?_
      refine gq_isub (pc' := 41) dX2_find_40 rfl ?_
      refine gq_calli (cs' := 0) (ns' := 0) (pc' := 44) (gq_siteV (Mc := mX0_letterFor) (As := [.int r8, .int (((s7 1 10) - (1 : Int32)) - p0)]) (rest := []) dX2_find_41 lkX2_117 mfX0_letterFor (t_X0_letterFor s7 r8 (((s7 1 10) - (1 : Int32)) - p0)) lo_15 rfl rfl ⟨Nat.le_of_ble_eq_true rfl, Nat.le_of_ble_eq_true rfl⟩ ⟨Nat.le_of_ble_eq_true rfl, Nat.le_of_ble_eq_true rfl⟩ rfl (Nat.le_of_ble_eq_true rfl)) rfl rfl rfl rfl (fun s9 r10 _ => ?_)
      refine gq_istore_n (l' := [(3, .int r10), (0, .ref (xa X 1)), (1, .int p0), (2, .ref (xa X 15))]) (pc' := 45) dX2_find_44 rfl (by decide) rfl ?_
      refine gq_iload_n (i := 0) (pc' := 46) dX2_find_45 rfl rfl ?_
      refine gq_bipush (v := -4) (pc' := 48) dX2_find_46 rfl  (by decide) ?_
      refine gq_icmp_ne (pc' := 51) (tgt := 54) dX2_find_48 rfl (by decide) (fun c11 => ?_) (fun c11 => ?_)
      · refine gq_bipush (v := -2) (pc' := 53) dX2_find_51 rfl  (by decide) ?_
        exact gq_iret dX2_find_53 rfl rfl rfl
      · refine gq_iload_n (i := 0) (pc' := 55) dX2_find_54 rfl rfl ?_
        refine gq_bipush (v := 82) (pc' := 57) dX2_find_55 rfl  (by decide) ?_
        refine gq_icmp_ne (pc' := 60) (tgt := 68) dX2_find_57 rfl (by decide) (fun c12 => ?_) (fun c12 => ?_)
        · refine gq_aload_n (i := 1) (pc' := 61) dX2_find_60 rfl rfl ?_
          refine gq_iload_n (i := 2) (pc' := 62) dX2_find_61 rfl rfl ?_
          refine gq_calli (cs' := 0) (ns' := 0) (pc' := 65) (gq_siteV (Mc := mX2_takeAway) (As := [.int p0]) (rest := []) dX2_find_62 lkX2_123 mfX2_takeAway (t_X2_takeAway s9 p0) lo_1 rfl rfl ⟨Nat.le_of_ble_eq_true rfl, Nat.le_of_ble_eq_true rfl⟩ ⟨Nat.le_of_ble_eq_true rfl, Nat.le_of_ble_eq_true rfl⟩ rfl (Nat.le_of_ble_eq_true rfl)) rfl rfl rfl rfl (fun s13 r14 _ => ?_)
          refine gq_goto (pc' := 73) dX2_find_65 (by decide) ?_
          exact gq_iret dX2_find_73 rfl rfl rfl
        · refine gq_aload_n (i := 1) (pc' := 69) dX2_find_68 rfl rfl ?_
          refine gq_iload_n (i := 2) (pc' := 70) dX2_find_69 rfl rfl ?_
          refine gq_calli (cs' := 0) (ns' := 0) (pc' := 73) (gq_siteV (Mc := mX2_stopTurn) (As := [.int p0]) (rest := []) dX2_find_70 lkX2_126 mfX2_stopTurn (t_X2_stopTurn s9 p0) lo_1 rfl rfl ⟨Nat.le_of_ble_eq_true rfl, Nat.le_of_ble_eq_true rfl⟩ ⟨Nat.le_of_ble_eq_true rfl, Nat.le_of_ble_eq_true rfl⟩ rfl (Nat.le_of_ble_eq_true rfl)) rfl rfl rfl rfl (fun s15 r16 _ => ?_)
          exact gq_iret dX2_find_73 rfl rfl rfl
set_option maxRecDepth 100000 in
set_option maxHeartbeats 4000000 in
theorem t_X2_counts {X : q_Cx} {Λr : q_Lay} (σ : Sg) (p0 : Int32) (p1 : Int32) : q_Ex X mX2_counts (q_LA Λr) (q_LA Λr) [.ref (xa X 1), .int p0, .int p1] σ (f_X2_counts σ p0 p1) := by
  refine gq_ex mfX2_counts (Nat.le_of_ble_eq_true rfl) ?_
  show q_G X mX2_counts (q_QM X (q_LA Λr) mX2_counts) ((q_LA Λr), 0, 0) σ 0 [(0, .ref (xa X 1)), (1, .int p0), (2, .int p1)] [] _
  unfold f_X2_counts
  refine gq_iload_n (i := 2) (pc' := 1) dX2_counts_0 rfl rfl ?_
  refine gq_if_ne (pc' := 4) (tgt := 6) dX2_counts_1 rfl (by decide) (fun c1 => ?_) (fun c1 => ?_)
  · refine gq_iconst (v := 1) (pc' := 5) dX2_counts_4 rfl  (by decide) ?_
    exact gq_zret dX2_counts_5 rfl rfl rfl rfl
  · refine gq_iload_n (i := 2) (pc' := 7) dX2_counts_6 rfl rfl ?_
    refine gq_iconst (v := 1) (pc' := 8) dX2_counts_7 rfl  (by decide) ?_
    refine gq_icmp_ne (pc' := 11) (tgt := 31) dX2_counts_8 rfl (by decide) (fun c2 => ?_) (fun c2 => ?_)
    · refine gq_aload_n (i := 0) (pc' := 12) dX2_counts_11 rfl rfl ?_
      refine gq_getr (pc' := 15) dX2_counts_12 rfl flX2_24 lo_1 rfl ?_
      refine gq_iload_n (i := 1) (pc' := 16) dX2_counts_15 rfl rfl ?_
      refine gq_calli (cs' := 0) (ns' := 0) (pc' := 19) (gq_siteSN (Mc := mX5_at) (As := [.ref (xa X 6), .int p0]) (rest := []) dX2_counts_16 lkX2_69 mfX5_at (t_X5_at 6 150 (Or.inl lo_6) σ p0) rfl ⟨Nat.le_of_ble_eq_true rfl, Nat.le_of_ble_eq_true rfl⟩ ⟨Nat.le_of_ble_eq_true rfl, Nat.le_of_ble_eq_true rfl⟩ rfl (Nat.le_of_ble_eq_true rfl)) rfl rfl rfl rfl (fun s3 r4 _ => ?_)
      refine gq_iconst (v := 1) (pc' := 20) dX2_counts_19 rfl  (by decide) ?_
      refine gq_icmp_ne (pc' := 23) (tgt := 27) dX2_counts_20 rfl (by decide) (fun c5 => ?_) (fun c5 => ?_)
      · refine gq_iconst (v := 1) (pc' := 24) dX2_counts_23 rfl  (by decide) ?_
        refine gq_goto (pc' := 42) dX2_counts_24 (by decide) ?_
        exact gq_zret dX2_counts_42 rfl rfl rfl rfl
      · refine gq_iconst (v := 0) (pc' := 28) dX2_counts_27 rfl  (by decide) ?_
        refine gq_goto (pc' := 42) dX2_counts_28 (by decide) ?_
        exact gq_zret dX2_counts_42 rfl rfl rfl rfl
    · refine gq_aload_n (i := 0) (pc' := 32) dX2_counts_31 rfl rfl ?_
      refine gq_getr (pc' := 35) dX2_counts_32 rfl flX2_9 lo_1 rfl ?_
      refine gq_iload_n (i := 1) (pc' := 36) dX2_counts_35 rfl rfl ?_
      refine gq_calli (cs' := 0) (ns' := 0) (pc' := 39) (gq_siteSN (Mc := mX5_at) (As := [.ref (xa X 2), .int p0]) (rest := []) dX2_counts_36 lkX2_69 mfX5_at (t_X5_at 2 150 (Or.inl lo_2) σ p0) rfl ⟨Nat.le_of_ble_eq_true rfl, Nat.le_of_ble_eq_true rfl⟩ ⟨Nat.le_of_ble_eq_true rfl, Nat.le_of_ble_eq_true rfl⟩ rfl (Nat.le_of_ble_eq_true rfl)) rfl rfl rfl rfl (fun s6 r7 _ => ?_)
      refine gq_calli (cs' := 0) (ns' := 0) (pc' := 42) (gq_siteS (Mc := mX2_begins) (As := [.int r7]) (rest := []) dX2_counts_39 lkX2_80 mfX2_begins (t_X2_begins s6 r7) rfl ⟨Nat.le_of_ble_eq_true rfl, Nat.le_of_ble_eq_true rfl⟩ ⟨Nat.le_of_ble_eq_true rfl, Nat.le_of_ble_eq_true rfl⟩ rfl (Nat.le_of_ble_eq_true rfl)) rfl rfl rfl rfl (fun s8 r9 _ => ?_)
      exact gq_zretq dX2_counts_42 rfl rfl rfl
set_option maxRecDepth 100000 in
set_option maxHeartbeats 4000000 in
theorem k_X2_total_L4 {X : q_Cx} {Λr : q_Lay} {rec : Sg → Int32 → Int32 → Int32 → Rs} (hrec : ∀ (σ : Sg) (x1 : Int32) (x2 : Int32) (x3 : Int32), q_G X mX2_total (q_QM X (q_LA Λr) mX2_total) ((q_LA Λr), 0, 0) σ 4 [(0, .ref (xa X 1)), (1, .int x1), (2, .int x2), (3, .int x3)] [] (rec σ x1 x2 x3)) (σ : Sg) (x1 : Int32) (x2 : Int32) (x3 : Int32) : q_G X mX2_total (q_QM X (q_LA Λr) mX2_total) ((q_LA Λr), 0, 0) σ 4 [(0, .ref (xa X 1)), (1, .int x1), (2, .int x2), (3, .int x3)] [] (s_X2_total_L4 rec σ x1 x2 x3) := by
  unfold s_X2_total_L4
  refine gq_iload_n (i := 3) (pc' := 5) dX2_total_4 rfl rfl ?_
  refine gq_aload_n (i := 0) (pc' := 6) dX2_total_5 rfl rfl ?_
  refine gq_geti (pc' := 9) dX2_total_6 rfl flX2_58 lo_1 rfl ?_
  refine gq_icmp_ge (pc' := 12) (tgt := 37) dX2_total_9 rfl (by decide) (fun c1 => ?_) (fun c1 => ?_)
  · refine gq_iload_n (i := 2) (pc' := 38) dX2_total_37 rfl rfl ?_
    exact gq_iret dX2_total_38 rfl rfl rfl
  · refine gq_iload_n (i := 3) (pc' := 13) dX2_total_12 rfl rfl ?_
    refine gq_sipush (v := 150) (pc' := 16) dX2_total_13 rfl  (by decide) ?_
    refine gq_icmp_ge (pc' := 19) (tgt := 37) dX2_total_16 rfl (by decide) (fun c2 => ?_) (fun c2 => ?_)
    · refine gq_iload_n (i := 2) (pc' := 38) dX2_total_37 rfl rfl ?_
      exact gq_iret dX2_total_38 rfl rfl rfl
    · refine gq_aload_n (i := 0) (pc' := 20) dX2_total_19 rfl rfl ?_
      refine gq_iload_n (i := 3) (pc' := 21) dX2_total_20 rfl rfl ?_
      refine gq_iload_n (i := 1) (pc' := 22) dX2_total_21 rfl rfl ?_
      refine gq_calli (cs' := 0) (ns' := 0) (pc' := 25) (gq_siteV (Mc := mX2_counts) (As := [.int x3, .int x1]) (rest := []) dX2_total_22 lkX2_129 mfX2_counts (t_X2_counts σ x3 x1) lo_1 rfl rfl ⟨Nat.le_of_ble_eq_true rfl, Nat.le_of_ble_eq_true rfl⟩ ⟨Nat.le_of_ble_eq_true rfl, Nat.le_of_ble_eq_true rfl⟩ rfl (Nat.le_of_ble_eq_true rfl)) rfl rfl rfl rfl (fun s3 r4 _ => ?_)
      refine gq_if_eq (pc' := 28) (tgt := 31) dX2_total_25 rfl (by decide) (fun c5 => ?_) (fun c5 => ?_)
      · refine gq_iincl (j := 3) (pc' := 34) dX2_total_31 rfl rfl (by decide) (by decide) (fun v6 => gq_sub (l' := [(3, .int v6), (0, .ref (xa X 1)), (1, .int x1), (2, .int x2)]) [0, 1, 2, 3] rfl ?_)
        refine gq_goto (pc' := 4) dX2_total_34 (by decide) ?_
        refine gq_sub (l' := [(0, .ref (xa X 1)), (1, .int x1), (2, .int x2), (3, .int v6)]) [1, 2, 3, 0] rfl ?_
        exact hrec s3 x1 x2 v6
      · refine gq_iincl (j := 2) (pc' := 31) dX2_total_28 rfl rfl (by decide) (by decide) (fun v7 => gq_sub (l' := [(2, .int v7), (0, .ref (xa X 1)), (1, .int x1), (3, .int x3)]) [0, 1, 2, 3] rfl ?_)
        refine gq_iincl (j := 3) (pc' := 34) dX2_total_31 rfl rfl (by decide) (by decide) (fun v8 => gq_sub (l' := [(3, .int v8), (2, .int v7), (0, .ref (xa X 1)), (1, .int x1)]) [0, 1, 2, 3] rfl ?_)
        refine gq_goto (pc' := 4) dX2_total_34 (by decide) ?_
        refine gq_sub (l' := [(0, .ref (xa X 1)), (1, .int x1), (2, .int v7), (3, .int v8)]) [2, 3, 1, 0] rfl ?_
        exact hrec s3 x1 v7 v8
set_option maxRecDepth 100000 in
set_option maxHeartbeats 4000000 in
theorem g_X2_total_L4 {X : q_Cx} {Λr : q_Lay} (qn : Nat) : ∀ (σ : Sg) (x1 : Int32) (x2 : Int32) (x3 : Int32), q_G X mX2_total (q_QM X (q_LA Λr) mX2_total) ((q_LA Λr), 0, 0) σ 4 [(0, .ref (xa X 1)), (1, .int x1), (2, .int x2), (3, .int x3)] [] (f_X2_total_L4 qn σ x1 x2 x3) := by
  induction qn with
  | zero => exact fun σ x1 x2 x3 => gq_none
  | succ qn ih => exact fun σ x1 x2 x3 => k_X2_total_L4 ih σ x1 x2 x3
set_option maxRecDepth 100000 in
set_option maxHeartbeats 4000000 in
theorem t_X2_total {X : q_Cx} {Λr : q_Lay} (σ : Sg) (p0 : Int32) : q_Ex X mX2_total (q_LA Λr) (q_LA Λr) [.ref (xa X 1), .int p0] σ (f_X2_total σ p0) := by
  refine gq_ex mfX2_total (Nat.le_of_ble_eq_true rfl) ?_
  show q_G X mX2_total (q_QM X (q_LA Λr) mX2_total) ((q_LA Λr), 0, 0) σ 0 [(0, .ref (xa X 1)), (1, .int p0)] [] _
  unfold f_X2_total
  refine gq_iconst (v := 0) (pc' := 1) dX2_total_0 rfl  (by decide) ?_
  refine gq_istore_n (l' := [(2, .int (0 : Int32)), (0, .ref (xa X 1)), (1, .int p0)]) (pc' := 2) dX2_total_1 rfl (by decide) rfl ?_
  refine gq_iconst (v := 0) (pc' := 3) dX2_total_2 rfl  (by decide) ?_
  refine gq_istore_n (l' := [(3, .int (0 : Int32)), (2, .int (0 : Int32)), (0, .ref (xa X 1)), (1, .int p0)]) (pc' := 4) dX2_total_3 rfl (by decide) rfl ?_
  refine gq_sub (l' := [(0, .ref (xa X 1)), (1, .int p0), (2, .int (0 : Int32)), (3, .int (0 : Int32))]) [2, 3, 1, 0] rfl ?_
  exact g_X2_total_L4 1000 σ p0 (0 : Int32) (0 : Int32)
end
section
-- GENERATED by wip/p23/gen.py: the walks
set_option maxRecDepth 100000 in
set_option maxHeartbeats 4000000 in
theorem t_X5_game {X : q_Cx} {Λr : q_Lay} (σ : Sg) (p0 : Int32) (p1 : Int32) : q_Ex X mX5_game (q_LA Λr) (q_LA Λr) [.ref (xa X 0), .int p0, .int p1] σ (f_X5_game σ p0 p1) := by
  refine gq_ex mfX5_game (Nat.le_of_ble_eq_true rfl) ?_
  show q_G X mX5_game (q_QM X (q_LA Λr) mX5_game) ((q_LA Λr), 0, 0) σ 0 [(0, .ref (xa X 0)), (1, .int p0), (2, .int p1)] [] _
  unfold f_X5_game
  refine gq_iload_n (i := 1) (pc' := 1) dX5_game_0 rfl rfl ?_
  refine gq_calli (cs' := 0) (ns' := 0) (pc' := 4) (gq_siteS (Mc := mX5_isPlayer) (As := [.int p0]) (rest := []) dX5_game_1 lkX5_37 mfX5_isPlayer (t_X5_isPlayer σ p0) rfl ⟨Nat.le_of_ble_eq_true rfl, Nat.le_of_ble_eq_true rfl⟩ ⟨Nat.le_of_ble_eq_true rfl, Nat.le_of_ble_eq_true rfl⟩ rfl (Nat.le_of_ble_eq_true rfl)) rfl rfl rfl rfl (fun s1 r2 _ => ?_)
  refine gq_if_eq (pc' := 7) (tgt := 19) dX5_game_4 rfl (by decide) (fun c3 => ?_) (fun c3 => ?_)
  · refine gq_bipush (v := -101) (pc' := 21) dX5_game_19 rfl  (by decide) ?_
    exact gq_iret dX5_game_21 rfl rfl rfl
  · refine gq_iload_n (i := 2) (pc' := 8) dX5_game_7 rfl rfl ?_
    refine gq_calli (cs' := 0) (ns' := 0) (pc' := 11) (gq_siteS (Mc := mX5_isPlayer) (As := [.int p1]) (rest := []) dX5_game_8 lkX5_37 mfX5_isPlayer (t_X5_isPlayer s1 p1) rfl ⟨Nat.le_of_ble_eq_true rfl, Nat.le_of_ble_eq_true rfl⟩ ⟨Nat.le_of_ble_eq_true rfl, Nat.le_of_ble_eq_true rfl⟩ rfl (Nat.le_of_ble_eq_true rfl)) rfl rfl rfl rfl (fun s4 r5 _ => ?_)
    refine gq_if_eq (pc' := 14) (tgt := 19) dX5_game_11 rfl (by decide) (fun c6 => ?_) (fun c6 => ?_)
    · refine gq_bipush (v := -101) (pc' := 21) dX5_game_19 rfl  (by decide) ?_
      exact gq_iret dX5_game_21 rfl rfl rfl
    · refine gq_iload_n (i := 1) (pc' := 15) dX5_game_14 rfl rfl ?_
      refine gq_iload_n (i := 2) (pc' := 16) dX5_game_15 rfl rfl ?_
      refine gq_icmp_ne (pc' := 19) (tgt := 22) dX5_game_16 rfl (by decide) (fun c7 => ?_) (fun c7 => ?_)
      · refine gq_bipush (v := -101) (pc' := 21) dX5_game_19 rfl  (by decide) ?_
        exact gq_iret dX5_game_21 rfl rfl rfl
      · refine gq_aload_n (i := 0) (pc' := 23) dX5_game_22 rfl rfl ?_
        refine gq_getr (pc' := 26) dX5_game_23 rfl flX5_26 lo_0 rfl ?_
        refine gq_iload_n (i := 1) (pc' := 27) dX5_game_26 rfl rfl ?_
        refine gq_iload_n (i := 2) (pc' := 28) dX5_game_27 rfl rfl ?_
        refine gq_calli (cs' := 0) (ns' := 0) (pc' := 31) (gq_siteV (Mc := mX4_freeTurnsOfOther) (As := [.int p0, .int p1]) (rest := []) dX5_game_28 lkX5_41 mfX4_freeTurnsOfOther (t_X4_freeTurnsOfOther s4 p0 p1) lo_21 rfl rfl ⟨Nat.le_of_ble_eq_true rfl, Nat.le_of_ble_eq_true rfl⟩ ⟨Nat.le_of_ble_eq_true rfl, Nat.le_of_ble_eq_true rfl⟩ rfl (Nat.le_of_ble_eq_true rfl)) rfl rfl rfl rfl (fun s8 r9 _ => ?_)
        refine gq_istore_n (l' := [(3, .int r9), (0, .ref (xa X 0)), (1, .int p0), (2, .int p1)]) (pc' := 32) dX5_game_31 rfl (by decide) rfl ?_
        refine gq_aload_n (i := 1) (pc' := 33) dX5_game_32 rfl rfl ?_
        refine gq_getr (pc' := 36) dX5_game_33 rfl flX5_12 lo_0 rfl ?_
        refine gq_iload_n (i := 2) (pc' := 37) dX5_game_36 rfl rfl ?_
        refine gq_iload_n (i := 3) (pc' := 38) dX5_game_37 rfl rfl ?_
        refine gq_iconst (v := 0) (pc' := 39) dX5_game_38 rfl  (by decide) ?_
        refine gq_iload_n (i := 0) (pc' := 40) dX5_game_39 rfl rfl ?_
        refine gq_ineg (pc' := 41) dX5_game_40 rfl ?_
        refine gq_mmax (pc' := 44) dX5_game_41 rfl lkX5_45 (Nat.le_of_ble_eq_true rfl) (Nat.le_of_ble_eq_true rfl) (Nat.le_of_ble_eq_true rfl) (Nat.le_of_ble_eq_true rfl) ?_
        refine gq_let (fun v10 => ?_)
        refine gq_iconst (v := 0) (pc' := 45) dX5_game_44 rfl  (by decide) ?_
        refine gq_iload_n (i := 0) (pc' := 46) dX5_game_45 rfl rfl ?_
        refine gq_mmax (pc' := 49) dX5_game_46 rfl lkX5_45 (Nat.le_of_ble_eq_true rfl) (Nat.le_of_ble_eq_true rfl) (Nat.le_of_ble_eq_true rfl) (Nat.le_of_ble_eq_true rfl) ?_
        refine gq_let (fun v11 => ?_)
        refine gq_callv (cs' := 0) (ns' := 0) (pc' := 52) (gq_siteV (Mc := mX2_begin) (As := [.int p0, .int p1, .int v10, .int v11]) (rest := []) dX5_game_49 lkX5_50 mfX2_begin (t_X2_begin s8 p0 p1 v10 v11) lo_1 rfl rfl ⟨Nat.le_of_ble_eq_true rfl, Nat.le_of_ble_eq_true rfl⟩ ⟨Nat.le_of_ble_eq_true rfl, Nat.le_of_ble_eq_true rfl⟩ rfl (Nat.le_of_ble_eq_true rfl)) rfl rfl rfl rfl (fun s12 _ _ => ?_)
        refine gq_iload_n (i := 0) (pc' := 53) dX5_game_52 rfl rfl ?_
        exact gq_iret dX5_game_53 rfl rfl rfl
set_option maxRecDepth 100000 in
set_option maxHeartbeats 4000000 in
theorem g_X5_stroke_J42 {X : q_Cx} {Λr : q_Lay} (σ : Sg) (x1 : Int32) (x2 : Int32) (x3 : Int32) : q_G X mX5_stroke (q_QM X (q_LA Λr) mX5_stroke) ((q_LA Λr), 0, 0) σ 42 [(0, .ref (xa X 0)), (1, .int x1), (2, .int x2), (3, .int x3)] [] (f_X5_stroke_J42 σ x1 x2 x3) := by
  unfold f_X5_stroke_J42
  refine gq_aload_n (i := 0) (pc' := 43) dX5_stroke_42 rfl rfl ?_
  refine gq_getr (pc' := 46) dX5_stroke_43 rfl flX5_12 lo_0 rfl ?_
  refine gq_iload_n (i := 1) (pc' := 47) dX5_stroke_46 rfl rfl ?_
  refine gq_iload_n (i := 3) (pc' := 48) dX5_stroke_47 rfl rfl ?_
  refine gq_if_eq (pc' := 51) (tgt := 55) dX5_stroke_48 rfl (by decide) (fun c6 => ?_) (fun c6 => ?_)
  · refine gq_iconst (v := 0) (pc' := 56) dX5_stroke_55 rfl  (by decide) ?_
    refine gq_calli (cs' := 0) (ns' := 0) (pc' := 59) (gq_siteV (Mc := mX2_take) (As := [.int x1, .int (0 : Int32)]) (rest := []) dX5_stroke_56 lkX5_58 mfX2_take (t_X2_take σ x1 (0 : Int32)) lo_1 rfl rfl ⟨Nat.le_of_ble_eq_true rfl, Nat.le_of_ble_eq_true rfl⟩ ⟨Nat.le_of_ble_eq_true rfl, Nat.le_of_ble_eq_true rfl⟩ rfl (Nat.le_of_ble_eq_true rfl)) rfl rfl rfl rfl (fun s7 r8 _ => ?_)
    exact gq_iret dX5_stroke_59 rfl rfl rfl
  · refine gq_iload_n (i := 2) (pc' := 52) dX5_stroke_51 rfl rfl ?_
    refine gq_goto (pc' := 56) dX5_stroke_52 (by decide) ?_
    refine gq_calli (cs' := 0) (ns' := 0) (pc' := 59) (gq_siteV (Mc := mX2_take) (As := [.int x1, .int x2]) (rest := []) dX5_stroke_56 lkX5_58 mfX2_take (t_X2_take σ x1 x2) lo_1 rfl rfl ⟨Nat.le_of_ble_eq_true rfl, Nat.le_of_ble_eq_true rfl⟩ ⟨Nat.le_of_ble_eq_true rfl, Nat.le_of_ble_eq_true rfl⟩ rfl (Nat.le_of_ble_eq_true rfl)) rfl rfl rfl rfl (fun s9 r10 _ => ?_)
    exact gq_iret dX5_stroke_59 rfl rfl rfl
set_option maxRecDepth 100000 in
set_option maxHeartbeats 4000000 in
theorem g_X5_stroke_J26 {X : q_Cx} {Λr : q_Lay} (σ : Sg) (x1 : Int32) (x2 : Int32) (y0 : Int32) : q_G X mX5_stroke (q_QM X (q_LA Λr) mX5_stroke) ((q_LA Λr), 0, 0) σ 26 [(0, .ref (xa X 0)), (1, .int x1), (2, .int x2)] [.int y0] (f_X5_stroke_J26 σ x1 x2 y0) := by
  unfold f_X5_stroke_J26
  refine gq_istore_n (l' := [(3, .int y0), (0, .ref (xa X 0)), (1, .int x1), (2, .int x2)]) (pc' := 27) dX5_stroke_26 rfl (by decide) rfl ?_
  refine gq_iload_n (i := 0) (pc' := 28) dX5_stroke_27 rfl rfl ?_
  refine gq_if_eq (pc' := 31) (tgt := 42) dX5_stroke_28 rfl (by decide) (fun c5 => ?_) (fun c5 => ?_)
  · refine gq_sub (l' := [(0, .ref (xa X 0)), (1, .int x1), (2, .int x2), (3, .int y0)]) [1, 2, 3, 0] rfl ?_
    exact g_X5_stroke_J42 σ x1 x2 y0
  · refine gq_iload_n (i := 3) (pc' := 32) dX5_stroke_31 rfl rfl ?_
    refine gq_iconst (v := 0) (pc' := 33) dX5_stroke_32 rfl  (by decide) ?_
    refine gq_iconst (v := 3) (pc' := 34) dX5_stroke_33 rfl  (by decide) ?_
    refine gq_calli (cs' := 0) (ns' := 0) (pc' := 37) (gq_siteS (Mc := mX5_within) (As := [.int x2, .int (0 : Int32), .int (3 : Int32)]) (rest := []) dX5_stroke_34 lkX5_54 mfX5_within (t_X5_within σ x2 (0 : Int32) (3 : Int32)) rfl ⟨Nat.le_of_ble_eq_true rfl, Nat.le_of_ble_eq_true rfl⟩ ⟨Nat.le_of_ble_eq_true rfl, Nat.le_of_ble_eq_true rfl⟩ rfl (Nat.le_of_ble_eq_true rfl)) rfl rfl rfl rfl (fun s11 r12 _ => ?_)
    refine gq_if_ne (pc' := 40) (tgt := 42) dX5_stroke_37 rfl (by decide) (fun c13 => ?_) (fun c13 => ?_)
    · refine gq_iconst (v := -1) (pc' := 41) dX5_stroke_40 rfl  (by decide) ?_
      exact gq_iret dX5_stroke_41 rfl rfl rfl
    · refine gq_sub (l' := [(0, .ref (xa X 0)), (1, .int x1), (2, .int x2), (3, .int y0)]) [1, 2, 3, 0] rfl ?_
      exact g_X5_stroke_J42 s11 x1 x2 y0
set_option maxRecDepth 100000 in
set_option maxHeartbeats 4000000 in
theorem g_X5_stroke_J21 {X : q_Cx} {Λr : q_Lay} (σ : Sg) (x1 : Int32) (x2 : Int32) : q_G X mX5_stroke (q_QM X (q_LA Λr) mX5_stroke) ((q_LA Λr), 0, 0) σ 21 [(0, .ref (xa X 0)), (1, .int x1), (2, .int x2)] [] (f_X5_stroke_J21 σ x1 x2) := by
  unfold f_X5_stroke_J21
  refine gq_iconst (v := 1) (pc' := 22) dX5_stroke_21 rfl  (by decide) ?_
  refine gq_goto (pc' := 26) dX5_stroke_22 (by decide) ?_
  refine gq_sub (l' := [(0, .ref (xa X 0)), (1, .int x1), (2, .int x2)]) [0, 1, 2] rfl ?_
  exact g_X5_stroke_J26 σ x1 x2 (1 : Int32)
set_option maxRecDepth 100000 in
set_option maxHeartbeats 4000000 in
theorem t_X5_stroke {X : q_Cx} {Λr : q_Lay} (σ : Sg) (p0 : Int32) (p1 : Int32) : q_Ex X mX5_stroke (q_LA Λr) (q_LA Λr) [.ref (xa X 0), .int p0, .int p1] σ (f_X5_stroke σ p0 p1) := by
  refine gq_ex mfX5_stroke (Nat.le_of_ble_eq_true rfl) ?_
  show q_G X mX5_stroke (q_QM X (q_LA Λr) mX5_stroke) ((q_LA Λr), 0, 0) σ 0 [(0, .ref (xa X 0)), (1, .int p0), (2, .int p1)] [] _
  unfold f_X5_stroke
  refine gq_iload_n (i := 1) (pc' := 1) dX5_stroke_0 rfl rfl ?_
  refine gq_iconst (v := 0) (pc' := 2) dX5_stroke_1 rfl  (by decide) ?_
  refine gq_bipush (v := 6) (pc' := 4) dX5_stroke_2 rfl  (by decide) ?_
  refine gq_calli (cs' := 0) (ns' := 0) (pc' := 7) (gq_siteS (Mc := mX5_within) (As := [.int p0, .int (0 : Int32), .int (6 : Int32)]) (rest := []) dX5_stroke_4 lkX5_54 mfX5_within (t_X5_within σ p0 (0 : Int32) (6 : Int32)) rfl ⟨Nat.le_of_ble_eq_true rfl, Nat.le_of_ble_eq_true rfl⟩ ⟨Nat.le_of_ble_eq_true rfl, Nat.le_of_ble_eq_true rfl⟩ rfl (Nat.le_of_ble_eq_true rfl)) rfl rfl rfl rfl (fun s1 r2 _ => ?_)
  refine gq_if_ne (pc' := 10) (tgt := 12) dX5_stroke_7 rfl (by decide) (fun c3 => ?_) (fun c3 => ?_)
  · refine gq_iconst (v := -1) (pc' := 11) dX5_stroke_10 rfl  (by decide) ?_
    exact gq_iret dX5_stroke_11 rfl rfl rfl
  · refine gq_iload_n (i := 1) (pc' := 13) dX5_stroke_12 rfl rfl ?_
    refine gq_if_eq (pc' := 16) (tgt := 21) dX5_stroke_13 rfl (by decide) (fun c4 => ?_) (fun c4 => ?_)
    · refine gq_sub (l' := [(0, .ref (xa X 0)), (1, .int p0), (2, .int p1)]) [0, 1, 2] rfl ?_
      exact g_X5_stroke_J21 s1 p0 p1
    · refine gq_iload_n (i := 1) (pc' := 17) dX5_stroke_16 rfl rfl ?_
      refine gq_iconst (v := 3) (pc' := 18) dX5_stroke_17 rfl  (by decide) ?_
      refine gq_icmp_ne (pc' := 21) (tgt := 25) dX5_stroke_18 rfl (by decide) (fun c14 => ?_) (fun c14 => ?_)
      · refine gq_sub (l' := [(0, .ref (xa X 0)), (1, .int p0), (2, .int p1)]) [0, 1, 2] rfl ?_
        exact g_X5_stroke_J21 s1 p0 p1
      · refine gq_iconst (v := 0) (pc' := 26) dX5_stroke_25 rfl  (by decide) ?_
        refine gq_sub (l' := [(0, .ref (xa X 0)), (1, .int p0), (2, .int p1)]) [0, 1, 2] rfl ?_
        exact g_X5_stroke_J26 s1 p0 p1 (0 : Int32)
set_option maxRecDepth 100000 in
set_option maxHeartbeats 4000000 in
theorem t_X5_told {X : q_Cx} {Λr : q_Lay} (σ : Sg) (p0 : Int32) (p1 : Int32) : q_Ex X mX5_told (q_LA Λr) (q_LA Λr) [.ref (xa X 0), .int p0, .int p1] σ (f_X5_told σ p0 p1) := by
  refine gq_ex mfX5_told (Nat.le_of_ble_eq_true rfl) ?_
  show q_G X mX5_told (q_QM X (q_LA Λr) mX5_told) ((q_LA Λr), 0, 0) σ 0 [(0, .ref (xa X 0)), (1, .int p0), (2, .int p1)] [] _
  unfold f_X5_told
  refine gq_iload_n (i := 1) (pc' := 1) dX5_told_0 rfl rfl ?_
  refine gq_if_lt (pc' := 4) (tgt := 13) dX5_told_1 rfl (by decide) (fun c1 => ?_) (fun c1 => ?_)
  · refine gq_iconst (v := -1) (pc' := 14) dX5_told_13 rfl  (by decide) ?_
    refine gq_goto (pc' := 26) dX5_told_14 (by decide) ?_
    exact gq_iret dX5_told_26 rfl rfl rfl
  · refine gq_iload_n (i := 2) (pc' := 5) dX5_told_4 rfl rfl ?_
    refine gq_iconst (v := 0) (pc' := 6) dX5_told_5 rfl  (by decide) ?_
    refine gq_iconst (v := 3) (pc' := 7) dX5_told_6 rfl  (by decide) ?_
    refine gq_calli (cs' := 0) (ns' := 0) (pc' := 10) (gq_siteS (Mc := mX5_within) (As := [.int p1, .int (0 : Int32), .int (3 : Int32)]) (rest := []) dX5_told_7 lkX5_54 mfX5_within (t_X5_within σ p1 (0 : Int32) (3 : Int32)) rfl ⟨Nat.le_of_ble_eq_true rfl, Nat.le_of_ble_eq_true rfl⟩ ⟨Nat.le_of_ble_eq_true rfl, Nat.le_of_ble_eq_true rfl⟩ rfl (Nat.le_of_ble_eq_true rfl)) rfl rfl rfl rfl (fun s2 r3 _ => ?_)
    refine gq_if_ne (pc' := 13) (tgt := 17) dX5_told_10 rfl (by decide) (fun c4 => ?_) (fun c4 => ?_)
    · refine gq_iconst (v := -1) (pc' := 14) dX5_told_13 rfl  (by decide) ?_
      refine gq_goto (pc' := 26) dX5_told_14 (by decide) ?_
      exact gq_iret dX5_told_26 rfl rfl rfl
    · refine gq_aload_n (i := 0) (pc' := 18) dX5_told_17 rfl rfl ?_
      refine gq_getr (pc' := 21) dX5_told_18 rfl flX5_12 lo_0 rfl ?_
      refine gq_iload_n (i := 1) (pc' := 22) dX5_told_21 rfl rfl ?_
      refine gq_iload_n (i := 2) (pc' := 23) dX5_told_22 rfl rfl ?_
      refine gq_calli (cs' := 0) (ns' := 0) (pc' := 26) (gq_siteV (Mc := mX2_tell) (As := [.int p0, .int p1]) (rest := []) dX5_told_23 lkX5_61 mfX2_tell (t_X2_tell s2 p0 p1) lo_1 rfl rfl ⟨Nat.le_of_ble_eq_true rfl, Nat.le_of_ble_eq_true rfl⟩ ⟨Nat.le_of_ble_eq_true rfl, Nat.le_of_ble_eq_true rfl⟩ rfl (Nat.le_of_ble_eq_true rfl)) rfl rfl rfl rfl (fun s5 r6 _ => ?_)
      exact gq_iret dX5_told_26 rfl rfl rfl
set_option maxRecDepth 100000 in
set_option maxHeartbeats 4000000 in
theorem t_X5_state {X : q_Cx} {Λr : q_Lay} (σ : Sg) (p0 : Int32) (p1 : Int32) : q_Ex X mX5_state (q_LA Λr) (q_LA Λr) [.ref (xa X 0), .int p0, .int p1] σ (f_X5_state σ p0 p1) := by
  refine gq_ex mfX5_state (Nat.le_of_ble_eq_true rfl) ?_
  show q_G X mX5_state (q_QM X (q_LA Λr) mX5_state) ((q_LA Λr), 0, 0) σ 0 [(0, .ref (xa X 0)), (1, .int p0), (2, .int p1)] [] _
  unfold f_X5_state
  refine gq_iload_n (i := 2) (pc' := 1) dX5_state_0 rfl rfl ?_
  refine gq_iconst (v := 0) (pc' := 2) dX5_state_1 rfl  (by decide) ?_
  refine gq_bipush (v := 11) (pc' := 4) dX5_state_2 rfl  (by decide) ?_
  refine gq_calli (cs' := 0) (ns' := 0) (pc' := 7) (gq_siteS (Mc := mX5_within) (As := [.int p1, .int (0 : Int32), .int (11 : Int32)]) (rest := []) dX5_state_4 lkX5_54 mfX5_within (t_X5_within σ p1 (0 : Int32) (11 : Int32)) rfl ⟨Nat.le_of_ble_eq_true rfl, Nat.le_of_ble_eq_true rfl⟩ ⟨Nat.le_of_ble_eq_true rfl, Nat.le_of_ble_eq_true rfl⟩ rfl (Nat.le_of_ble_eq_true rfl)) rfl rfl rfl rfl (fun s1 r2 _ => ?_)
  refine gq_if_eq (pc' := 10) (tgt := 22) dX5_state_7 rfl (by decide) (fun c3 => ?_) (fun c3 => ?_)
  · refine gq_iconst (v := -1) (pc' := 23) dX5_state_22 rfl  (by decide) ?_
    exact gq_iret dX5_state_23 rfl rfl rfl
  · refine gq_aload_n (i := 0) (pc' := 11) dX5_state_10 rfl rfl ?_
    refine gq_getr (pc' := 14) dX5_state_11 rfl flX5_12 lo_0 rfl ?_
    refine gq_iload_n (i := 1) (pc' := 15) dX5_state_14 rfl rfl ?_
    refine gq_iload_n (i := 2) (pc' := 16) dX5_state_15 rfl rfl ?_
    refine gq_calli (cs' := 0) (ns' := 0) (pc' := 19) (gq_siteV (Mc := mX2_asOf) (As := [.int p0, .int p1]) (rest := []) dX5_state_16 lkX5_68 mfX2_asOf (t_X2_asOf s1 p0 p1) lo_1 rfl rfl ⟨Nat.le_of_ble_eq_true rfl, Nat.le_of_ble_eq_true rfl⟩ ⟨Nat.le_of_ble_eq_true rfl, Nat.le_of_ble_eq_true rfl⟩ rfl (Nat.le_of_ble_eq_true rfl)) rfl rfl rfl rfl (fun s4 r5 _ => ?_)
    refine gq_goto (pc' := 23) dX5_state_19 (by decide) ?_
    exact gq_iret dX5_state_23 rfl rfl rfl
set_option maxRecDepth 100000 in
set_option maxHeartbeats 4000000 in
theorem t_X5_found {X : q_Cx} {Λr : q_Lay} (σ : Sg) (p0 : Int32) : q_Ex X mX5_found (q_LA Λr) (q_LA Λr) [.ref (xa X 0), .int p0] σ (f_X5_found σ p0) := by
  refine gq_ex mfX5_found (Nat.le_of_ble_eq_true rfl) ?_
  show q_G X mX5_found (q_QM X (q_LA Λr) mX5_found) ((q_LA Λr), 0, 0) σ 0 [(0, .ref (xa X 0)), (1, .int p0)] [] _
  unfold f_X5_found
  refine gq_aload_n (i := 0) (pc' := 1) dX5_found_0 rfl rfl ?_
  refine gq_getr (pc' := 4) dX5_found_1 rfl flX5_12 lo_0 rfl ?_
  refine gq_iload_n (i := 1) (pc' := 5) dX5_found_4 rfl rfl ?_
  refine gq_aload_n (i := 0) (pc' := 6) dX5_found_5 rfl rfl ?_
  refine gq_getr (pc' := 9) dX5_found_6 rfl flX5_19 lo_0 rfl ?_
  refine gq_calli (cs' := 0) (ns' := 0) (pc' := 12) (gq_siteV (Mc := mX2_find) (As := [.int p0, .ref (xa X 15)]) (rest := []) dX5_found_9 lkX5_71 mfX2_find (t_X2_find σ p0) lo_1 rfl rfl ⟨Nat.le_of_ble_eq_true rfl, Nat.le_of_ble_eq_true rfl⟩ ⟨Nat.le_of_ble_eq_true rfl, Nat.le_of_ble_eq_true rfl⟩ rfl (Nat.le_of_ble_eq_true rfl)) rfl rfl rfl rfl (fun s1 r2 _ => ?_)
  exact gq_iret dX5_found_12 rfl rfl rfl
set_option maxRecDepth 100000 in
set_option maxHeartbeats 4000000 in
theorem t_X5_type {X : q_Cx} {Λr : q_Lay} (σ : Sg) (p0 : Int64) (p1 : Int32) : q_Ex X mX5_type (q_LA Λr) (q_LA Λr) [.ref (xa X 0), .long p0, .int p1] σ (f_X5_type σ p0 p1) := by
  refine gq_ex mfX5_type (Nat.le_of_ble_eq_true rfl) ?_
  show q_G X mX5_type (q_QM X (q_LA Λr) mX5_type) ((q_LA Λr), 0, 0) σ 0 [(0, .ref (xa X 0)), (1, .long p0), (3, .int p1)] [] _
  unfold f_X5_type
  refine gq_aload_n (i := 0) (pc' := 1) dX5_type_0 rfl rfl ?_
  refine gq_getr (pc' := 4) dX5_type_1 rfl flX5_19 lo_0 rfl ?_
  refine gq_lload_n (i := 1) (pc' := 5) dX5_type_4 rfl rfl ?_
  refine gq_iload_n (i := 2) (pc' := 6) dX5_type_5 rfl rfl ?_
  refine gq_calli (cs' := 0) (ns' := 0) (pc' := 9) (gq_siteV (Mc := mX0_append) (As := [.long p0, .int p1]) (rest := []) dX5_type_6 lkX5_75 mfX0_append (t_X0_append σ p0 p1) lo_15 rfl rfl ⟨Nat.le_of_ble_eq_true rfl, Nat.le_of_ble_eq_true rfl⟩ ⟨Nat.le_of_ble_eq_true rfl, Nat.le_of_ble_eq_true rfl⟩ rfl (Nat.le_of_ble_eq_true rfl)) rfl rfl rfl rfl (fun s1 r2 _ => ?_)
  exact gq_iret dX5_type_9 rfl rfl rfl
set_option maxRecDepth 100000 in
set_option maxHeartbeats 4000000 in
theorem t_X5_laws {X : q_Cx} {Λr : q_Lay} (σ : Sg) : q_Ex X mX5_laws (q_LA Λr) (q_LA Λr) [.ref (xa X 0)] σ (f_X5_laws σ) := by
  refine gq_ex mfX5_laws (Nat.le_of_ble_eq_true rfl) ?_
  show q_G X mX5_laws (q_QM X (q_LA Λr) mX5_laws) ((q_LA Λr), 0, 0) σ 0 [(0, .ref (xa X 0))] [] _
  unfold f_X5_laws
  refine gq_aload_n (i := 0) (pc' := 1) dX5_laws_0 rfl rfl ?_
  refine gq_getr (pc' := 4) dX5_laws_1 rfl flX5_19 lo_0 rfl ?_
  refine gq_calli (cs' := 0) (ns' := 0) (pc' := 7) (gq_siteV (Mc := mX0_takeTape) (As := []) (rest := []) dX5_laws_4 lkX5_79 mfX0_takeTape (t_X0_takeTape σ) lo_15 rfl rfl ⟨Nat.le_of_ble_eq_true rfl, Nat.le_of_ble_eq_true rfl⟩ ⟨Nat.le_of_ble_eq_true rfl, Nat.le_of_ble_eq_true rfl⟩ rfl (Nat.le_of_ble_eq_true rfl)) rfl rfl rfl rfl (fun s1 r2 _ => ?_)
  exact gq_iret dX5_laws_7 rfl rfl rfl
set_option maxRecDepth 100000 in
set_option maxHeartbeats 4000000 in
theorem t_X5_count {X : q_Cx} {Λr : q_Lay} (σ : Sg) (p0 : Int32) : q_Ex X mX5_count (q_LA Λr) (q_LA Λr) [.ref (xa X 0), .int p0] σ (f_X5_count σ p0) := by
  refine gq_ex mfX5_count (Nat.le_of_ble_eq_true rfl) ?_
  show q_G X mX5_count (q_QM X (q_LA Λr) mX5_count) ((q_LA Λr), 0, 0) σ 0 [(0, .ref (xa X 0)), (1, .int p0)] [] _
  unfold f_X5_count
  refine gq_iload_n (i := 1) (pc' := 1) dX5_count_0 rfl rfl ?_
  refine gq_iconst (v := 0) (pc' := 2) dX5_count_1 rfl  (by decide) ?_
  refine gq_iconst (v := 2) (pc' := 3) dX5_count_2 rfl  (by decide) ?_
  refine gq_calli (cs' := 0) (ns' := 0) (pc' := 6) (gq_siteS (Mc := mX5_within) (As := [.int p0, .int (0 : Int32), .int (2 : Int32)]) (rest := []) dX5_count_3 lkX5_54 mfX5_within (t_X5_within σ p0 (0 : Int32) (2 : Int32)) rfl ⟨Nat.le_of_ble_eq_true rfl, Nat.le_of_ble_eq_true rfl⟩ ⟨Nat.le_of_ble_eq_true rfl, Nat.le_of_ble_eq_true rfl⟩ rfl (Nat.le_of_ble_eq_true rfl)) rfl rfl rfl rfl (fun s1 r2 _ => ?_)
  refine gq_if_eq (pc' := 9) (tgt := 20) dX5_count_6 rfl (by decide) (fun c3 => ?_) (fun c3 => ?_)
  · refine gq_iconst (v := -1) (pc' := 21) dX5_count_20 rfl  (by decide) ?_
    exact gq_iret dX5_count_21 rfl rfl rfl
  · refine gq_aload_n (i := 0) (pc' := 10) dX5_count_9 rfl rfl ?_
    refine gq_getr (pc' := 13) dX5_count_10 rfl flX5_12 lo_0 rfl ?_
    refine gq_iload_n (i := 1) (pc' := 14) dX5_count_13 rfl rfl ?_
    refine gq_calli (cs' := 0) (ns' := 0) (pc' := 17) (gq_siteV (Mc := mX2_total) (As := [.int p0]) (rest := []) dX5_count_14 lkX5_83 mfX2_total (t_X2_total s1 p0) lo_1 rfl rfl ⟨Nat.le_of_ble_eq_true rfl, Nat.le_of_ble_eq_true rfl⟩ ⟨Nat.le_of_ble_eq_true rfl, Nat.le_of_ble_eq_true rfl⟩ rfl (Nat.le_of_ble_eq_true rfl)) rfl rfl rfl rfl (fun s4 r5 _ => ?_)
    refine gq_goto (pc' := 21) dX5_count_17 (by decide) ?_
    exact gq_iret dX5_count_21 rfl rfl rfl
set_option maxRecDepth 100000 in
set_option maxHeartbeats 4000000 in
theorem t_X5_index {X : q_Cx} {Λr : q_Lay} (σ : Sg) (p0 : Int32) (p1 : Int32) : q_Ex X mX5_index (q_LA Λr) (q_LA Λr) [.ref (xa X 0), .int p0, .int p1] σ (f_X5_index σ p0 p1) := by
  refine gq_ex mfX5_index (Nat.le_of_ble_eq_true rfl) ?_
  show q_G X mX5_index (q_QM X (q_LA Λr) mX5_index) ((q_LA Λr), 0, 0) σ 0 [(0, .ref (xa X 0)), (1, .int p0), (2, .int p1)] [] _
  unfold f_X5_index
  refine gq_iload_n (i := 1) (pc' := 1) dX5_index_0 rfl rfl ?_
  refine gq_calli (cs' := 0) (ns' := 0) (pc' := 4) (gq_siteS (Mc := mX5_isPlayer) (As := [.int p0]) (rest := []) dX5_index_1 lkX5_37 mfX5_isPlayer (t_X5_isPlayer σ p0) rfl ⟨Nat.le_of_ble_eq_true rfl, Nat.le_of_ble_eq_true rfl⟩ ⟨Nat.le_of_ble_eq_true rfl, Nat.le_of_ble_eq_true rfl⟩ rfl (Nat.le_of_ble_eq_true rfl)) rfl rfl rfl rfl (fun s1 r2 _ => ?_)
  refine gq_if_eq (pc' := 7) (tgt := 30) dX5_index_4 rfl (by decide) (fun c3 => ?_) (fun c3 => ?_)
  · refine gq_iconst (v := -1) (pc' := 31) dX5_index_30 rfl  (by decide) ?_
    exact gq_iret dX5_index_31 rfl rfl rfl
  · refine gq_iload_n (i := 2) (pc' := 8) dX5_index_7 rfl rfl ?_
    refine gq_iconst (v := 0) (pc' := 9) dX5_index_8 rfl  (by decide) ?_
    refine gq_sipush (v := 2000) (pc' := 12) dX5_index_9 rfl  (by decide) ?_
    refine gq_calli (cs' := 0) (ns' := 0) (pc' := 15) (gq_siteS (Mc := mX5_within) (As := [.int p1, .int (0 : Int32), .int (2000 : Int32)]) (rest := []) dX5_index_12 lkX5_54 mfX5_within (t_X5_within s1 p1 (0 : Int32) (2000 : Int32)) rfl ⟨Nat.le_of_ble_eq_true rfl, Nat.le_of_ble_eq_true rfl⟩ ⟨Nat.le_of_ble_eq_true rfl, Nat.le_of_ble_eq_true rfl⟩ rfl (Nat.le_of_ble_eq_true rfl)) rfl rfl rfl rfl (fun s4 r5 _ => ?_)
    refine gq_if_eq (pc' := 18) (tgt := 30) dX5_index_15 rfl (by decide) (fun c6 => ?_) (fun c6 => ?_)
    · refine gq_iconst (v := -1) (pc' := 31) dX5_index_30 rfl  (by decide) ?_
      exact gq_iret dX5_index_31 rfl rfl rfl
    · refine gq_aload_n (i := 0) (pc' := 19) dX5_index_18 rfl rfl ?_
      refine gq_getr (pc' := 22) dX5_index_19 rfl flX5_26 lo_0 rfl ?_
      refine gq_iload_n (i := 1) (pc' := 23) dX5_index_22 rfl rfl ?_
      refine gq_iload_n (i := 2) (pc' := 24) dX5_index_23 rfl rfl ?_
      refine gq_calli (cs' := 0) (ns' := 0) (pc' := 27) (gq_siteV (Mc := mX4_put) (As := [.int p0, .int p1]) (rest := []) dX5_index_24 lkX5_86 mfX4_put (t_X4_put s4 p0 p1) lo_21 rfl rfl ⟨Nat.le_of_ble_eq_true rfl, Nat.le_of_ble_eq_true rfl⟩ ⟨Nat.le_of_ble_eq_true rfl, Nat.le_of_ble_eq_true rfl⟩ rfl (Nat.le_of_ble_eq_true rfl)) rfl rfl rfl rfl (fun s7 r8 _ => ?_)
      refine gq_goto (pc' := 31) dX5_index_27 (by decide) ?_
      exact gq_iret dX5_index_31 rfl rfl rfl
end
section
-- GENERATED by wip/p23/gen.py: the walks
set_option maxRecDepth 100000 in
set_option maxHeartbeats 4000000 in
theorem k_L_told_L5 {X : q_Cx} {Λr : q_Lay} {rec : Sg → Int32 → Int64 → Int32 → Rs} (hrec : ∀ (σ : Sg) (x1 : Int32) (x2 : Int64) (x4 : Int32), q_G X mL_told (q_QM X (q_LA Λr) mL_told) ((q_LA Λr), 0, 0) σ 5 [(0, .ref (xa X 0)), (1, .int x1), (2, .long x2), (4, .int x4)] [] (rec σ x1 x2 x4)) (σ : Sg) (x1 : Int32) (x2 : Int64) (x4 : Int32) : q_G X mL_told (q_QM X (q_LA Λr) mL_told) ((q_LA Λr), 0, 0) σ 5 [(0, .ref (xa X 0)), (1, .int x1), (2, .long x2), (4, .int x4)] [] (s_L_told_L5 rec σ x1 x2 x4) := by
  unfold s_L_told_L5
  refine gq_iload (i := 3) (pc' := 7) dL_told_5 rfl rfl ?_
  refine gq_bipush (v := 12) (pc' := 9) dL_told_7 rfl  (by decide) ?_
  refine gq_icmp_ge (pc' := 12) (tgt := 37) dL_told_9 rfl (by decide) (fun c1 => ?_) (fun c1 => ?_)
  · refine gq_lload_n (i := 2) (pc' := 38) dL_told_37 rfl rfl ?_
    exact gq_lret dL_told_38 rfl rfl rfl
  · refine gq_ldc2 (v := 41) (pc' := 15) dL_told_12 rfl (List.mem_filter.mpr ⟨List.mem_of_getElem? (i := 389) (by decide +kernel), by decide +kernel⟩) ?_
    refine gq_lload_n (i := 2) (pc' := 16) dL_told_15 rfl rfl ?_
    refine gq_lmul (pc' := 17) dL_told_16 rfl ?_
    refine gq_aload_n (i := 0) (pc' := 18) dL_told_17 rfl rfl ?_
    refine gq_iload_n (i := 1) (pc' := 19) dL_told_18 rfl rfl ?_
    refine gq_iload (i := 3) (pc' := 21) dL_told_19 rfl rfl ?_
    refine gq_calli (cs' := 0) (ns' := 0) (pc' := 24) (gq_siteV (Mc := mX5_state) (As := [.int x1, .int x4]) (rest := [.long ((41 : Int64) * x2)]) dL_told_21 lkL_13 mfX5_state (t_X5_state σ x1 x4) lo_0 rfl rfl ⟨Nat.le_of_ble_eq_true rfl, Nat.le_of_ble_eq_true rfl⟩ ⟨Nat.le_of_ble_eq_true rfl, Nat.le_of_ble_eq_true rfl⟩ rfl (Nat.le_of_ble_eq_true rfl)) rfl rfl rfl rfl (fun s2 r3 _ => ?_)
    refine gq_i2l (pc' := 25) dL_told_24 rfl ?_
    refine gq_ladd (pc' := 26) dL_told_25 rfl ?_
    refine gq_ldc2 (v := 5) (pc' := 29) dL_told_26 rfl (List.mem_filter.mpr ⟨List.mem_of_getElem? (i := 390) (by decide +kernel), by decide +kernel⟩) ?_
    refine gq_ladd (pc' := 30) dL_told_29 rfl ?_
    refine gq_letJ (fun v4 => ?_)
    refine gq_lstore_n (l' := [(2, .long v4), (0, .ref (xa X 0)), (1, .int x1), (4, .int x4)]) (pc' := 31) dL_told_30 rfl (by decide) rfl ?_
    refine gq_iincl (j := 3) (pc' := 34) dL_told_31 rfl rfl (by decide) (by decide) (fun v5 => gq_sub (l' := [(4, .int v5), (2, .long v4), (0, .ref (xa X 0)), (1, .int x1)]) [0, 1, 2, 3] rfl ?_)
    refine gq_goto (pc' := 5) dL_told_34 (by decide) ?_
    refine gq_sub (l' := [(0, .ref (xa X 0)), (1, .int x1), (2, .long v4), (4, .int v5)]) [2, 3, 1, 0] rfl ?_
    exact hrec s2 x1 v4 v5
set_option maxRecDepth 100000 in
set_option maxHeartbeats 4000000 in
theorem g_L_told_L5 {X : q_Cx} {Λr : q_Lay} (qn : Nat) : ∀ (σ : Sg) (x1 : Int32) (x2 : Int64) (x4 : Int32), q_G X mL_told (q_QM X (q_LA Λr) mL_told) ((q_LA Λr), 0, 0) σ 5 [(0, .ref (xa X 0)), (1, .int x1), (2, .long x2), (4, .int x4)] [] (f_L_told_L5 qn σ x1 x2 x4) := by
  induction qn with
  | zero => exact fun σ x1 x2 x4 => gq_none
  | succ qn ih => exact fun σ x1 x2 x4 => k_L_told_L5 ih σ x1 x2 x4
set_option maxRecDepth 100000 in
set_option maxHeartbeats 4000000 in
theorem t_L_told {X : q_Cx} {Λr : q_Lay} (σ : Sg) (p1 : Int32) : q_Ex X mL_told (q_LA Λr) (q_LA Λr) [.ref (xa X 0), .int p1] σ (f_L_told σ p1) := by
  refine gq_ex mfL_told (Nat.le_of_ble_eq_true rfl) ?_
  show q_G X mL_told (q_QM X (q_LA Λr) mL_told) ((q_LA Λr), 0, 0) σ 0 [(0, .ref (xa X 0)), (1, .int p1)] [] _
  unfold f_L_told
  refine gq_lconst (v := 0) (pc' := 1) dL_told_0 rfl  (by decide) ?_
  refine gq_lstore_n (l' := [(2, .long (0 : Int64)), (0, .ref (xa X 0)), (1, .int p1)]) (pc' := 2) dL_told_1 rfl (by decide) rfl ?_
  refine gq_iconst (v := 0) (pc' := 3) dL_told_2 rfl  (by decide) ?_
  refine gq_istore (l' := [(4, .int (0 : Int32)), (2, .long (0 : Int64)), (0, .ref (xa X 0)), (1, .int p1)]) (pc' := 5) dL_told_3 rfl (by decide) rfl ?_
  refine gq_sub (l' := [(0, .ref (xa X 0)), (1, .int p1), (2, .long (0 : Int64)), (4, .int (0 : Int32))]) [2, 3, 1, 0] rfl ?_
  exact g_L_told_L5 1000 σ p1 (0 : Int64) (0 : Int32)
set_option maxRecDepth 100000 in
set_option maxHeartbeats 4000000 in
theorem g_L_laws_J72 {X : q_Cx} {Λr : q_Lay} (σ : Sg) (x3 : Int32) (x4 : Int32) (y0 : Int32) : q_G X mL_laws (q_QM X (q_LA Λr) mL_laws) ((q_LA Λr), 0, 0) σ 72 [(0, .ref (xa X 0)), (3, .int x3), (4, .int x4)] [.int y0] (f_L_laws_J72 σ x3 x4 y0) := by
  unfold f_L_laws_J72
  refine gq_istore (l' := [(5, .int y0), (0, .ref (xa X 0)), (3, .int x3), (4, .int x4)]) (pc' := 74) dL_laws_72 rfl (by decide) rfl ?_
  refine gq_iload (i := 0) (pc' := 76) dL_laws_74 rfl rfl ?_
  refine gq_if_eq (pc' := 79) (tgt := 150) dL_laws_76 rfl (by decide) (fun c13 => ?_) (fun c13 => ?_)
  · refine gq_iconst (v := 0) (pc' := 151) dL_laws_150 rfl  (by decide) ?_
    exact gq_zret dL_laws_151 rfl rfl rfl rfl
  · refine gq_aload_n (i := 1) (pc' := 80) dL_laws_79 rfl rfl ?_
    refine gq_ldc2 (v := 114) (pc' := 83) dL_laws_80 rfl (List.mem_filter.mpr ⟨List.mem_of_getElem? (i := 411) (by decide +kernel), by decide +kernel⟩) ?_
    refine gq_iconst (v := 1) (pc' := 84) dL_laws_83 rfl  (by decide) ?_
    refine gq_calli (cs' := 0) (ns' := 0) (pc' := 87) (gq_siteV (Mc := mX5_type) (As := [.long (114 : Int64), .int (1 : Int32)]) (rest := []) dL_laws_84 lkL_23 mfX5_type (t_X5_type σ (114 : Int64) (1 : Int32)) lo_0 rfl rfl ⟨Nat.le_of_ble_eq_true rfl, Nat.le_of_ble_eq_true rfl⟩ ⟨Nat.le_of_ble_eq_true rfl, Nat.le_of_ble_eq_true rfl⟩ rfl (Nat.le_of_ble_eq_true rfl)) rfl rfl rfl rfl (fun s14 r15 _ => ?_)
    refine gq_bipush (v := 6) (pc' := 89) dL_laws_87 rfl  (by decide) ?_
    refine gq_icmp_ne (pc' := 92) (tgt := 150) dL_laws_89 rfl (by decide) (fun c16 => ?_) (fun c16 => ?_)
    · refine gq_aload_n (i := 1) (pc' := 93) dL_laws_92 rfl rfl ?_
      refine gq_ldc2 (v := 48) (pc' := 96) dL_laws_93 rfl (List.mem_filter.mpr ⟨List.mem_of_getElem? (i := 408) (by decide +kernel), by decide +kernel⟩) ?_
      refine gq_iload_n (i := 2) (pc' := 97) dL_laws_96 rfl rfl ?_
      refine gq_bipush (v := 10) (pc' := 99) dL_laws_97 rfl  (by decide) ?_
      refine gq_idiv (pc' := 100) dL_laws_99 rfl (by decide) ?_
      refine gq_i2l (pc' := 101) dL_laws_100 rfl ?_
      refine gq_ladd (pc' := 102) dL_laws_101 rfl ?_
      refine gq_ldc2 (v := 256) (pc' := 105) dL_laws_102 rfl (List.mem_filter.mpr ⟨List.mem_of_getElem? (i := 409) (by decide +kernel), by decide +kernel⟩) ?_
      refine gq_lmul (pc' := 106) dL_laws_105 rfl ?_
      refine gq_ldc2 (v := 48) (pc' := 109) dL_laws_106 rfl (List.mem_filter.mpr ⟨List.mem_of_getElem? (i := 408) (by decide +kernel), by decide +kernel⟩) ?_
      refine gq_ladd (pc' := 110) dL_laws_109 rfl ?_
      refine gq_iload_n (i := 2) (pc' := 111) dL_laws_110 rfl rfl ?_
      refine gq_bipush (v := 10) (pc' := 113) dL_laws_111 rfl  (by decide) ?_
      refine gq_irem (pc' := 114) dL_laws_113 rfl (by decide) ?_
      refine gq_i2l (pc' := 115) dL_laws_114 rfl ?_
      refine gq_ladd (pc' := 116) dL_laws_115 rfl ?_
      refine gq_iconst (v := 2) (pc' := 117) dL_laws_116 rfl  (by decide) ?_
      refine gq_calli (cs' := 0) (ns' := 0) (pc' := 120) (gq_siteV (Mc := mX5_type) (As := [.long (((((48 : Int64) + ((x3 / (10 : Int32)).toInt64)) * (256 : Int64)) + (48 : Int64)) + ((x3 - x3 / (10 : Int32) * (10 : Int32)).toInt64)), .int (2 : Int32)]) (rest := []) dL_laws_117 lkL_23 mfX5_type (t_X5_type s14 (((((48 : Int64) + ((x3 / (10 : Int32)).toInt64)) * (256 : Int64)) + (48 : Int64)) + ((x3 - x3 / (10 : Int32) * (10 : Int32)).toInt64)) (2 : Int32)) lo_0 rfl rfl ⟨Nat.le_of_ble_eq_true rfl, Nat.le_of_ble_eq_true rfl⟩ ⟨Nat.le_of_ble_eq_true rfl, Nat.le_of_ble_eq_true rfl⟩ rfl (Nat.le_of_ble_eq_true rfl)) rfl rfl rfl rfl (fun s17 r18 _ => ?_)
      refine gq_bipush (v := 8) (pc' := 122) dL_laws_120 rfl  (by decide) ?_
      refine gq_icmp_ne (pc' := 125) (tgt := 150) dL_laws_122 rfl (by decide) (fun c19 => ?_) (fun c19 => ?_)
      · refine gq_aload_n (i := 1) (pc' := 126) dL_laws_125 rfl rfl ?_
        refine gq_iload (i := 3) (pc' := 128) dL_laws_126 rfl rfl ?_
        refine gq_i2l (pc' := 129) dL_laws_128 rfl ?_
        refine gq_iconst (v := 1) (pc' := 130) dL_laws_129 rfl  (by decide) ?_
        refine gq_calli (cs' := 0) (ns' := 0) (pc' := 133) (gq_siteV (Mc := mX5_type) (As := [.long x4.toInt64, .int (1 : Int32)]) (rest := []) dL_laws_130 lkL_23 mfX5_type (t_X5_type s17 x4.toInt64 (1 : Int32)) lo_0 rfl rfl ⟨Nat.le_of_ble_eq_true rfl, Nat.le_of_ble_eq_true rfl⟩ ⟨Nat.le_of_ble_eq_true rfl, Nat.le_of_ble_eq_true rfl⟩ rfl (Nat.le_of_ble_eq_true rfl)) rfl rfl rfl rfl (fun s20 r21 _ => ?_)
        refine gq_bipush (v := 9) (pc' := 135) dL_laws_133 rfl  (by decide) ?_
        refine gq_icmp_ne (pc' := 138) (tgt := 150) dL_laws_135 rfl (by decide) (fun c22 => ?_) (fun c22 => ?_)
        · refine gq_aload_n (i := 1) (pc' := 139) dL_laws_138 rfl rfl ?_
          refine gq_calli (cs' := 0) (ns' := 0) (pc' := 142) (gq_siteV (Mc := mX5_laws) (As := []) (rest := []) dL_laws_139 lkL_35 mfX5_laws (t_X5_laws s20) lo_0 rfl rfl ⟨Nat.le_of_ble_eq_true rfl, Nat.le_of_ble_eq_true rfl⟩ ⟨Nat.le_of_ble_eq_true rfl, Nat.le_of_ble_eq_true rfl⟩ rfl (Nat.le_of_ble_eq_true rfl)) rfl rfl rfl rfl (fun s23 r24 _ => ?_)
          refine gq_iconst (v := 2) (pc' := 143) dL_laws_142 rfl  (by decide) ?_
          refine gq_icmp_ne (pc' := 146) (tgt := 150) dL_laws_143 rfl (by decide) (fun c25 => ?_) (fun c25 => ?_)
          · refine gq_iconst (v := 1) (pc' := 147) dL_laws_146 rfl  (by decide) ?_
            refine gq_goto (pc' := 151) dL_laws_147 (by decide) ?_
            exact gq_zret dL_laws_151 rfl rfl rfl rfl
          · refine gq_iconst (v := 0) (pc' := 151) dL_laws_150 rfl  (by decide) ?_
            exact gq_zret dL_laws_151 rfl rfl rfl rfl
        · refine gq_iconst (v := 0) (pc' := 151) dL_laws_150 rfl  (by decide) ?_
          exact gq_zret dL_laws_151 rfl rfl rfl rfl
      · refine gq_iconst (v := 0) (pc' := 151) dL_laws_150 rfl  (by decide) ?_
        exact gq_zret dL_laws_151 rfl rfl rfl rfl
    · refine gq_iconst (v := 0) (pc' := 151) dL_laws_150 rfl  (by decide) ?_
      exact gq_zret dL_laws_151 rfl rfl rfl rfl
set_option maxRecDepth 100000 in
set_option maxHeartbeats 4000000 in
theorem g_L_laws_J71 {X : q_Cx} {Λr : q_Lay} (σ : Sg) (x3 : Int32) (x4 : Int32) : q_G X mL_laws (q_QM X (q_LA Λr) mL_laws) ((q_LA Λr), 0, 0) σ 71 [(0, .ref (xa X 0)), (3, .int x3), (4, .int x4)] [] (f_L_laws_J71 σ x3 x4) := by
  unfold f_L_laws_J71
  refine gq_iconst (v := 0) (pc' := 72) dL_laws_71 rfl  (by decide) ?_
  refine gq_sub (l' := [(0, .ref (xa X 0)), (3, .int x3), (4, .int x4)]) [0, 1, 2] rfl ?_
  exact g_L_laws_J72 σ x3 x4 (0 : Int32)
set_option maxRecDepth 100000 in
set_option maxHeartbeats 4000000 in
theorem t_L_laws {X : q_Cx} {Λr : q_Lay} (σ : Sg) (p1 : Int32) (p2 : Int32) (p3 : Int32) (p4 : Int32) : q_Ex X mL_laws (q_LA Λr) (q_LA Λr) [.ref (xa X 0), .int p1, .int p2, .int p3, .int p4] σ (f_L_laws σ p1 p2 p3 p4) := by
  refine gq_ex mfL_laws (Nat.le_of_ble_eq_true rfl) ?_
  show q_G X mL_laws (q_QM X (q_LA Λr) mL_laws) ((q_LA Λr), 0, 0) σ 0 [(0, .ref (xa X 0)), (1, .int p1), (2, .int p2), (3, .int p3), (4, .int p4)] [] _
  unfold f_L_laws
  refine gq_aload_n (i := 0) (pc' := 1) dL_laws_0 rfl rfl ?_
  refine gq_ldc2 (v := 112) (pc' := 4) dL_laws_1 rfl (List.mem_filter.mpr ⟨List.mem_of_getElem? (i := 394) (by decide +kernel), by decide +kernel⟩) ?_
  refine gq_iconst (v := 1) (pc' := 5) dL_laws_4 rfl  (by decide) ?_
  refine gq_calli (cs' := 0) (ns' := 0) (pc' := 8) (gq_siteV (Mc := mX5_type) (As := [.long (112 : Int64), .int (1 : Int32)]) (rest := []) dL_laws_5 lkL_23 mfX5_type (t_X5_type σ (112 : Int64) (1 : Int32)) lo_0 rfl rfl ⟨Nat.le_of_ble_eq_true rfl, Nat.le_of_ble_eq_true rfl⟩ ⟨Nat.le_of_ble_eq_true rfl, Nat.le_of_ble_eq_true rfl⟩ rfl (Nat.le_of_ble_eq_true rfl)) rfl rfl rfl rfl (fun s1 r2 _ => ?_)
  refine gq_iconst (v := 1) (pc' := 9) dL_laws_8 rfl  (by decide) ?_
  refine gq_icmp_ne (pc' := 12) (tgt := 71) dL_laws_9 rfl (by decide) (fun c3 => ?_) (fun c3 => ?_)
  · refine gq_aload_n (i := 0) (pc' := 13) dL_laws_12 rfl rfl ?_
    refine gq_ldc2 (v := 48) (pc' := 16) dL_laws_13 rfl (List.mem_filter.mpr ⟨List.mem_of_getElem? (i := 408) (by decide +kernel), by decide +kernel⟩) ?_
    refine gq_iload_n (i := 1) (pc' := 17) dL_laws_16 rfl rfl ?_
    refine gq_bipush (v := 10) (pc' := 19) dL_laws_17 rfl  (by decide) ?_
    refine gq_idiv (pc' := 20) dL_laws_19 rfl (by decide) ?_
    refine gq_i2l (pc' := 21) dL_laws_20 rfl ?_
    refine gq_ladd (pc' := 22) dL_laws_21 rfl ?_
    refine gq_ldc2 (v := 256) (pc' := 25) dL_laws_22 rfl (List.mem_filter.mpr ⟨List.mem_of_getElem? (i := 409) (by decide +kernel), by decide +kernel⟩) ?_
    refine gq_lmul (pc' := 26) dL_laws_25 rfl ?_
    refine gq_ldc2 (v := 48) (pc' := 29) dL_laws_26 rfl (List.mem_filter.mpr ⟨List.mem_of_getElem? (i := 408) (by decide +kernel), by decide +kernel⟩) ?_
    refine gq_ladd (pc' := 30) dL_laws_29 rfl ?_
    refine gq_iload_n (i := 1) (pc' := 31) dL_laws_30 rfl rfl ?_
    refine gq_bipush (v := 10) (pc' := 33) dL_laws_31 rfl  (by decide) ?_
    refine gq_irem (pc' := 34) dL_laws_33 rfl (by decide) ?_
    refine gq_i2l (pc' := 35) dL_laws_34 rfl ?_
    refine gq_ladd (pc' := 36) dL_laws_35 rfl ?_
    refine gq_iconst (v := 2) (pc' := 37) dL_laws_36 rfl  (by decide) ?_
    refine gq_calli (cs' := 0) (ns' := 0) (pc' := 40) (gq_siteV (Mc := mX5_type) (As := [.long (((((48 : Int64) + ((p1 / (10 : Int32)).toInt64)) * (256 : Int64)) + (48 : Int64)) + ((p1 - p1 / (10 : Int32) * (10 : Int32)).toInt64)), .int (2 : Int32)]) (rest := []) dL_laws_37 lkL_23 mfX5_type (t_X5_type s1 (((((48 : Int64) + ((p1 / (10 : Int32)).toInt64)) * (256 : Int64)) + (48 : Int64)) + ((p1 - p1 / (10 : Int32) * (10 : Int32)).toInt64)) (2 : Int32)) lo_0 rfl rfl ⟨Nat.le_of_ble_eq_true rfl, Nat.le_of_ble_eq_true rfl⟩ ⟨Nat.le_of_ble_eq_true rfl, Nat.le_of_ble_eq_true rfl⟩ rfl (Nat.le_of_ble_eq_true rfl)) rfl rfl rfl rfl (fun s4 r5 _ => ?_)
    refine gq_iconst (v := 3) (pc' := 41) dL_laws_40 rfl  (by decide) ?_
    refine gq_icmp_ne (pc' := 44) (tgt := 71) dL_laws_41 rfl (by decide) (fun c6 => ?_) (fun c6 => ?_)
    · refine gq_aload_n (i := 0) (pc' := 45) dL_laws_44 rfl rfl ?_
      refine gq_iload_n (i := 2) (pc' := 46) dL_laws_45 rfl rfl ?_
      refine gq_i2l (pc' := 47) dL_laws_46 rfl ?_
      refine gq_iconst (v := 1) (pc' := 48) dL_laws_47 rfl  (by decide) ?_
      refine gq_calli (cs' := 0) (ns' := 0) (pc' := 51) (gq_siteV (Mc := mX5_type) (As := [.long p2.toInt64, .int (1 : Int32)]) (rest := []) dL_laws_48 lkL_23 mfX5_type (t_X5_type s4 p2.toInt64 (1 : Int32)) lo_0 rfl rfl ⟨Nat.le_of_ble_eq_true rfl, Nat.le_of_ble_eq_true rfl⟩ ⟨Nat.le_of_ble_eq_true rfl, Nat.le_of_ble_eq_true rfl⟩ rfl (Nat.le_of_ble_eq_true rfl)) rfl rfl rfl rfl (fun s7 r8 _ => ?_)
      refine gq_iconst (v := 4) (pc' := 52) dL_laws_51 rfl  (by decide) ?_
      refine gq_icmp_ne (pc' := 55) (tgt := 71) dL_laws_52 rfl (by decide) (fun c9 => ?_) (fun c9 => ?_)
      · refine gq_aload_n (i := 0) (pc' := 56) dL_laws_55 rfl rfl ?_
        refine gq_ldc2 (v := 59) (pc' := 59) dL_laws_56 rfl (List.mem_filter.mpr ⟨List.mem_of_getElem? (i := 410) (by decide +kernel), by decide +kernel⟩) ?_
        refine gq_iconst (v := 1) (pc' := 60) dL_laws_59 rfl  (by decide) ?_
        refine gq_calli (cs' := 0) (ns' := 0) (pc' := 63) (gq_siteV (Mc := mX5_type) (As := [.long (59 : Int64), .int (1 : Int32)]) (rest := []) dL_laws_60 lkL_23 mfX5_type (t_X5_type s7 (59 : Int64) (1 : Int32)) lo_0 rfl rfl ⟨Nat.le_of_ble_eq_true rfl, Nat.le_of_ble_eq_true rfl⟩ ⟨Nat.le_of_ble_eq_true rfl, Nat.le_of_ble_eq_true rfl⟩ rfl (Nat.le_of_ble_eq_true rfl)) rfl rfl rfl rfl (fun s10 r11 _ => ?_)
        refine gq_iconst (v := 5) (pc' := 64) dL_laws_63 rfl  (by decide) ?_
        refine gq_icmp_ne (pc' := 67) (tgt := 71) dL_laws_64 rfl (by decide) (fun c12 => ?_) (fun c12 => ?_)
        · refine gq_iconst (v := 1) (pc' := 68) dL_laws_67 rfl  (by decide) ?_
          refine gq_goto (pc' := 72) dL_laws_68 (by decide) ?_
          refine gq_sub (l' := [(0, .ref (xa X 0)), (3, .int p3), (4, .int p4)]) [0, 3, 4] rfl ?_
          exact g_L_laws_J72 s10 p3 p4 (1 : Int32)
        · refine gq_sub (l' := [(0, .ref (xa X 0)), (3, .int p3), (4, .int p4)]) [0, 3, 4] rfl ?_
          exact g_L_laws_J71 s10 p3 p4
      · refine gq_sub (l' := [(0, .ref (xa X 0)), (3, .int p3), (4, .int p4)]) [0, 3, 4] rfl ?_
        exact g_L_laws_J71 s7 p3 p4
    · refine gq_sub (l' := [(0, .ref (xa X 0)), (3, .int p3), (4, .int p4)]) [0, 3, 4] rfl ?_
      exact g_L_laws_J71 s4 p3 p4
  · refine gq_sub (l' := [(0, .ref (xa X 0)), (3, .int p3), (4, .int p4)]) [0, 3, 4] rfl ?_
    exact g_L_laws_J71 s1 p3 p4
end
section
/-! the law's own end -/
def q_QL (X : q_Cx) : q_Fin := fun E below _ s => fun t => s.heap.size ≤ xb X → ∃ (σ' : Sg) (r : Int32), E = some (σ', r) ∧ t.status = .running ∧ Ended t below (.returned (some (.int r))) ∧ Framed s (.returned (some (.int r))) t [] 27 1099
theorem q_Wmono {p : Program} {l : Launch} {e : Env} {R : Room} {s : State} {m : MethodId} {args : Array Value} {below : List Frame} {meth : Method} {c : Code} {H : Heap} {locs : List Loc} {cells slots : Nat} {Q Q' : State → Prop} {g : JFrame} (k : W p l e R s m args below meth c H locs cells slots Q g) (h : ∀ t, Q t → Q' t) : W p l e R s m args below meth c H locs cells slots Q' g := by
  intro T hT X
  obtain ⟨t, a, b⟩ := k T hT X
  exact ⟨t, a, h t b⟩
theorem gq_law {X : q_Cx} {M : q_Mt} {Λ : q_Lay} {σ : Sg} {pc : Nat} {l : List (Nat × Value)} {r : Int32} (d : decode M.2.1 pc = .ok (.ireturn, 1)) (ht : M.2.2.2.1 = some .boolean) (hr : narrow .boolean (.int r) = .int r) (hc : M.2.2.2.2.cells = 27) (hn : M.2.2.2.2.slots = 1099) : q_G X M (q_QL X) (Λ, 27, 1099) σ pc l [.int r] (some (σ, r)) := by
  intro hE p e s m args below meth c H locs ls V hP hz h6 hT hS h
  by_cases hb : s.heap.size ≤ xb X
  · refine va_forget (fun q hq => Nat.le_trans hb (hS.2.2 q hq)) ?_
    refine q_Wmono (W.zret (Qc := fun _ _ o _ => o = .returned (some (.int r))) (free := fun _ => False) (v := r) V.1 V.2.1 (V.2.2.1.trans ht) hr (fun t ht' hW => rfl) (fun q hq => by cases hq) d V.2.2.2.2.2.2.1) ?_
    intro t ht2 _
    obtain ⟨o, h1, h2, h3, L, h4, h5⟩ := ht2
    subst h3
    have hL : L = [] := by
      cases L with
      | nil => rfl
      | cons a L => exact (h5 a List.mem_cons_self).elim
    subst hL
    exact ⟨σ, r, rfl, h1, h2, h4⟩
  · intro T hT X
    exact ⟨_, Steps.refl _, fun h => absurd h hb⟩
end
section
-- GENERATED by wip/p23/gen.py: the walks
set_option maxRecDepth 100000 in
set_option maxHeartbeats 4000000 in
theorem k_L_law_L506 {X : q_Cx} {rec : Sg → Int32 → Int32 → Int32 → Rs} (hrec : ∀ (σ : Sg) (x4 : Int32) (x5 : Int32) (x6 : Int32), q_G X mL_law (q_QL X) ((q_LA [.inl (true, 64)]), 27, 1099) σ 484 [(1, .ref (xa X 0)), (4, .int x4), (5, .int x5), (6, .int x6)] [] (rec σ x4 x5 x6)) {rec2 : Sg → Int32 → Int32 → Int32 → Int32 → Rs} (hrec2 : ∀ (σ : Sg) (x4 : Int32) (x5 : Int32) (x6 : Int32) (x7 : Int32), q_G X mL_law (q_QL X) ((q_LA [.inl (true, 64)]), 27, 1099) σ 506 [(1, .ref (xa X 0)), (4, .int x4), (5, .int x5), (6, .int x6), (7, .int x7)] [] (rec2 σ x4 x5 x6 x7)) (σ : Sg) (x4 : Int32) (x5 : Int32) (x6 : Int32) (x7 : Int32) : q_G X mL_law (q_QL X) ((q_LA [.inl (true, 64)]), 27, 1099) σ 506 [(1, .ref (xa X 0)), (4, .int x4), (5, .int x5), (6, .int x6), (7, .int x7)] [] (s_L_law_L506 (xn X) rec rec2 σ x4 x5 x6 x7) := by
  unfold s_L_law_L506
  refine gq_iload (i := 4) (pc' := 508) dL_law_506 rfl rfl ?_
  refine gq_iconst (v := 4) (pc' := 509) dL_law_508 rfl  (by decide) ?_
  refine gq_icmp_ge (pc' := 512) (tgt := 562) dL_law_509 rfl (by decide) (fun c35 => ?_) (fun c35 => ?_)
  · refine gq_iincl (j := 3) (pc' := 565) dL_law_562 rfl rfl (by decide) (by decide) (fun v36 => gq_sub (l' := [(6, .int v36), (1, .ref (xa X 0)), (4, .int x4), (5, .int x5), (7, .int x7)]) [0, 1, 2, 3, 4] rfl ?_)
    refine gq_goto (pc' := 484) dL_law_565 (by decide) ?_
    refine gq_sub (l' := [(1, .ref (xa X 0)), (4, .int x4), (5, .int x5), (6, .int v36)]) [1, 2, 3, 0] rfl ?_
    exact hrec σ x4 x5 v36
  · refine gq_aload_n (i := 0) (pc' := 513) dL_law_512 rfl rfl ?_
    refine gq_iload (i := 3) (pc' := 515) dL_law_513 rfl rfl ?_
    refine gq_iconst (v := 5) (pc' := 516) dL_law_515 rfl  (by decide) ?_
    refine gq_iload (i := 4) (pc' := 518) dL_law_516 rfl rfl ?_
    refine gq_iadd (pc' := 519) dL_law_518 rfl ?_
    refine gq_calli (cs' := 27) (ns' := 1099) (pc' := 522) (gq_siteV (Mc := mX5_state) (As := [.int x6, .int ((5 : Int32) + x7)]) (rest := []) dL_law_519 lkL_13 mfX5_state (t_X5_state σ x6 ((5 : Int32) + x7)) lo_0 rfl rfl ⟨Nat.le_of_ble_eq_true rfl, Nat.le_of_ble_eq_true rfl⟩ ⟨Nat.le_of_ble_eq_true rfl, Nat.le_of_ble_eq_true rfl⟩ rfl (Nat.le_of_ble_eq_true rfl)) rfl rfl rfl rfl (fun s37 r38 _ => ?_)
    refine gq_istore (l' := [(8, .int r38), (1, .ref (xa X 0)), (4, .int x4), (5, .int x5), (6, .int x6), (7, .int x7)]) (pc' := 524) dL_law_522 rfl (by decide) rfl ?_
    refine gq_aload_n (i := 1) (pc' := 525) dL_law_524 rfl rfl ?_
    refine gq_iload (i := 4) (pc' := 527) dL_law_525 rfl rfl ?_
    refine gq_iconst (v := 1) (pc' := 528) dL_law_527 rfl  (by decide) ?_
    refine gq_iadd (pc' := 529) dL_law_528 rfl ?_
    refine gq_iconst (v := 5) (pc' := 530) dL_law_529 rfl  (by decide) ?_
    refine gq_iload (i := 5) (pc' := 532) dL_law_530 rfl rfl ?_
    refine gq_iadd (pc' := 533) dL_law_532 rfl ?_
    refine gq_calli (cs' := 27) (ns' := 1099) (pc' := 536) (gq_siteV (Mc := mX5_state) (As := [.int (x6 + (1 : Int32)), .int ((5 : Int32) + x7)]) (rest := []) dL_law_533 lkL_13 mfX5_state (t_X5_state s37 (x6 + (1 : Int32)) ((5 : Int32) + x7)) lo_0 rfl rfl ⟨Nat.le_of_ble_eq_true rfl, Nat.le_of_ble_eq_true rfl⟩ ⟨Nat.le_of_ble_eq_true rfl, Nat.le_of_ble_eq_true rfl⟩ rfl (Nat.le_of_ble_eq_true rfl)) rfl rfl rfl rfl (fun s39 r40 _ => ?_)
    refine gq_istore (l' := [(9, .int r40), (8, .int r38), (1, .ref (xa X 0)), (4, .int x4), (5, .int x5), (6, .int x6), (7, .int x7)]) (pc' := 538) dL_law_536 rfl (by decide) rfl ?_
    refine gq_iload (i := 0) (pc' := 540) dL_law_538 rfl rfl ?_
    refine gq_iload (i := 1) (pc' := 542) dL_law_540 rfl rfl ?_
    refine gq_icmp_eq (pc' := 545) (tgt := 556) dL_law_542 rfl (by decide) (fun c41 => ?_) (fun c41 => ?_)
    · refine gq_iincl (j := 6) (pc' := 559) dL_law_556 rfl rfl (by decide) (by decide) (fun v42 => gq_sub (l' := [(7, .int v42), (9, .int r40), (8, .int r38), (1, .ref (xa X 0)), (4, .int x4), (5, .int x5), (6, .int x6)]) [0, 1, 2, 3, 4, 5, 6] rfl ?_)
      refine gq_goto (pc' := 506) dL_law_559 (by decide) ?_
      refine gq_sub (l' := [(1, .ref (xa X 0)), (4, .int x4), (5, .int x5), (6, .int x6), (7, .int v42)]) [3, 4, 5, 6, 0] rfl ?_
      exact hrec2 s39 x4 x5 x6 v42
    · refine gq_iload (i := 0) (pc' := 547) dL_law_545 rfl rfl ?_
      refine gq_iload (i := 1) (pc' := 549) dL_law_547 rfl rfl ?_
      refine gq_iconst (v := 1) (pc' := 550) dL_law_549 rfl  (by decide) ?_
      refine gq_iadd (pc' := 551) dL_law_550 rfl ?_
      refine gq_icmp_eq (pc' := 554) (tgt := 556) dL_law_551 rfl (by decide) (fun c43 => ?_) (fun c43 => ?_)
      · refine gq_iincl (j := 6) (pc' := 559) dL_law_556 rfl rfl (by decide) (by decide) (fun v44 => gq_sub (l' := [(7, .int v44), (9, .int r40), (8, .int r38), (1, .ref (xa X 0)), (4, .int x4), (5, .int x5), (6, .int x6)]) [0, 1, 2, 3, 4, 5, 6] rfl ?_)
        refine gq_goto (pc' := 506) dL_law_559 (by decide) ?_
        refine gq_sub (l' := [(1, .ref (xa X 0)), (4, .int x4), (5, .int x5), (6, .int x6), (7, .int v44)]) [3, 4, 5, 6, 0] rfl ?_
        exact hrec2 s39 x4 x5 x6 v44
      · refine gq_iconst (v := 0) (pc' := 555) dL_law_554 rfl  (by decide) ?_
        exact gq_none
set_option maxRecDepth 100000 in
set_option maxHeartbeats 4000000 in
theorem g_L_law_L506 {X : q_Cx} {rec : Sg → Int32 → Int32 → Int32 → Rs} (hrec : ∀ (σ : Sg) (x4 : Int32) (x5 : Int32) (x6 : Int32), q_G X mL_law (q_QL X) ((q_LA [.inl (true, 64)]), 27, 1099) σ 484 [(1, .ref (xa X 0)), (4, .int x4), (5, .int x5), (6, .int x6)] [] (rec σ x4 x5 x6)) (qn : Nat) : ∀ (σ : Sg) (x4 : Int32) (x5 : Int32) (x6 : Int32) (x7 : Int32), q_G X mL_law (q_QL X) ((q_LA [.inl (true, 64)]), 27, 1099) σ 506 [(1, .ref (xa X 0)), (4, .int x4), (5, .int x5), (6, .int x6), (7, .int x7)] [] (f_L_law_L506 (xn X) rec qn σ x4 x5 x6 x7) := by
  induction qn with
  | zero => exact fun σ x4 x5 x6 x7 => gq_none
  | succ qn ih => exact fun σ x4 x5 x6 x7 => k_L_law_L506 hrec ih σ x4 x5 x6 x7
set_option maxRecDepth 100000 in
set_option maxHeartbeats 4000000 in
theorem k_L_law_L484 {X : q_Cx} {rec : Sg → Int32 → Int32 → Int32 → Rs} (hrec : ∀ (σ : Sg) (x4 : Int32) (x5 : Int32) (x6 : Int32), q_G X mL_law (q_QL X) ((q_LA [.inl (true, 64)]), 27, 1099) σ 484 [(1, .ref (xa X 0)), (4, .int x4), (5, .int x5), (6, .int x6)] [] (rec σ x4 x5 x6)) (σ : Sg) (x4 : Int32) (x5 : Int32) (x6 : Int32) : q_G X mL_law (q_QL X) ((q_LA [.inl (true, 64)]), 27, 1099) σ 484 [(1, .ref (xa X 0)), (4, .int x4), (5, .int x5), (6, .int x6)] [] (s_L_law_L484 (xn X) rec σ x4 x5 x6) := by
  unfold s_L_law_L484
  refine gq_iload (i := 3) (pc' := 486) dL_law_484 rfl rfl ?_
  refine gq_iload (i := 1) (pc' := 488) dL_law_486 rfl rfl ?_
  refine gq_icmp_ge (pc' := 491) (tgt := 568) dL_law_488 rfl (by decide) (fun c28 => ?_) (fun c28 => ?_)
  · refine gq_aload_n (i := 0) (pc' := 569) dL_law_568 rfl rfl ?_
    refine gq_iconst (v := 1) (pc' := 570) dL_law_569 rfl  (by decide) ?_
    refine gq_calli (cs' := 27) (ns' := 1099) (pc' := 573) (gq_siteV (Mc := mX5_count) (As := [.int (1 : Int32)]) (rest := []) dL_law_570 lkL_63 mfX5_count (t_X5_count σ (1 : Int32)) lo_0 rfl rfl ⟨Nat.le_of_ble_eq_true rfl, Nat.le_of_ble_eq_true rfl⟩ ⟨Nat.le_of_ble_eq_true rfl, Nat.le_of_ble_eq_true rfl⟩ rfl (Nat.le_of_ble_eq_true rfl)) rfl rfl rfl rfl (fun s29 r30 _ => ?_)
    refine gq_iload (i := 2) (pc' := 575) dL_law_573 rfl rfl ?_
    refine gq_icmp_ne (pc' := 578) (tgt := 582) dL_law_575 rfl (by decide) (fun c31 => ?_) (fun c31 => ?_)
    · refine gq_iconst (v := 1) (pc' := 579) dL_law_578 rfl  (by decide) ?_
      refine gq_goto (pc' := 583) dL_law_579 (by decide) ?_
      exact gq_law dL_law_583 rfl rfl rfl rfl
    · refine gq_iconst (v := 0) (pc' := 583) dL_law_582 rfl  (by decide) ?_
      exact gq_none
  · refine gq_iload (i := 2) (pc' := 493) dL_law_491 rfl rfl ?_
    refine gq_aload_n (i := 0) (pc' := 494) dL_law_493 rfl rfl ?_
    refine gq_iload (i := 3) (pc' := 496) dL_law_494 rfl rfl ?_
    refine gq_iconst (v := 3) (pc' := 497) dL_law_496 rfl  (by decide) ?_
    refine gq_calli (cs' := 27) (ns' := 1099) (pc' := 500) (gq_siteV (Mc := mX5_told) (As := [.int x6, .int (3 : Int32)]) (rest := [.int x5]) dL_law_497 lkL_67 mfX5_told (t_X5_told σ x6 (3 : Int32)) lo_0 rfl rfl ⟨Nat.le_of_ble_eq_true rfl, Nat.le_of_ble_eq_true rfl⟩ ⟨Nat.le_of_ble_eq_true rfl, Nat.le_of_ble_eq_true rfl⟩ rfl (Nat.le_of_ble_eq_true rfl)) rfl rfl rfl rfl (fun s32 r33 _ => ?_)
    refine gq_iadd (pc' := 501) dL_law_500 rfl ?_
    refine gq_let (fun v34 => ?_)
    refine gq_istore (l' := [(5, .int v34), (1, .ref (xa X 0)), (4, .int x4), (6, .int x6)]) (pc' := 503) dL_law_501 rfl (by decide) rfl ?_
    refine gq_iconst (v := 0) (pc' := 504) dL_law_503 rfl  (by decide) ?_
    refine gq_istore (l' := [(7, .int (0 : Int32)), (5, .int v34), (1, .ref (xa X 0)), (4, .int x4), (6, .int x6)]) (pc' := 506) dL_law_504 rfl (by decide) rfl ?_
    refine gq_sub (l' := [(1, .ref (xa X 0)), (4, .int x4), (5, .int v34), (6, .int x6), (7, .int (0 : Int32))]) [2, 3, 1, 4, 0] rfl ?_
    exact gq_ph rfl (g_L_law_L506 hrec 1000 s32 x4 v34 x6 (0 : Int32))
set_option maxRecDepth 100000 in
set_option maxHeartbeats 4000000 in
theorem g_L_law_L484 {X : q_Cx} (qn : Nat) : ∀ (σ : Sg) (x4 : Int32) (x5 : Int32) (x6 : Int32), q_G X mL_law (q_QL X) ((q_LA [.inl (true, 64)]), 27, 1099) σ 484 [(1, .ref (xa X 0)), (4, .int x4), (5, .int x5), (6, .int x6)] [] (f_L_law_L484 (xn X) qn σ x4 x5 x6) := by
  induction qn with
  | zero => exact fun σ x4 x5 x6 => gq_none
  | succ qn ih => exact fun σ x4 x5 x6 => k_L_law_L484 ih σ x4 x5 x6
set_option maxRecDepth 100000 in
set_option maxHeartbeats 4000000 in
theorem k_L_law_L443 {X : q_Cx} {rec : Sg → Int32 → Int32 → Rs} (hrec : ∀ (σ : Sg) (x4 : Int32) (x5 : Int32), q_G X mL_law (q_QL X) ((q_LA [.inl (true, 64)]), 27, 1099) σ 122 [(0, .ref (xa X 105)), (1, .ref (xa X 0)), (3, .ref (xa X 26)), (4, .int x4), (5, .int x5)] [] (rec σ x4 x5)) {rec2 : Sg → Int32 → Int32 → Int32 → Rs} (hrec2 : ∀ (σ : Sg) (x4 : Int32) (x5 : Int32) (x10 : Int32), q_G X mL_law (q_QL X) ((q_LA [.inl (true, 64)]), 27, 1099) σ 443 [(0, .ref (xa X 105)), (1, .ref (xa X 0)), (3, .ref (xa X 26)), (4, .int x4), (5, .int x5), (10, .int x10)] [] (rec2 σ x4 x5 x10)) (σ : Sg) (x4 : Int32) (x5 : Int32) (x10 : Int32) : q_G X mL_law (q_QL X) ((q_LA [.inl (true, 64)]), 27, 1099) σ 443 [(0, .ref (xa X 105)), (1, .ref (xa X 0)), (3, .ref (xa X 26)), (4, .int x4), (5, .int x5), (10, .int x10)] [] (s_L_law_L443 (xn X) rec rec2 σ x4 x5 x10) := by
  unfold s_L_law_L443
  refine gq_iload (i := 5) (pc' := 445) dL_law_443 rfl rfl ?_
  refine gq_iload (i := 3) (pc' := 447) dL_law_445 rfl rfl ?_
  refine gq_icmp_gt (pc' := 450) (tgt := 472) dL_law_447 rfl (by decide) (fun c67 => ?_) (fun c67 => ?_)
  · refine gq_iincl (j := 4) (pc' := 475) dL_law_472 rfl rfl (by decide) (by decide) (fun v68 => gq_sub (l' := [(5, .int v68), (0, .ref (xa X 105)), (1, .ref (xa X 0)), (3, .ref (xa X 26)), (4, .int x4), (10, .int x10)]) [0, 1, 2, 3, 4, 5] rfl ?_)
    refine gq_goto (pc' := 122) dL_law_475 (by decide) ?_
    refine gq_sub (l' := [(0, .ref (xa X 105)), (1, .ref (xa X 0)), (3, .ref (xa X 26)), (4, .int x4), (5, .int v68)]) [1, 2, 3, 4, 0] rfl ?_
    exact hrec σ x4 v68
  · refine gq_aload_n (i := 1) (pc' := 451) dL_law_450 rfl rfl ?_
    refine gq_iload (i := 5) (pc' := 453) dL_law_451 rfl rfl ?_
    refine gq_callj (cs' := 27) (ns' := 1099) (pc' := 456) (gq_siteS (Mc := mL_told) (As := [.ref (xa X 0), .int x10]) (rest := []) dL_law_453 lkL_56 mfL_told (t_L_told σ x10) rfl ⟨Nat.le_of_ble_eq_true rfl, Nat.le_of_ble_eq_true rfl⟩ ⟨Nat.le_of_ble_eq_true rfl, Nat.le_of_ble_eq_true rfl⟩ rfl (Nat.le_of_ble_eq_true rfl)) rfl rfl rfl rfl (fun s69 _ _ => ?_)
    refine gq_aload_n (i := 2) (pc' := 457) dL_law_456 rfl rfl ?_
    refine gq_iload (i := 5) (pc' := 459) dL_law_457 rfl rfl ?_
    refine gq_lald (n := 64) (pc' := 460) dL_law_459 rfl rfl (fun _ => ?_)
    refine gq_lcmp (pc' := 461) dL_law_460 rfl ?_
    refine gq_if_eq (pc' := 464) (tgt := 466) dL_law_461 rfl (by decide) (fun c71 => ?_) (fun c71 => ?_)
    · refine gq_iincl (j := 5) (pc' := 469) dL_law_466 rfl rfl (by decide) (by decide) (fun v72 => gq_sub (l' := [(10, .int v72), (0, .ref (xa X 105)), (1, .ref (xa X 0)), (3, .ref (xa X 26)), (4, .int x4), (5, .int x5)]) [0, 1, 2, 3, 4, 5] rfl ?_)
      refine gq_goto (pc' := 443) dL_law_469 (by decide) ?_
      refine gq_sub (l' := [(0, .ref (xa X 105)), (1, .ref (xa X 0)), (3, .ref (xa X 26)), (4, .int x4), (5, .int x5), (10, .int v72)]) [1, 2, 3, 4, 5, 0] rfl ?_
      exact hrec2 s69 x4 x5 v72
    · refine gq_iconst (v := 0) (pc' := 465) dL_law_464 rfl  (by decide) ?_
      exact gq_none
set_option maxRecDepth 100000 in
set_option maxHeartbeats 4000000 in
theorem g_L_law_L443 {X : q_Cx} {rec : Sg → Int32 → Int32 → Rs} (hrec : ∀ (σ : Sg) (x4 : Int32) (x5 : Int32), q_G X mL_law (q_QL X) ((q_LA [.inl (true, 64)]), 27, 1099) σ 122 [(0, .ref (xa X 105)), (1, .ref (xa X 0)), (3, .ref (xa X 26)), (4, .int x4), (5, .int x5)] [] (rec σ x4 x5)) (qn : Nat) : ∀ (σ : Sg) (x4 : Int32) (x5 : Int32) (x10 : Int32), q_G X mL_law (q_QL X) ((q_LA [.inl (true, 64)]), 27, 1099) σ 443 [(0, .ref (xa X 105)), (1, .ref (xa X 0)), (3, .ref (xa X 26)), (4, .int x4), (5, .int x5), (10, .int x10)] [] (f_L_law_L443 (xn X) rec qn σ x4 x5 x10) := by
  induction qn with
  | zero => exact fun σ x4 x5 x10 => gq_none
  | succ qn ih => exact fun σ x4 x5 x10 => k_L_law_L443 hrec ih σ x4 x5 x10
set_option maxRecDepth 100000 in
set_option maxHeartbeats 4000000 in
theorem g_L_law_J428 {X : q_Cx} {rec : Sg → Int32 → Int32 → Rs} (hrec : ∀ (σ : Sg) (x4 : Int32) (x5 : Int32), q_G X mL_law (q_QL X) ((q_LA [.inl (true, 64)]), 27, 1099) σ 122 [(0, .ref (xa X 105)), (1, .ref (xa X 0)), (3, .ref (xa X 26)), (4, .int x4), (5, .int x5)] [] (rec σ x4 x5)) (σ : Sg) (x4 : Int32) (x5 : Int32) : q_G X mL_law (q_QL X) ((q_LA [.inl (true, 64)]), 27, 1099) σ 428 [(0, .ref (xa X 105)), (1, .ref (xa X 0)), (3, .ref (xa X 26)), (4, .int x4), (5, .int x5)] [] (f_L_law_J428 (xn X) rec σ x4 x5) := by
  unfold f_L_law_J428
  refine gq_aload_n (i := 1) (pc' := 429) dL_law_428 rfl rfl ?_
  refine gq_iconst (v := 0) (pc' := 430) dL_law_429 rfl  (by decide) ?_
  refine gq_calli (cs' := 27) (ns' := 1099) (pc' := 433) (gq_siteV (Mc := mX5_count) (As := [.int (0 : Int32)]) (rest := []) dL_law_430 lkL_63 mfX5_count (t_X5_count σ (0 : Int32)) lo_0 rfl rfl ⟨Nat.le_of_ble_eq_true rfl, Nat.le_of_ble_eq_true rfl⟩ ⟨Nat.le_of_ble_eq_true rfl, Nat.le_of_ble_eq_true rfl⟩ rfl (Nat.le_of_ble_eq_true rfl)) rfl rfl rfl rfl (fun s64 r65 _ => ?_)
  refine gq_iload (i := 3) (pc' := 435) dL_law_433 rfl rfl ?_
  refine gq_icmp_eq (pc' := 438) (tgt := 440) dL_law_435 rfl (by decide) (fun c66 => ?_) (fun c66 => ?_)
  · refine gq_iconst (v := 0) (pc' := 441) dL_law_440 rfl  (by decide) ?_
    refine gq_istore (l' := [(10, .int (0 : Int32)), (0, .ref (xa X 105)), (1, .ref (xa X 0)), (3, .ref (xa X 26)), (4, .int x4), (5, .int x5)]) (pc' := 443) dL_law_441 rfl (by decide) rfl ?_
    refine gq_sub (l' := [(0, .ref (xa X 105)), (1, .ref (xa X 0)), (3, .ref (xa X 26)), (4, .int x4), (5, .int x5), (10, .int (0 : Int32))]) [1, 2, 3, 4, 5, 0] rfl ?_
    exact gq_ph rfl (g_L_law_L443 hrec 1000 s64 x4 x5 (0 : Int32))
  · refine gq_iconst (v := 0) (pc' := 439) dL_law_438 rfl  (by decide) ?_
    exact gq_none
set_option maxRecDepth 100000 in
set_option maxHeartbeats 4000000 in
theorem g_L_law_J418 {X : q_Cx} {rec : Sg → Int32 → Int32 → Rs} (hrec : ∀ (σ : Sg) (x4 : Int32) (x5 : Int32), q_G X mL_law (q_QL X) ((q_LA [.inl (true, 64)]), 27, 1099) σ 122 [(0, .ref (xa X 105)), (1, .ref (xa X 0)), (3, .ref (xa X 26)), (4, .int x4), (5, .int x5)] [] (rec σ x4 x5)) (σ : Sg) (x4 : Int32) (x5 : Int32) : q_G X mL_law (q_QL X) ((q_LA [.inl (true, 64)]), 27, 1099) σ 418 [(0, .ref (xa X 105)), (1, .ref (xa X 0)), (3, .ref (xa X 26)), (4, .int x4), (5, .int x5)] [] (f_L_law_J418 (xn X) rec σ x4 x5) := by
  unfold f_L_law_J418
  refine gq_aload_n (i := 2) (pc' := 419) dL_law_418 rfl rfl ?_
  refine gq_iload (i := 3) (pc' := 421) dL_law_419 rfl rfl ?_
  refine gq_aload_n (i := 1) (pc' := 422) dL_law_421 rfl rfl ?_
  refine gq_iload (i := 3) (pc' := 424) dL_law_422 rfl rfl ?_
  refine gq_callj (cs' := 27) (ns' := 1099) (pc' := 427) (gq_siteS (Mc := mL_told) (As := [.ref (xa X 0), .int x4]) (rest := [.int x4, .ref (xa X 26)]) dL_law_424 lkL_56 mfL_told (t_L_told σ x4) rfl ⟨Nat.le_of_ble_eq_true rfl, Nat.le_of_ble_eq_true rfl⟩ ⟨Nat.le_of_ble_eq_true rfl, Nat.le_of_ble_eq_true rfl⟩ rfl (Nat.le_of_ble_eq_true rfl)) rfl rfl rfl rfl (fun s101 _ _ => ?_)
  refine gq_last (n := 64) (pc' := 428) dL_law_427 rfl rfl (fun _ => ?_)
  refine gq_lets (fun s103 => ?_)
  refine gq_sub (l' := [(0, .ref (xa X 105)), (1, .ref (xa X 0)), (3, .ref (xa X 26)), (4, .int x4), (5, .int x5)]) [0, 1, 2, 3, 4] rfl ?_
  exact gq_ph rfl (g_L_law_J428 hrec s103 x4 x5)
set_option maxRecDepth 100000 in
set_option maxHeartbeats 4000000 in
theorem g_L_law_J376 {X : q_Cx} {rec : Sg → Int32 → Int32 → Rs} (hrec : ∀ (σ : Sg) (x4 : Int32) (x5 : Int32), q_G X mL_law (q_QL X) ((q_LA [.inl (true, 64)]), 27, 1099) σ 122 [(0, .ref (xa X 105)), (1, .ref (xa X 0)), (3, .ref (xa X 26)), (4, .int x4), (5, .int x5)] [] (rec σ x4 x5)) (σ : Sg) (x4 : Int32) (x5 : Int32) (x10 : Int32) (x12 : Int32) (x13 : Int32) : q_G X mL_law (q_QL X) ((q_LA [.inl (true, 64)]), 27, 1099) σ 376 [(0, .ref (xa X 105)), (1, .ref (xa X 0)), (3, .ref (xa X 26)), (4, .int x4), (5, .int x5), (10, .int x10), (12, .int x12), (13, .int x13)] [] (f_L_law_J376 (xn X) rec σ x4 x5 x10 x12 x13) := by
  unfold f_L_law_J376
  refine gq_iload (i := 7) (pc' := 378) dL_law_376 rfl rfl ?_
  refine gq_iconst (v := 2) (pc' := 379) dL_law_378 rfl  (by decide) ?_
  refine gq_icmp_ne (pc' := 382) (tgt := 418) dL_law_379 rfl (by decide) (fun c91 => ?_) (fun c91 => ?_)
  · refine gq_aload_n (i := 1) (pc' := 383) dL_law_382 rfl rfl ?_
    refine gq_iload (i := 5) (pc' := 385) dL_law_383 rfl rfl ?_
    refine gq_iconst (v := 3) (pc' := 386) dL_law_385 rfl  (by decide) ?_
    refine gq_calli (cs' := 27) (ns' := 1099) (pc' := 389) (gq_siteV (Mc := mX5_told) (As := [.int x10, .int (3 : Int32)]) (rest := []) dL_law_386 lkL_67 mfX5_told (t_X5_told σ x10 (3 : Int32)) lo_0 rfl rfl ⟨Nat.le_of_ble_eq_true rfl, Nat.le_of_ble_eq_true rfl⟩ ⟨Nat.le_of_ble_eq_true rfl, Nat.le_of_ble_eq_true rfl⟩ rfl (Nat.le_of_ble_eq_true rfl)) rfl rfl rfl rfl (fun s92 r93 _ => ?_)
    refine gq_if_ne (pc' := 392) (tgt := 416) dL_law_389 rfl (by decide) (fun c94 => ?_) (fun c94 => ?_)
    · refine gq_aload_n (i := 1) (pc' := 393) dL_law_392 rfl rfl ?_
      refine gq_iload (i := 5) (pc' := 395) dL_law_393 rfl rfl ?_
      refine gq_iconst (v := 0) (pc' := 396) dL_law_395 rfl  (by decide) ?_
      refine gq_calli (cs' := 27) (ns' := 1099) (pc' := 399) (gq_siteV (Mc := mX5_told) (As := [.int x10, .int (0 : Int32)]) (rest := []) dL_law_396 lkL_67 mfX5_told (t_X5_told s92 x10 (0 : Int32)) lo_0 rfl rfl ⟨Nat.le_of_ble_eq_true rfl, Nat.le_of_ble_eq_true rfl⟩ ⟨Nat.le_of_ble_eq_true rfl, Nat.le_of_ble_eq_true rfl⟩ rfl (Nat.le_of_ble_eq_true rfl)) rfl rfl rfl rfl (fun s95 r96 _ => ?_)
      refine gq_iload (i := 6) (pc' := 401) dL_law_399 rfl rfl ?_
      refine gq_icmp_ne (pc' := 404) (tgt := 416) dL_law_401 rfl (by decide) (fun c97 => ?_) (fun c97 => ?_)
      · refine gq_aload_n (i := 1) (pc' := 405) dL_law_404 rfl rfl ?_
        refine gq_iload (i := 3) (pc' := 407) dL_law_405 rfl rfl ?_
        refine gq_iconst (v := 1) (pc' := 408) dL_law_407 rfl  (by decide) ?_
        refine gq_calli (cs' := 27) (ns' := 1099) (pc' := 411) (gq_siteV (Mc := mX5_state) (As := [.int x4, .int (1 : Int32)]) (rest := []) dL_law_408 lkL_13 mfX5_state (t_X5_state s95 x4 (1 : Int32)) lo_0 rfl rfl ⟨Nat.le_of_ble_eq_true rfl, Nat.le_of_ble_eq_true rfl⟩ ⟨Nat.le_of_ble_eq_true rfl, Nat.le_of_ble_eq_true rfl⟩ rfl (Nat.le_of_ble_eq_true rfl)) rfl rfl rfl rfl (fun s98 r99 _ => ?_)
        refine gq_bipush (v := -4) (pc' := 413) dL_law_411 rfl  (by decide) ?_
        refine gq_icmp_eq (pc' := 416) (tgt := 418) dL_law_413 rfl (by decide) (fun c100 => ?_) (fun c100 => ?_)
        · refine gq_sub (l' := [(0, .ref (xa X 105)), (1, .ref (xa X 0)), (3, .ref (xa X 26)), (4, .int x4), (5, .int x5)]) [0, 1, 2, 3, 4] rfl ?_
          exact gq_ph rfl (g_L_law_J418 hrec s98 x4 x5)
        · refine gq_iconst (v := 0) (pc' := 417) dL_law_416 rfl  (by decide) ?_
          exact gq_none
      · refine gq_iconst (v := 0) (pc' := 417) dL_law_416 rfl  (by decide) ?_
        exact gq_none
    · refine gq_iconst (v := 0) (pc' := 417) dL_law_416 rfl  (by decide) ?_
      exact gq_none
  · refine gq_sub (l' := [(0, .ref (xa X 105)), (1, .ref (xa X 0)), (3, .ref (xa X 26)), (4, .int x4), (5, .int x5)]) [0, 1, 2, 3, 4] rfl ?_
    exact gq_ph rfl (g_L_law_J418 hrec σ x4 x5)
set_option maxRecDepth 100000 in
set_option maxHeartbeats 4000000 in
theorem g_L_law_J334 {X : q_Cx} {rec : Sg → Int32 → Int32 → Rs} (hrec : ∀ (σ : Sg) (x4 : Int32) (x5 : Int32), q_G X mL_law (q_QL X) ((q_LA [.inl (true, 64)]), 27, 1099) σ 122 [(0, .ref (xa X 105)), (1, .ref (xa X 0)), (3, .ref (xa X 26)), (4, .int x4), (5, .int x5)] [] (rec σ x4 x5)) (σ : Sg) (x4 : Int32) (x5 : Int32) (x10 : Int32) (x12 : Int32) (x13 : Int32) : q_G X mL_law (q_QL X) ((q_LA [.inl (true, 64)]), 27, 1099) σ 334 [(0, .ref (xa X 105)), (1, .ref (xa X 0)), (3, .ref (xa X 26)), (4, .int x4), (5, .int x5), (10, .int x10), (12, .int x12), (13, .int x13)] [] (f_L_law_J334 (xn X) rec σ x4 x5 x10 x12 x13) := by
  unfold f_L_law_J334
  refine gq_iload (i := 7) (pc' := 336) dL_law_334 rfl rfl ?_
  refine gq_iconst (v := -1) (pc' := 337) dL_law_336 rfl  (by decide) ?_
  refine gq_icmp_ne (pc' := 340) (tgt := 342) dL_law_337 rfl (by decide) (fun c83 => ?_) (fun c83 => ?_)
  · refine gq_iconst (v := 0) (pc' := 341) dL_law_340 rfl  (by decide) ?_
    exact gq_none
  · refine gq_iload (i := 7) (pc' := 344) dL_law_342 rfl rfl ?_
    refine gq_iconst (v := 1) (pc' := 345) dL_law_344 rfl  (by decide) ?_
    refine gq_icmp_ne (pc' := 348) (tgt := 376) dL_law_345 rfl (by decide) (fun c84 => ?_) (fun c84 => ?_)
    · refine gq_iload (i := 5) (pc' := 350) dL_law_348 rfl rfl ?_
      refine gq_istore (l' := [(4, .int x10), (0, .ref (xa X 105)), (1, .ref (xa X 0)), (3, .ref (xa X 26)), (5, .int x5), (10, .int x10), (12, .int x12), (13, .int x13)]) (pc' := 352) dL_law_350 rfl (by decide) rfl ?_
      refine gq_aload_n (i := 2) (pc' := 353) dL_law_352 rfl rfl ?_
      refine gq_iload (i := 0) (pc' := 355) dL_law_353 rfl rfl ?_
      refine gq_iconst (v := 1) (pc' := 356) dL_law_355 rfl  (by decide) ?_
      refine gq_calli (cs' := 27) (ns' := 1099) (pc' := 359) (gq_siteV (Mc := mX5_state) (As := [.int x10, .int (1 : Int32)]) (rest := []) dL_law_356 lkL_13 mfX5_state (t_X5_state σ x10 (1 : Int32)) lo_0 rfl rfl ⟨Nat.le_of_ble_eq_true rfl, Nat.le_of_ble_eq_true rfl⟩ ⟨Nat.le_of_ble_eq_true rfl, Nat.le_of_ble_eq_true rfl⟩ rfl (Nat.le_of_ble_eq_true rfl)) rfl rfl rfl rfl (fun s85 r86 _ => ?_)
      refine gq_bipush (v := -4) (pc' := 361) dL_law_359 rfl  (by decide) ?_
      refine gq_icmp_ne (pc' := 364) (tgt := 374) dL_law_361 rfl (by decide) (fun c87 => ?_) (fun c87 => ?_)
      · refine gq_aload_n (i := 2) (pc' := 365) dL_law_364 rfl rfl ?_
        refine gq_iload (i := 0) (pc' := 367) dL_law_365 rfl rfl ?_
        refine gq_iconst (v := 2) (pc' := 368) dL_law_367 rfl  (by decide) ?_
        refine gq_calli (cs' := 27) (ns' := 1099) (pc' := 371) (gq_siteV (Mc := mX5_state) (As := [.int x10, .int (2 : Int32)]) (rest := []) dL_law_368 lkL_13 mfX5_state (t_X5_state s85 x10 (2 : Int32)) lo_0 rfl rfl ⟨Nat.le_of_ble_eq_true rfl, Nat.le_of_ble_eq_true rfl⟩ ⟨Nat.le_of_ble_eq_true rfl, Nat.le_of_ble_eq_true rfl⟩ rfl (Nat.le_of_ble_eq_true rfl)) rfl rfl rfl rfl (fun s88 r89 _ => ?_)
        refine gq_if_eq (pc' := 374) (tgt := 376) dL_law_371 rfl (by decide) (fun c90 => ?_) (fun c90 => ?_)
        · refine gq_sub (l' := [(0, .ref (xa X 105)), (1, .ref (xa X 0)), (3, .ref (xa X 26)), (4, .int x10), (5, .int x5), (10, .int x10), (12, .int x12), (13, .int x13)]) [1, 2, 3, 0, 4, 5, 6, 7] rfl ?_
          exact gq_ph rfl (g_L_law_J376 hrec s88 x10 x5 x10 x12 x13)
        · refine gq_iconst (v := 0) (pc' := 375) dL_law_374 rfl  (by decide) ?_
          exact gq_none
      · refine gq_iconst (v := 0) (pc' := 375) dL_law_374 rfl  (by decide) ?_
        exact gq_none
    · refine gq_sub (l' := [(0, .ref (xa X 105)), (1, .ref (xa X 0)), (3, .ref (xa X 26)), (4, .int x4), (5, .int x5), (10, .int x10), (12, .int x12), (13, .int x13)]) [0, 1, 2, 3, 4, 5, 6, 7] rfl ?_
      exact gq_ph rfl (g_L_law_J376 hrec σ x4 x5 x10 x12 x13)
set_option maxRecDepth 100000 in
set_option maxHeartbeats 4000000 in
theorem g_L_law_J303 {X : q_Cx} {rec : Sg → Int32 → Int32 → Rs} (hrec : ∀ (σ : Sg) (x4 : Int32) (x5 : Int32), q_G X mL_law (q_QL X) ((q_LA [.inl (true, 64)]), 27, 1099) σ 122 [(0, .ref (xa X 105)), (1, .ref (xa X 0)), (3, .ref (xa X 26)), (4, .int x4), (5, .int x5)] [] (rec σ x4 x5)) (σ : Sg) (x4 : Int32) (x5 : Int32) (x10 : Int32) (y0 : Int32) : q_G X mL_law (q_QL X) ((q_LA [.inl (true, 64)]), 27, 1099) σ 303 [(0, .ref (xa X 105)), (1, .ref (xa X 0)), (3, .ref (xa X 26)), (4, .int x4), (5, .int x5), (10, .int x10)] [.int y0] (f_L_law_J303 (xn X) rec σ x4 x5 x10 y0) := by
  unfold f_L_law_J303
  refine gq_istore (l' := [(11, .int y0), (0, .ref (xa X 105)), (1, .ref (xa X 0)), (3, .ref (xa X 26)), (4, .int x4), (5, .int x5), (10, .int x10)]) (pc' := 305) dL_law_303 rfl (by decide) rfl ?_
  refine gq_aload_n (i := 2) (pc' := 306) dL_law_305 rfl rfl ?_
  refine gq_iload (i := 6) (pc' := 308) dL_law_306 rfl rfl ?_
  refine gq_iconst (v := 0) (pc' := 309) dL_law_308 rfl  (by decide) ?_
  refine gq_calli (cs' := 27) (ns' := 1099) (pc' := 312) (gq_siteV (Mc := mX5_told) (As := [.int x10, .int (0 : Int32)]) (rest := []) dL_law_309 lkL_67 mfX5_told (t_X5_told σ x10 (0 : Int32)) lo_0 rfl rfl ⟨Nat.le_of_ble_eq_true rfl, Nat.le_of_ble_eq_true rfl⟩ ⟨Nat.le_of_ble_eq_true rfl, Nat.le_of_ble_eq_true rfl⟩ rfl (Nat.le_of_ble_eq_true rfl)) rfl rfl rfl rfl (fun s78 r79 _ => ?_)
  refine gq_istore (l' := [(12, .int r79), (11, .int y0), (0, .ref (xa X 105)), (1, .ref (xa X 0)), (3, .ref (xa X 26)), (4, .int x4), (5, .int x5), (10, .int x10)]) (pc' := 314) dL_law_312 rfl (by decide) rfl ?_
  refine gq_aload_n (i := 3) (pc' := 315) dL_law_314 rfl rfl ?_
  refine gq_iload (i := 7) (pc' := 317) dL_law_315 rfl rfl ?_
  refine gq_calli (cs' := 27) (ns' := 1099) (pc' := 320) (gq_siteV (Mc := mX5_found) (As := [.int x10]) (rest := []) dL_law_317 lkL_69 mfX5_found (t_X5_found s78 x10) lo_0 rfl rfl ⟨Nat.le_of_ble_eq_true rfl, Nat.le_of_ble_eq_true rfl⟩ ⟨Nat.le_of_ble_eq_true rfl, Nat.le_of_ble_eq_true rfl⟩ rfl (Nat.le_of_ble_eq_true rfl)) rfl rfl rfl rfl (fun s80 r81 _ => ?_)
  refine gq_istore (l' := [(13, .int r81), (12, .int r79), (11, .int y0), (0, .ref (xa X 105)), (1, .ref (xa X 0)), (3, .ref (xa X 26)), (4, .int x4), (5, .int x5), (10, .int x10)]) (pc' := 322) dL_law_320 rfl (by decide) rfl ?_
  refine gq_iload (i := 0) (pc' := 324) dL_law_322 rfl rfl ?_
  refine gq_bipush (v := -2) (pc' := 326) dL_law_324 rfl  (by decide) ?_
  refine gq_icmp_eq (pc' := 329) (tgt := 334) dL_law_326 rfl (by decide) (fun c82 => ?_) (fun c82 => ?_)
  · refine gq_sub (l' := [(0, .ref (xa X 105)), (1, .ref (xa X 0)), (3, .ref (xa X 26)), (4, .int x4), (5, .int x5), (10, .int x10), (12, .int r79), (13, .int r81)]) [3, 4, 5, 6, 7, 8, 1, 0] rfl ?_
    exact gq_ph rfl (g_L_law_J334 hrec s80 x4 x5 x10 r79 r81)
  · refine gq_iload (i := 2) (pc' := 331) dL_law_329 rfl rfl ?_
    refine gq_if_eq (pc' := 334) (tgt := 340) dL_law_331 rfl (by decide) (fun c104 => ?_) (fun c104 => ?_)
    · refine gq_iconst (v := 0) (pc' := 341) dL_law_340 rfl  (by decide) ?_
      exact gq_none
    · refine gq_sub (l' := [(0, .ref (xa X 105)), (1, .ref (xa X 0)), (3, .ref (xa X 26)), (4, .int x4), (5, .int x5), (10, .int x10), (12, .int r79), (13, .int r81)]) [3, 4, 5, 6, 7, 8, 1, 0] rfl ?_
      exact gq_ph rfl (g_L_law_J334 hrec s80 x4 x5 x10 r79 r81)
set_option maxRecDepth 100000 in
set_option maxHeartbeats 4000000 in
theorem g_L_law_J258 {X : q_Cx} {rec : Sg → Int32 → Int32 → Rs} (hrec : ∀ (σ : Sg) (x4 : Int32) (x5 : Int32), q_G X mL_law (q_QL X) ((q_LA [.inl (true, 64)]), 27, 1099) σ 122 [(0, .ref (xa X 105)), (1, .ref (xa X 0)), (3, .ref (xa X 26)), (4, .int x4), (5, .int x5)] [] (rec σ x4 x5)) (σ : Sg) (x4 : Int32) (x5 : Int32) (x6 : Int32) : q_G X mL_law (q_QL X) ((q_LA [.inl (true, 64)]), 27, 1099) σ 258 [(0, .ref (xa X 105)), (1, .ref (xa X 0)), (3, .ref (xa X 26)), (4, .int x4), (5, .int x5), (6, .int x6)] [] (f_L_law_J258 (xn X) rec σ x4 x5 x6) := by
  unfold f_L_law_J258
  refine gq_iload (i := 5) (pc' := 260) dL_law_258 rfl rfl ?_
  refine gq_bipush (v := 6) (pc' := 262) dL_law_260 rfl  (by decide) ?_
  refine gq_ishr (pc' := 263) dL_law_262 rfl ?_
  refine gq_iconst (v := 4) (pc' := 264) dL_law_263 rfl  (by decide) ?_
  refine gq_calli (cs' := 27) (ns' := 1099) (pc' := 267) (gq_siteS (Mc := mL_some) (As := [.int (x6 >>> ((6 : Int32) &&& 31)), .int (4 : Int32)]) (rest := []) dL_law_264 lkL_44 mfL_some (t_L_some σ (x6 >>> ((6 : Int32) &&& 31)) (4 : Int32)) rfl ⟨Nat.le_of_ble_eq_true rfl, Nat.le_of_ble_eq_true rfl⟩ ⟨Nat.le_of_ble_eq_true rfl, Nat.le_of_ble_eq_true rfl⟩ rfl (Nat.le_of_ble_eq_true rfl)) rfl rfl rfl rfl (fun s60 r61 _ => ?_)
  refine gq_if_ne (pc' := 270) (tgt := 428) dL_law_267 rfl (by decide) (fun c62 => ?_) (fun c62 => ?_)
  · refine gq_iload (i := 3) (pc' := 272) dL_law_270 rfl rfl ?_
    refine gq_if_le (pc' := 275) (tgt := 428) dL_law_272 rfl (by decide) (fun c63 => ?_) (fun c63 => ?_)
    · refine gq_sub (l' := [(0, .ref (xa X 105)), (1, .ref (xa X 0)), (3, .ref (xa X 26)), (4, .int x4), (5, .int x5)]) [0, 1, 2, 3, 4] rfl ?_
      exact gq_ph rfl (g_L_law_J428 hrec s60 x4 x5)
    · refine gq_iload (i := 5) (pc' := 277) dL_law_275 rfl rfl ?_
      refine gq_bipush (v := 8) (pc' := 279) dL_law_277 rfl  (by decide) ?_
      refine gq_ishr (pc' := 280) dL_law_279 rfl ?_
      refine gq_iload (i := 3) (pc' := 282) dL_law_280 rfl rfl ?_
      refine gq_calli (cs' := 27) (ns' := 1099) (pc' := 285) (gq_siteS (Mc := mL_some) (As := [.int (x6 >>> ((8 : Int32) &&& 31)), .int x4]) (rest := []) dL_law_282 lkL_44 mfL_some (t_L_some s60 (x6 >>> ((8 : Int32) &&& 31)) x4) rfl ⟨Nat.le_of_ble_eq_true rfl, Nat.le_of_ble_eq_true rfl⟩ ⟨Nat.le_of_ble_eq_true rfl, Nat.le_of_ble_eq_true rfl⟩ rfl (Nat.le_of_ble_eq_true rfl)) rfl rfl rfl rfl (fun s73 r74 _ => ?_)
      refine gq_istore (l' := [(10, .int r74), (0, .ref (xa X 105)), (1, .ref (xa X 0)), (3, .ref (xa X 26)), (4, .int x4), (5, .int x5), (6, .int x6)]) (pc' := 287) dL_law_285 rfl (by decide) rfl ?_
      refine gq_aload_n (i := 2) (pc' := 288) dL_law_287 rfl rfl ?_
      refine gq_iload (i := 0) (pc' := 290) dL_law_288 rfl rfl ?_
      refine gq_iconst (v := 3) (pc' := 291) dL_law_290 rfl  (by decide) ?_
      refine gq_calli (cs' := 27) (ns' := 1099) (pc' := 294) (gq_siteV (Mc := mX5_told) (As := [.int r74, .int (3 : Int32)]) (rest := []) dL_law_291 lkL_67 mfX5_told (t_X5_told s73 r74 (3 : Int32)) lo_0 rfl rfl ⟨Nat.le_of_ble_eq_true rfl, Nat.le_of_ble_eq_true rfl⟩ ⟨Nat.le_of_ble_eq_true rfl, Nat.le_of_ble_eq_true rfl⟩ rfl (Nat.le_of_ble_eq_true rfl)) rfl rfl rfl rfl (fun s75 r76 _ => ?_)
      refine gq_iconst (v := 1) (pc' := 295) dL_law_294 rfl  (by decide) ?_
      refine gq_icmp_ne (pc' := 298) (tgt := 302) dL_law_295 rfl (by decide) (fun c77 => ?_) (fun c77 => ?_)
      · refine gq_iconst (v := 1) (pc' := 299) dL_law_298 rfl  (by decide) ?_
        refine gq_goto (pc' := 303) dL_law_299 (by decide) ?_
        refine gq_sub (l' := [(0, .ref (xa X 105)), (1, .ref (xa X 0)), (3, .ref (xa X 26)), (4, .int x4), (5, .int x5), (10, .int r74)]) [1, 2, 3, 4, 5, 0] rfl ?_
        exact gq_ph rfl (g_L_law_J303 hrec s75 x4 x5 r74 (1 : Int32))
      · refine gq_iconst (v := 0) (pc' := 303) dL_law_302 rfl  (by decide) ?_
        refine gq_sub (l' := [(0, .ref (xa X 105)), (1, .ref (xa X 0)), (3, .ref (xa X 26)), (4, .int x4), (5, .int x5), (10, .int r74)]) [1, 2, 3, 4, 5, 0] rfl ?_
        exact gq_ph rfl (g_L_law_J303 hrec s75 x4 x5 r74 (0 : Int32))
  · refine gq_sub (l' := [(0, .ref (xa X 105)), (1, .ref (xa X 0)), (3, .ref (xa X 26)), (4, .int x4), (5, .int x5)]) [0, 1, 2, 3, 4] rfl ?_
    exact gq_ph rfl (g_L_law_J428 hrec s60 x4 x5)
set_option maxRecDepth 100000 in
set_option maxHeartbeats 4000000 in
theorem g_L_law_J187 {X : q_Cx} {rec : Sg → Int32 → Int32 → Rs} (hrec : ∀ (σ : Sg) (x4 : Int32) (x5 : Int32), q_G X mL_law (q_QL X) ((q_LA [.inl (true, 64)]), 27, 1099) σ 122 [(0, .ref (xa X 105)), (1, .ref (xa X 0)), (3, .ref (xa X 26)), (4, .int x4), (5, .int x5)] [] (rec σ x4 x5)) (σ : Sg) (x4 : Int32) (x5 : Int32) (x6 : Int32) (y0 : Int32) : q_G X mL_law (q_QL X) ((q_LA [.inl (true, 64)]), 27, 1099) σ 187 [(0, .ref (xa X 105)), (1, .ref (xa X 0)), (3, .ref (xa X 26)), (4, .int x4), (5, .int x5), (6, .int x6)] [.int y0] (f_L_law_J187 (xn X) rec σ x4 x5 x6 y0) := by
  unfold f_L_law_J187
  refine gq_istore (l' := [(7, .int y0), (0, .ref (xa X 105)), (1, .ref (xa X 0)), (3, .ref (xa X 26)), (4, .int x4), (5, .int x5), (6, .int x6)]) (pc' := 189) dL_law_187 rfl (by decide) rfl ?_
  refine gq_aload_n (i := 2) (pc' := 190) dL_law_189 rfl rfl ?_
  refine gq_iload (i := 0) (pc' := 192) dL_law_190 rfl rfl ?_
  refine gq_iload (i := 6) (pc' := 194) dL_law_192 rfl rfl ?_
  refine gq_iconst (v := 3) (pc' := 195) dL_law_194 rfl  (by decide) ?_
  refine gq_ishr (pc' := 196) dL_law_195 rfl ?_
  refine gq_iconst (v := 4) (pc' := 197) dL_law_196 rfl  (by decide) ?_
  refine gq_calli (cs' := 27) (ns' := 1099) (pc' := 200) (gq_siteS (Mc := mL_some) (As := [.int (x6 >>> ((3 : Int32) &&& 31)), .int (4 : Int32)]) (rest := [.int y0, .ref (xa X 0)]) dL_law_197 lkL_44 mfL_some (t_L_some σ (x6 >>> ((3 : Int32) &&& 31)) (4 : Int32)) rfl ⟨Nat.le_of_ble_eq_true rfl, Nat.le_of_ble_eq_true rfl⟩ ⟨Nat.le_of_ble_eq_true rfl, Nat.le_of_ble_eq_true rfl⟩ rfl (Nat.le_of_ble_eq_true rfl)) rfl rfl rfl rfl (fun s55 r56 _ => ?_)
  refine gq_calli (cs' := 27) (ns' := 1099) (pc' := 203) (gq_siteV (Mc := mX5_stroke) (As := [.int y0, .int r56]) (rest := []) dL_law_200 lkL_60 mfX5_stroke (t_X5_stroke s55 y0 r56) lo_0 rfl rfl ⟨Nat.le_of_ble_eq_true rfl, Nat.le_of_ble_eq_true rfl⟩ ⟨Nat.le_of_ble_eq_true rfl, Nat.le_of_ble_eq_true rfl⟩ rfl (Nat.le_of_ble_eq_true rfl)) rfl rfl rfl rfl (fun s57 r58 _ => ?_)
  refine gq_istore (l' := [(9, .int r58), (7, .int y0), (0, .ref (xa X 105)), (1, .ref (xa X 0)), (3, .ref (xa X 26)), (4, .int x4), (5, .int x5), (6, .int x6)]) (pc' := 205) dL_law_203 rfl (by decide) rfl ?_
  refine gq_iload (i := 0) (pc' := 207) dL_law_205 rfl rfl ?_
  refine gq_if_lt (pc' := 210) (tgt := 258) dL_law_207 rfl (by decide) (fun c59 => ?_) (fun c59 => ?_)
  · refine gq_sub (l' := [(0, .ref (xa X 105)), (1, .ref (xa X 0)), (3, .ref (xa X 26)), (4, .int x4), (5, .int x5), (6, .int x6)]) [2, 3, 4, 5, 6, 7] rfl ?_
    exact gq_ph rfl (g_L_law_J258 hrec s57 x4 x5 x6)
  · refine gq_iload (i := 0) (pc' := 212) dL_law_210 rfl rfl ?_
    refine gq_iload (i := 5) (pc' := 214) dL_law_212 rfl rfl ?_
    refine gq_icmp_ne (pc' := 217) (tgt := 229) dL_law_214 rfl (by decide) (fun c105 => ?_) (fun c105 => ?_)
    · refine gq_aload_n (i := 3) (pc' := 218) dL_law_217 rfl rfl ?_
      refine gq_iconst (v := 0) (pc' := 219) dL_law_218 rfl  (by decide) ?_
      refine gq_calli (cs' := 27) (ns' := 1099) (pc' := 222) (gq_siteV (Mc := mX5_count) (As := [.int (0 : Int32)]) (rest := []) dL_law_219 lkL_63 mfX5_count (t_X5_count s57 (0 : Int32)) lo_0 rfl rfl ⟨Nat.le_of_ble_eq_true rfl, Nat.le_of_ble_eq_true rfl⟩ ⟨Nat.le_of_ble_eq_true rfl, Nat.le_of_ble_eq_true rfl⟩ rfl (Nat.le_of_ble_eq_true rfl)) rfl rfl rfl rfl (fun s106 r107 _ => ?_)
      refine gq_iload (i := 5) (pc' := 224) dL_law_222 rfl rfl ?_
      refine gq_iconst (v := 1) (pc' := 225) dL_law_224 rfl  (by decide) ?_
      refine gq_iadd (pc' := 226) dL_law_225 rfl ?_
      refine gq_icmp_eq (pc' := 229) (tgt := 231) dL_law_226 rfl (by decide) (fun c108 => ?_) (fun c108 => ?_)
      · refine gq_iload (i := 5) (pc' := 233) dL_law_231 rfl rfl ?_
        refine gq_iconst (v := 1) (pc' := 234) dL_law_233 rfl  (by decide) ?_
        refine gq_iadd (pc' := 235) dL_law_234 rfl ?_
        refine gq_let (fun v109 => ?_)
        refine gq_istore (l' := [(4, .int v109), (9, .int r58), (7, .int y0), (0, .ref (xa X 105)), (1, .ref (xa X 0)), (3, .ref (xa X 26)), (5, .int x5), (6, .int x6)]) (pc' := 237) dL_law_235 rfl (by decide) rfl ?_
        refine gq_aload_n (i := 5) (pc' := 238) dL_law_237 rfl rfl ?_
        refine gq_iload (i := 0) (pc' := 240) dL_law_238 rfl rfl ?_
        refine gq_aload_n (i := 4) (pc' := 241) dL_law_240 rfl rfl ?_
        refine gq_iload (i := 0) (pc' := 243) dL_law_241 rfl rfl ?_
        refine gq_callj (cs' := 27) (ns' := 1099) (pc' := 246) (gq_siteS (Mc := mL_told) (As := [.ref (xa X 0), .int v109]) (rest := [.int v109, .ref (xa X 26)]) dL_law_243 lkL_56 mfL_told (t_L_told s106 v109) rfl ⟨Nat.le_of_ble_eq_true rfl, Nat.le_of_ble_eq_true rfl⟩ ⟨Nat.le_of_ble_eq_true rfl, Nat.le_of_ble_eq_true rfl⟩ rfl (Nat.le_of_ble_eq_true rfl)) rfl rfl rfl rfl (fun s110 _ _ => ?_)
        refine gq_last (n := 64) (pc' := 247) dL_law_246 rfl rfl (fun _ => ?_)
        refine gq_lets (fun s112 => ?_)
        refine gq_aload_n (i := 5) (pc' := 248) dL_law_247 rfl rfl ?_
        refine gq_iload (i := 0) (pc' := 250) dL_law_248 rfl rfl ?_
        refine gq_lald (n := 64) (pc' := 251) dL_law_250 rfl rfl (fun _ => ?_)
        refine gq_lconst (v := 0) (pc' := 252) dL_law_251 rfl  (by decide) ?_
        refine gq_lcmp (pc' := 253) dL_law_252 rfl ?_
        refine gq_if_ge (pc' := 256) (tgt := 258) dL_law_253 rfl (by decide) (fun c113 => ?_) (fun c113 => ?_)
        · refine gq_sub (l' := [(0, .ref (xa X 105)), (1, .ref (xa X 0)), (3, .ref (xa X 26)), (4, .int v109), (5, .int x5), (6, .int x6)]) [3, 4, 5, 0, 6, 7] rfl ?_
          exact gq_ph rfl (g_L_law_J258 hrec s112 v109 x5 x6)
        · refine gq_iconst (v := 0) (pc' := 257) dL_law_256 rfl  (by decide) ?_
          exact gq_none
      · refine gq_iconst (v := 0) (pc' := 230) dL_law_229 rfl  (by decide) ?_
        exact gq_none
    · refine gq_iconst (v := 0) (pc' := 230) dL_law_229 rfl  (by decide) ?_
      exact gq_none
set_option maxRecDepth 100000 in
set_option maxHeartbeats 4000000 in
theorem g_L_law_J185 {X : q_Cx} {rec : Sg → Int32 → Int32 → Rs} (hrec : ∀ (σ : Sg) (x4 : Int32) (x5 : Int32), q_G X mL_law (q_QL X) ((q_LA [.inl (true, 64)]), 27, 1099) σ 122 [(0, .ref (xa X 105)), (1, .ref (xa X 0)), (3, .ref (xa X 26)), (4, .int x4), (5, .int x5)] [] (rec σ x4 x5)) (σ : Sg) (x4 : Int32) (x5 : Int32) (x6 : Int32) (x7 : Int32) : q_G X mL_law (q_QL X) ((q_LA [.inl (true, 64)]), 27, 1099) σ 185 [(0, .ref (xa X 105)), (1, .ref (xa X 0)), (3, .ref (xa X 26)), (4, .int x4), (5, .int x5), (6, .int x6), (7, .int x7)] [] (f_L_law_J185 (xn X) rec σ x4 x5 x6 x7) := by
  unfold f_L_law_J185
  refine gq_iload (i := 6) (pc' := 187) dL_law_185 rfl rfl ?_
  refine gq_sub (l' := [(0, .ref (xa X 105)), (1, .ref (xa X 0)), (3, .ref (xa X 26)), (4, .int x4), (5, .int x5), (6, .int x6)]) [0, 1, 2, 3, 4, 5] rfl ?_
  exact gq_ph rfl (g_L_law_J187 hrec σ x4 x5 x6 x7)
set_option maxRecDepth 100000 in
set_option maxHeartbeats 4000000 in
theorem k_L_law_L122 {X : q_Cx} {rec : Sg → Int32 → Int32 → Rs} (hrec : ∀ (σ : Sg) (x4 : Int32) (x5 : Int32), q_G X mL_law (q_QL X) ((q_LA [.inl (true, 64)]), 27, 1099) σ 122 [(0, .ref (xa X 105)), (1, .ref (xa X 0)), (3, .ref (xa X 26)), (4, .int x4), (5, .int x5)] [] (rec σ x4 x5)) (σ : Sg) (x4 : Int32) (x5 : Int32) : q_G X mL_law (q_QL X) ((q_LA [.inl (true, 64)]), 27, 1099) σ 122 [(0, .ref (xa X 105)), (1, .ref (xa X 0)), (3, .ref (xa X 26)), (4, .int x4), (5, .int x5)] [] (s_L_law_L122 (xn X) rec σ x4 x5) := by
  unfold s_L_law_L122
  refine gq_iload (i := 4) (pc' := 124) dL_law_122 rfl rfl ?_
  refine gq_bipush (v := 55) (pc' := 126) dL_law_124 rfl  (by decide) ?_
  refine gq_icmp_ge (pc' := 129) (tgt := 478) dL_law_126 rfl (by decide) (fun c27 => ?_) (fun c27 => ?_)
  · refine gq_iconst (v := 0) (pc' := 479) dL_law_478 rfl  (by decide) ?_
    refine gq_istore (l' := [(5, .int (0 : Int32)), (0, .ref (xa X 105)), (1, .ref (xa X 0)), (3, .ref (xa X 26)), (4, .int x4)]) (pc' := 481) dL_law_479 rfl (by decide) rfl ?_
    refine gq_iconst (v := 0) (pc' := 482) dL_law_481 rfl  (by decide) ?_
    refine gq_istore (l' := [(6, .int (0 : Int32)), (5, .int (0 : Int32)), (0, .ref (xa X 105)), (1, .ref (xa X 0)), (3, .ref (xa X 26)), (4, .int x4)]) (pc' := 484) dL_law_482 rfl (by decide) rfl ?_
    refine gq_sub (l' := [(1, .ref (xa X 0)), (4, .int x4), (5, .int (0 : Int32)), (6, .int (0 : Int32))]) [3, 5, 1, 0] rfl ?_
    exact gq_ph rfl (g_L_law_L484 1000 σ x4 (0 : Int32) (0 : Int32))
  · refine gq_aload_n (i := 0) (pc' := 130) dL_law_129 rfl rfl ?_
    refine gq_iload (i := 4) (pc' := 132) dL_law_130 rfl rfl ?_
    refine gq_calli (cs' := 27) (ns' := 1099) (pc' := 135) (gq_siteS (Mc := mL_cell) (As := [.ref (xa X 105), .int x5]) (rest := []) dL_law_132 lkL_40 mfL_cell (t_L_cell 105 (xn X) (Or.inr ⟨rfl, rfl⟩) σ x5) rfl ⟨Nat.le_of_ble_eq_true rfl, Nat.le_of_ble_eq_true rfl⟩ ⟨Nat.le_of_ble_eq_true rfl, Nat.le_of_ble_eq_true rfl⟩ rfl (Nat.le_of_ble_eq_true rfl)) rfl rfl rfl rfl (fun s45 r46 _ => ?_)
    refine gq_istore (l' := [(6, .int r46), (0, .ref (xa X 105)), (1, .ref (xa X 0)), (3, .ref (xa X 26)), (4, .int x4), (5, .int x5)]) (pc' := 137) dL_law_135 rfl (by decide) rfl ?_
    refine gq_iload (i := 0) (pc' := 139) dL_law_137 rfl rfl ?_
    refine gq_bipush (v := 7) (pc' := 141) dL_law_139 rfl  (by decide) ?_
    refine gq_calli (cs' := 27) (ns' := 1099) (pc' := 144) (gq_siteS (Mc := mL_some) (As := [.int r46, .int (7 : Int32)]) (rest := []) dL_law_141 lkL_44 mfL_some (t_L_some s45 r46 (7 : Int32)) rfl ⟨Nat.le_of_ble_eq_true rfl, Nat.le_of_ble_eq_true rfl⟩ ⟨Nat.le_of_ble_eq_true rfl, Nat.le_of_ble_eq_true rfl⟩ rfl (Nat.le_of_ble_eq_true rfl)) rfl rfl rfl rfl (fun s47 r48 _ => ?_)
    refine gq_istore (l' := [(7, .int r48), (6, .int r46), (0, .ref (xa X 105)), (1, .ref (xa X 0)), (3, .ref (xa X 26)), (4, .int x4), (5, .int x5)]) (pc' := 146) dL_law_144 rfl (by decide) rfl ?_
    refine gq_aload_n (i := 3) (pc' := 147) dL_law_146 rfl rfl ?_
    refine gq_iload (i := 5) (pc' := 149) dL_law_147 rfl rfl ?_
    refine gq_iconst (v := 1) (pc' := 150) dL_law_149 rfl  (by decide) ?_
    refine gq_calli (cs' := 27) (ns' := 1099) (pc' := 153) (gq_siteV (Mc := mX5_state) (As := [.int x4, .int (1 : Int32)]) (rest := []) dL_law_150 lkL_13 mfX5_state (t_X5_state s47 x4 (1 : Int32)) lo_0 rfl rfl ⟨Nat.le_of_ble_eq_true rfl, Nat.le_of_ble_eq_true rfl⟩ ⟨Nat.le_of_ble_eq_true rfl, Nat.le_of_ble_eq_true rfl⟩ rfl (Nat.le_of_ble_eq_true rfl)) rfl rfl rfl rfl (fun s49 r50 _ => ?_)
    refine gq_istore (l' := [(8, .int r50), (7, .int r48), (6, .int r46), (0, .ref (xa X 105)), (1, .ref (xa X 0)), (3, .ref (xa X 26)), (4, .int x4), (5, .int x5)]) (pc' := 155) dL_law_153 rfl (by decide) rfl ?_
    refine gq_aload_n (i := 4) (pc' := 156) dL_law_155 rfl rfl ?_
    refine gq_iload (i := 6) (pc' := 158) dL_law_156 rfl rfl ?_
    refine gq_iconst (v := 4) (pc' := 159) dL_law_158 rfl  (by decide) ?_
    refine gq_calli (cs' := 27) (ns' := 1099) (pc' := 162) (gq_siteV (Mc := mX5_state) (As := [.int x4, .int (4 : Int32)]) (rest := []) dL_law_159 lkL_13 mfX5_state (t_X5_state s49 x4 (4 : Int32)) lo_0 rfl rfl ⟨Nat.le_of_ble_eq_true rfl, Nat.le_of_ble_eq_true rfl⟩ ⟨Nat.le_of_ble_eq_true rfl, Nat.le_of_ble_eq_true rfl⟩ rfl (Nat.le_of_ble_eq_true rfl)) rfl rfl rfl rfl (fun s51 r52 _ => ?_)
    refine gq_if_lt (pc' := 165) (tgt := 169) dL_law_162 rfl (by decide) (fun c53 => ?_) (fun c53 => ?_)
    · refine gq_iload (i := 0) (pc' := 171) dL_law_169 rfl rfl ?_
      refine gq_if_ge (pc' := 174) (tgt := 185) dL_law_171 rfl (by decide) (fun c54 => ?_) (fun c54 => ?_)
      · refine gq_sub (l' := [(0, .ref (xa X 105)), (1, .ref (xa X 0)), (3, .ref (xa X 26)), (4, .int x4), (5, .int x5), (6, .int r46), (7, .int r48)]) [3, 4, 5, 6, 7, 2, 1] rfl ?_
        exact gq_ph rfl (g_L_law_J185 hrec s51 x4 x5 r46 r48)
      · refine gq_iload (i := 1) (pc' := 176) dL_law_174 rfl rfl ?_
        refine gq_bipush (v := 6) (pc' := 178) dL_law_176 rfl  (by decide) ?_
        refine gq_icmp_eq (pc' := 181) (tgt := 185) dL_law_178 rfl (by decide) (fun c114 => ?_) (fun c114 => ?_)
        · refine gq_sub (l' := [(0, .ref (xa X 105)), (1, .ref (xa X 0)), (3, .ref (xa X 26)), (4, .int x4), (5, .int x5), (6, .int r46), (7, .int r48)]) [3, 4, 5, 6, 7, 2, 1] rfl ?_
          exact gq_ph rfl (g_L_law_J185 hrec s51 x4 x5 r46 r48)
        · refine gq_iconst (v := 0) (pc' := 182) dL_law_181 rfl  (by decide) ?_
          refine gq_goto (pc' := 187) dL_law_182 (by decide) ?_
          refine gq_sub (l' := [(0, .ref (xa X 105)), (1, .ref (xa X 0)), (3, .ref (xa X 26)), (4, .int x4), (5, .int x5), (6, .int r46)]) [3, 4, 5, 6, 7, 2] rfl ?_
          exact gq_ph rfl (g_L_law_J187 hrec s51 x4 x5 r46 (0 : Int32))
    · refine gq_iconst (v := 4) (pc' := 166) dL_law_165 rfl  (by decide) ?_
      refine gq_goto (pc' := 187) dL_law_166 (by decide) ?_
      refine gq_sub (l' := [(0, .ref (xa X 105)), (1, .ref (xa X 0)), (3, .ref (xa X 26)), (4, .int x4), (5, .int x5), (6, .int r46)]) [3, 4, 5, 6, 7, 2] rfl ?_
      exact gq_ph rfl (g_L_law_J187 hrec s51 x4 x5 r46 (4 : Int32))
set_option maxRecDepth 100000 in
set_option maxHeartbeats 4000000 in
theorem g_L_law_L122 {X : q_Cx} (qn : Nat) : ∀ (σ : Sg) (x4 : Int32) (x5 : Int32), q_G X mL_law (q_QL X) ((q_LA [.inl (true, 64)]), 27, 1099) σ 122 [(0, .ref (xa X 105)), (1, .ref (xa X 0)), (3, .ref (xa X 26)), (4, .int x4), (5, .int x5)] [] (f_L_law_L122 (xn X) qn σ x4 x5) := by
  induction qn with
  | zero => exact fun σ x4 x5 => gq_none
  | succ qn ih => exact fun σ x4 x5 => k_L_law_L122 ih σ x4 x5
set_option maxRecDepth 100000 in
set_option maxHeartbeats 4000000 in
theorem g_L_law_J62 {X : q_Cx} (σ : Sg) (x2 : Int32) (y1 : Int32) (y2 : Int32) (y3 : Int32) (y4 : Int32) : q_G X mL_law (q_QL X) ((q_LA []), 26, 1035) σ 62 [(0, .ref (xa X 105)), (1, .ref (xa X 0)), (2, .int x2)] [.int y4, .int y3, .int y2, .int y1, .ref (xa X 0)] (f_L_law_J62 (xn X) σ x2 y1 y2 y3 y4) := by
  unfold f_L_law_J62
  refine gq_calli (cs' := 26) (ns' := 1035) (pc' := 65) (gq_siteS (Mc := mL_laws) (As := [.ref (xa X 0), .int y1, .int y2, .int y3, .int y4]) (rest := []) dL_law_62 lkL_47 mfL_laws (t_L_laws σ y1 y2 y3 y4) rfl ⟨Nat.le_of_ble_eq_true rfl, Nat.le_of_ble_eq_true rfl⟩ ⟨Nat.le_of_ble_eq_true rfl, Nat.le_of_ble_eq_true rfl⟩ rfl (Nat.le_of_ble_eq_true rfl)) rfl rfl rfl rfl (fun s12 r13 _ => ?_)
  refine gq_if_eq (pc' := 68) (tgt := 101) dL_law_65 rfl (by decide) (fun c14 => ?_) (fun c14 => ?_)
  · refine gq_iconst (v := 0) (pc' := 102) dL_law_101 rfl  (by decide) ?_
    exact gq_none
  · refine gq_aload_n (i := 1) (pc' := 69) dL_law_68 rfl rfl ?_
    refine gq_iconst (v := 3) (pc' := 70) dL_law_69 rfl  (by decide) ?_
    refine gq_iload_n (i := 2) (pc' := 71) dL_law_70 rfl rfl ?_
    refine gq_bipush (v := 10) (pc' := 73) dL_law_71 rfl  (by decide) ?_
    refine gq_ishr (pc' := 74) dL_law_73 rfl ?_
    refine gq_sipush (v := 2001) (pc' := 77) dL_law_74 rfl  (by decide) ?_
    refine gq_calli (cs' := 26) (ns' := 1035) (pc' := 80) (gq_siteS (Mc := mL_some) (As := [.int (x2 >>> ((10 : Int32) &&& 31)), .int (2001 : Int32)]) (rest := [.int (3 : Int32), .ref (xa X 0)]) dL_law_77 lkL_44 mfL_some (t_L_some s12 (x2 >>> ((10 : Int32) &&& 31)) (2001 : Int32)) rfl ⟨Nat.le_of_ble_eq_true rfl, Nat.le_of_ble_eq_true rfl⟩ ⟨Nat.le_of_ble_eq_true rfl, Nat.le_of_ble_eq_true rfl⟩ rfl (Nat.le_of_ble_eq_true rfl)) rfl rfl rfl rfl (fun s15 r16 _ => ?_)
    refine gq_calli (cs' := 26) (ns' := 1035) (pc' := 83) (gq_siteV (Mc := mX5_index) (As := [.int (3 : Int32), .int r16]) (rest := []) dL_law_80 lkL_50 mfX5_index (t_X5_index s15 (3 : Int32) r16) lo_0 rfl rfl ⟨Nat.le_of_ble_eq_true rfl, Nat.le_of_ble_eq_true rfl⟩ ⟨Nat.le_of_ble_eq_true rfl, Nat.le_of_ble_eq_true rfl⟩ rfl (Nat.le_of_ble_eq_true rfl)) rfl rfl rfl rfl (fun s17 r18 _ => ?_)
    refine gq_sipush (v := 1000) (pc' := 86) dL_law_83 rfl  (by decide) ?_
    refine gq_icmp_ne (pc' := 89) (tgt := 101) dL_law_86 rfl (by decide) (fun c19 => ?_) (fun c19 => ?_)
    · refine gq_aload_n (i := 1) (pc' := 90) dL_law_89 rfl rfl ?_
      refine gq_iconst (v := 3) (pc' := 91) dL_law_90 rfl  (by decide) ?_
      refine gq_bipush (v := 6) (pc' := 93) dL_law_91 rfl  (by decide) ?_
      refine gq_calli (cs' := 26) (ns' := 1035) (pc' := 96) (gq_siteV (Mc := mX5_game) (As := [.int (3 : Int32), .int (6 : Int32)]) (rest := []) dL_law_93 lkL_53 mfX5_game (t_X5_game s17 (3 : Int32) (6 : Int32)) lo_0 rfl rfl ⟨Nat.le_of_ble_eq_true rfl, Nat.le_of_ble_eq_true rfl⟩ ⟨Nat.le_of_ble_eq_true rfl, Nat.le_of_ble_eq_true rfl⟩ rfl (Nat.le_of_ble_eq_true rfl)) rfl rfl rfl rfl (fun s20 r21 _ => ?_)
      refine gq_bipush (v := -20) (pc' := 98) dL_law_96 rfl  (by decide) ?_
      refine gq_icmp_ge (pc' := 101) (tgt := 103) dL_law_98 rfl (by decide) (fun c22 => ?_) (fun c22 => ?_)
      · refine gq_bipush (v := 64) (pc' := 105) dL_law_103 rfl  (by decide) ?_
        refine gq_newl (n := 64) (Λ' := (q_LA [.inl (true, 64)])) (pc' := 107) (cs' := 27) (ns' := 1099) dL_law_105 rfl (List.mem_filter.mpr ⟨List.mem_of_getElem? (i := 452) (by decide +kernel), by decide +kernel⟩) rfl (by decide) (by decide) (Nat.le_of_ble_eq_true rfl) (Nat.le_of_ble_eq_true rfl) (Nat.le_of_ble_eq_true rfl) (o := 26) rfl (by decide) rfl rfl rfl ?_
        refine gq_lets (fun s23 => ?_)
        refine gq_astore_n (l' := [(3, .ref (xa X 26)), (0, .ref (xa X 105)), (1, .ref (xa X 0)), (2, .int x2)]) (pc' := 108) dL_law_107 rfl (by decide) rfl ?_
        refine gq_iconst (v := 0) (pc' := 109) dL_law_108 rfl  (by decide) ?_
        refine gq_istore (l' := [(4, .int (0 : Int32)), (3, .ref (xa X 26)), (0, .ref (xa X 105)), (1, .ref (xa X 0)), (2, .int x2)]) (pc' := 111) dL_law_109 rfl (by decide) rfl ?_
        refine gq_aload_n (i := 1) (pc' := 112) dL_law_111 rfl rfl ?_
        refine gq_iconst (v := 0) (pc' := 113) dL_law_112 rfl  (by decide) ?_
        refine gq_aload_n (i := 3) (pc' := 114) dL_law_113 rfl rfl ?_
        refine gq_iconst (v := 0) (pc' := 115) dL_law_114 rfl  (by decide) ?_
        refine gq_callj (cs' := 27) (ns' := 1099) (pc' := 118) (gq_siteS (Mc := mL_told) (As := [.ref (xa X 0), .int (0 : Int32)]) (rest := [.int (0 : Int32), .ref (xa X 26)]) dL_law_115 lkL_56 mfL_told (t_L_told s23 (0 : Int32)) rfl ⟨Nat.le_of_ble_eq_true rfl, Nat.le_of_ble_eq_true rfl⟩ ⟨Nat.le_of_ble_eq_true rfl, Nat.le_of_ble_eq_true rfl⟩ rfl (Nat.le_of_ble_eq_true rfl)) rfl rfl rfl rfl (fun s24 _ _ => ?_)
        refine gq_last (n := 64) (pc' := 119) dL_law_118 rfl rfl (fun _ => ?_)
        refine gq_lets (fun s26 => ?_)
        refine gq_iconst (v := 0) (pc' := 120) dL_law_119 rfl  (by decide) ?_
        refine gq_istore (l' := [(5, .int (0 : Int32)), (4, .int (0 : Int32)), (3, .ref (xa X 26)), (0, .ref (xa X 105)), (1, .ref (xa X 0)), (2, .int x2)]) (pc' := 122) dL_law_120 rfl (by decide) rfl ?_
        refine gq_sub (l' := [(0, .ref (xa X 105)), (1, .ref (xa X 0)), (3, .ref (xa X 26)), (4, .int (0 : Int32)), (5, .int (0 : Int32))]) [3, 4, 2, 1, 0] rfl ?_
        exact gq_ph rfl (g_L_law_L122 1000 s26 (0 : Int32) (0 : Int32))
      · refine gq_iconst (v := 0) (pc' := 102) dL_law_101 rfl  (by decide) ?_
        exact gq_none
    · refine gq_iconst (v := 0) (pc' := 102) dL_law_101 rfl  (by decide) ?_
      exact gq_none
set_option maxRecDepth 100000 in
set_option maxHeartbeats 4000000 in
theorem g_L_law_J38 {X : q_Cx} (σ : Sg) (x2 : Int32) (y1 : Int32) (y2 : Int32) : q_G X mL_law (q_QL X) ((q_LA []), 26, 1035) σ 38 [(0, .ref (xa X 105)), (1, .ref (xa X 0)), (2, .int x2)] [.int y2, .int y1, .ref (xa X 0)] (f_L_law_J38 (xn X) σ x2 y1 y2) := by
  unfold f_L_law_J38
  refine gq_iload_n (i := 2) (pc' := 39) dL_law_38 rfl rfl ?_
  refine gq_iconst (v := 4) (pc' := 40) dL_law_39 rfl  (by decide) ?_
  refine gq_ishr (pc' := 41) dL_law_40 rfl ?_
  refine gq_bipush (v := 20) (pc' := 43) dL_law_41 rfl  (by decide) ?_
  refine gq_calli (cs' := 26) (ns' := 1035) (pc' := 46) (gq_siteS (Mc := mL_some) (As := [.int (x2 >>> ((4 : Int32) &&& 31)), .int (20 : Int32)]) (rest := [.int y2, .int y1, .ref (xa X 0)]) dL_law_43 lkL_44 mfL_some (t_L_some σ (x2 >>> ((4 : Int32) &&& 31)) (20 : Int32)) rfl ⟨Nat.le_of_ble_eq_true rfl, Nat.le_of_ble_eq_true rfl⟩ ⟨Nat.le_of_ble_eq_true rfl, Nat.le_of_ble_eq_true rfl⟩ rfl (Nat.le_of_ble_eq_true rfl)) rfl rfl rfl rfl (fun s9 r10 _ => ?_)
  refine gq_iload_n (i := 2) (pc' := 47) dL_law_46 rfl rfl ?_
  refine gq_bipush (v := 9) (pc' := 49) dL_law_47 rfl  (by decide) ?_
  refine gq_ishr (pc' := 50) dL_law_49 rfl ?_
  refine gq_iconst (v := 1) (pc' := 51) dL_law_50 rfl  (by decide) ?_
  refine gq_iand (pc' := 52) dL_law_51 rfl ?_
  refine gq_if_ne (pc' := 55) (tgt := 60) dL_law_52 rfl (by decide) (fun c11 => ?_) (fun c11 => ?_)
  · refine gq_bipush (v := 82) (pc' := 57) dL_law_55 rfl  (by decide) ?_
    refine gq_goto (pc' := 62) dL_law_57 (by decide) ?_
    refine gq_sub (l' := [(0, .ref (xa X 105)), (1, .ref (xa X 0)), (2, .int x2)]) [0, 1, 2] rfl ?_
    exact gq_ph rfl (g_L_law_J62 s9 x2 y1 y2 r10 (82 : Int32))
  · refine gq_bipush (v := 78) (pc' := 62) dL_law_60 rfl  (by decide) ?_
    refine gq_sub (l' := [(0, .ref (xa X 105)), (1, .ref (xa X 0)), (2, .int x2)]) [0, 1, 2] rfl ?_
    exact gq_ph rfl (g_L_law_J62 s9 x2 y1 y2 r10 (78 : Int32))
set_option maxRecDepth 100000 in
set_option maxHeartbeats 4000000 in
theorem t_law {X : q_Cx} (σ : Sg) : q_G X mL_law (q_QL X) ([], 0, 0) σ 0 [(0, .ref (xa X 105))] [] (f_L_law (xn X) σ) := by
  unfold f_L_law
  refine gq_new (ci := 5) (pc' := 3) (fs := [some none, some none, some none, some none]) (cs' := 1) (ns' := 4) dL_law_0 rfl (List.mem_filter.mpr ⟨List.mem_of_getElem? (i := 28) (by decide +kernel), by decide +kernel⟩) (List.mem_filter.mpr ⟨List.mem_of_getElem? (i := 29) (by decide +kernel), by decide +kernel⟩) (List.mem_filter.mpr ⟨List.mem_of_getElem? (i := 20) (by decide +kernel), by decide +kernel⟩) iwX5 tyX5_ok rfl (fun j hj => by rcases (show j = 0 ∨ j = 1 ∨ j = 2 ∨ j = 3 by omega) with rfl | rfl | rfl | rfl <;> rfl) rfl (by decide) (Nat.le_of_ble_eq_true rfl) (Nat.le_of_ble_eq_true rfl) (o := 0) rfl (by decide) rfl rfl rfl ?_
  refine gq_lets (fun s1 => ?_)
  refine gq_dup (pc' := 4) dL_law_3 rfl rfl ?_
  refine gq_callv (cs' := 26) (ns' := 1035) (pc' := 7) (gq_siteI (Mc := mX5_init) (As := []) (rest := [.ref (xa X 0)]) dL_law_4 lkL_39 mfX5_init rfl (t_X5_init_0 s1) rfl ⟨Nat.le_of_ble_eq_true rfl, Nat.le_of_ble_eq_true rfl⟩ ⟨Nat.le_of_ble_eq_true rfl, Nat.le_of_ble_eq_true rfl⟩ rfl (Nat.le_of_ble_eq_true rfl)) rfl rfl rfl rfl (fun s2 _ _ => ?_)
  refine gq_astore_n (l' := [(1, .ref (xa X 0)), (0, .ref (xa X 105))]) (pc' := 8) dL_law_7 rfl (by decide) rfl ?_
  refine gq_aload_n (i := 1) (pc' := 9) dL_law_8 rfl rfl ?_
  refine gq_bipush (v := 63) (pc' := 11) dL_law_9 rfl  (by decide) ?_
  refine gq_calli (cs' := 26) (ns' := 1035) (pc' := 14) (gq_siteS (Mc := mL_cell) (As := [.ref (xa X 105), .int (63 : Int32)]) (rest := []) dL_law_11 lkL_40 mfL_cell (t_L_cell 105 (xn X) (Or.inr ⟨rfl, rfl⟩) s2 (63 : Int32)) rfl ⟨Nat.le_of_ble_eq_true rfl, Nat.le_of_ble_eq_true rfl⟩ ⟨Nat.le_of_ble_eq_true rfl, Nat.le_of_ble_eq_true rfl⟩ rfl (Nat.le_of_ble_eq_true rfl)) rfl rfl rfl rfl (fun s4 r5 _ => ?_)
  refine gq_istore_n (l' := [(2, .int r5), (1, .ref (xa X 0)), (0, .ref (xa X 105))]) (pc' := 15) dL_law_14 rfl (by decide) rfl ?_
  refine gq_aload_n (i := 1) (pc' := 16) dL_law_15 rfl rfl ?_
  refine gq_iload_n (i := 0) (pc' := 17) dL_law_16 rfl rfl ?_
  refine gq_bipush (v := 20) (pc' := 19) dL_law_17 rfl  (by decide) ?_
  refine gq_calli (cs' := 26) (ns' := 1035) (pc' := 22) (gq_siteS (Mc := mL_some) (As := [.int r5, .int (20 : Int32)]) (rest := [.ref (xa X 0)]) dL_law_19 lkL_44 mfL_some (t_L_some s4 r5 (20 : Int32)) rfl ⟨Nat.le_of_ble_eq_true rfl, Nat.le_of_ble_eq_true rfl⟩ ⟨Nat.le_of_ble_eq_true rfl, Nat.le_of_ble_eq_true rfl⟩ rfl (Nat.le_of_ble_eq_true rfl)) rfl rfl rfl rfl (fun s6 r7 _ => ?_)
  refine gq_iload_n (i := 0) (pc' := 23) dL_law_22 rfl rfl ?_
  refine gq_bipush (v := 8) (pc' := 25) dL_law_23 rfl  (by decide) ?_
  refine gq_ishr (pc' := 26) dL_law_25 rfl ?_
  refine gq_iconst (v := 1) (pc' := 27) dL_law_26 rfl  (by decide) ?_
  refine gq_iand (pc' := 28) dL_law_27 rfl ?_
  refine gq_if_ne (pc' := 31) (tgt := 36) dL_law_28 rfl (by decide) (fun c8 => ?_) (fun c8 => ?_)
  · refine gq_bipush (v := 82) (pc' := 33) dL_law_31 rfl  (by decide) ?_
    refine gq_goto (pc' := 38) dL_law_33 (by decide) ?_
    refine gq_sub (l' := [(0, .ref (xa X 105)), (1, .ref (xa X 0)), (2, .int r5)]) [2, 1, 0] rfl ?_
    exact gq_ph rfl (g_L_law_J38 s6 r5 r7 (82 : Int32))
  · refine gq_bipush (v := 78) (pc' := 38) dL_law_36 rfl  (by decide) ?_
    refine gq_sub (l' := [(0, .ref (xa X 105)), (1, .ref (xa X 0)), (2, .int r5)]) [2, 1, 0] rfl ?_
    exact gq_ph rfl (g_L_law_J38 s6 r5 r7 (78 : Int32))
end
section
/-! THE MATHEMATICS over the functions f_: numbers, cells, the smallest methods -/
theorem z_lt (a b : Int32) : a < b ↔ a.toInt < b.toInt := Int32.lt_iff_toInt_lt
theorem z_le (a b : Int32) : a ≤ b ↔ a.toInt ≤ b.toInt := Int32.le_iff_toInt_le
theorem z_eq (a b : Int32) : a = b ↔ a.toInt = b.toInt := Int32.toInt_inj.symm
theorem z_rng (a : Int32) : -2147483648 ≤ a.toInt ∧ a.toInt < 2147483648 := ⟨a.minValue_le_toInt, by have := a.toInt_lt; omega⟩
theorem z_bmod {x : Int} (h : -2147483648 ≤ x ∧ x < 2147483648) : x.bmod (2 ^ 32) = x := by
  rw [Int.bmod_def]
  have : ((2 ^ 32 : Nat) : Int) = 4294967296 := by decide
  rw [this]
  omega
theorem z_add {a b : Int32} (h : -2147483648 ≤ a.toInt + b.toInt ∧ a.toInt + b.toInt < 2147483648) : (a + b).toInt = a.toInt + b.toInt := by rw [Int32.toInt_add]; exact z_bmod h
theorem z_sub {a b : Int32} (h : -2147483648 ≤ a.toInt - b.toInt ∧ a.toInt - b.toInt < 2147483648) : (a - b).toInt = a.toInt - b.toInt := by rw [Int32.toInt_sub]; exact z_bmod h
theorem z_mul {a b : Int32} (h : -2147483648 ≤ a.toInt * b.toInt ∧ a.toInt * b.toInt < 2147483648) : (a * b).toInt = a.toInt * b.toInt := by rw [Int32.toInt_mul]; exact z_bmod h
theorem z_neg {a : Int32} (h : -2147483648 ≤ -a.toInt ∧ -a.toInt < 2147483648) : (-a).toInt = -a.toInt := by rw [Int32.toInt_neg]; exact z_bmod h
theorem z_div {a b : Int32} (h : -2147483648 ≤ a.toInt.tdiv b.toInt ∧ a.toInt.tdiv b.toInt < 2147483648) : (a / b).toInt = a.toInt.tdiv b.toInt := by rw [Int32.toInt_div]; exact z_bmod h
/-- the literals that occur -/
theorem z_lits : (0 : Int32).toInt = 0 ∧ (1 : Int32).toInt = 1 ∧ (2 : Int32).toInt = 2 ∧ (3 : Int32).toInt = 3 ∧ (4 : Int32).toInt = 4 ∧ (5 : Int32).toInt = 5 ∧ (6 : Int32).toInt = 6 ∧ (7 : Int32).toInt = 7 ∧ (8 : Int32).toInt = 8 ∧ (-1 : Int32).toInt = -1 ∧ (-4 : Int32).toInt = -4 := by decide
theorem z_clamp {i : Int32} (h : 0 ≤ i.toInt) : (i.toNatClampNeg : Int) = i.toInt := by
  show (i.toInt.toNat : Int) = i.toInt
  omega
theorem z_nI {n : Nat} (h : n < 2147483648) : (nI n).toInt = n := nI_toInt (by omega)
theorem z_cl {n : Nat} (h : n < 2147483648) : (nI n).toNatClampNeg = n := nI_clamp (by omega)
/-- an index is below, or a number within, or beyond -/
theorem z_idx (i : Int32) {n : Nat} (hn : n < 2147483648) : (i < 0) ∨ (nI n ≤ i) ∨ ∃ k, k < n ∧ i = nI k := by
  by_cases h : i < 0
  · exact Or.inl h
  · by_cases h2 : nI n ≤ i
    · exact Or.inr (Or.inl h2)
    · obtain ⟨k, hk, rfl⟩ := nI_of h
      refine Or.inr (Or.inr ⟨k, ?_, rfl⟩)
      rw [z_le, z_nI hn, z_nI (by omega)] at h2
      omega
/-! cells -/
theorem w_eq (σ : Sg) (o k : Nat) (v : Int32) : q_wr σ o k v o = upd (σ o) k v := by simp [q_wr]
theorem w_ne {o o' : Nat} (σ : Sg) (k : Nat) (v : Int32) (h : o' ≠ o) : q_wr σ o k v o' = σ o' := by simp [q_wr, h]
theorem w_at (σ : Sg) (o k o' k' : Nat) (v : Int32) : q_wr σ o k v o' k' = if o' = o ∧ k' = k then v else σ o' k' := by
  by_cases h : o' = o
  · subst h
    by_cases h2 : k' = k <;> simp [q_wr, upd, h2]
  · simp [q_wr, h]
theorem c_at (σ : Sg) (o o' k' : Nat) : q_clr σ o o' k' = if o' = o then 0 else σ o' k' := by
  by_cases h : o' = o <;> simp [q_clr, h]
theorem u_at (f : Nat → Int32) (k k' : Nat) (v : Int32) : upd f k v k' = if k' = k then v else f k' := rfl
theorem b_some (s : Sg) (r : Int32) (f : Sg → Int32 → Rs) : q_bnd (some (s, r)) f = f s r := rfl
theorem l_eq (x : Int32) (f : Int32 → Rs) : q_let x f = f x := rfl
theorem ls_eq (x : Sg) (f : Sg → Rs) : q_lets x f = f x := rfl
theorem n_bool (p : Prop) [Decidable p] : vp_nar .boolean (if p then 1 else 0) = if p then 1 else 0 := by
  by_cases h : p <;> simp [h] <;> decide
/-! the smallest methods -/
theorem r_within (σ : Sg) (a b c : Int32) : f_X5_within σ a b c = some (σ, if b ≤ a ∧ a ≤ c then 1 else 0) := by
  unfold f_X5_within
  by_cases h1 : a < b
  · rw [if_pos h1, if_neg (by rw [z_le, z_le]; rw [z_lt] at h1; omega)]
  · rw [if_neg h1]
    by_cases h2 : c < a
    · rw [if_pos h2, if_neg (by rw [z_le, z_le]; rw [z_lt] at h1 h2; omega)]
    · rw [if_neg h2, if_pos (by rw [z_le, z_le]; rw [z_lt] at h1 h2; omega)]
theorem r_isPlayer (σ : Sg) (a : Int32) : f_X5_isPlayer σ a = some (σ, if 0 ≤ a ∧ a ≤ 7 then 1 else 0) := by
  simp only [f_X5_isPlayer, r_within, b_some, n_bool, if_true]
theorem b_0 (p : Prop) [Decidable p] : ((if p then (1 : Int32) else 0) = 0) ↔ ¬ p := by
  by_cases h : p <;> simp [h]
theorem o_in {k n : Nat} (h : k < n) (hn : n < 2147483648) : ¬ q_oob (nI k) n := nI_in h (by omega)
theorem r_at {a n k : Nat} (σ : Sg) (h : k < n) (hn : n < 2147483648) : f_X5_at a n σ (nI k) = some (σ, σ a k) := by
  unfold f_X5_at
  rw [if_neg (nI_pos (by omega)), if_neg (show ¬ Int32.ofNat n ≤ nI k from nI_ge h (by omega)), if_neg (o_in h hn), z_cl (by omega)]
theorem r_at_lo {a n : Nat} {i : Int32} (σ : Sg) (h : i < 0) : f_X5_at a n σ i = some (σ, -4) := by
  unfold f_X5_at
  rw [if_pos h]
theorem r_set {a n k : Nat} (σ : Sg) (v : Int32) (h : k < n) (hn : n < 2147483648) : f_X5_set a n σ (nI k) v = some (q_wr σ a k v, 0) := by
  unfold f_X5_set
  rw [if_neg (nI_pos (by omega)), if_neg (show ¬ Int32.ofNat n ≤ nI k from nI_ge h (by omega)), if_neg (o_in h hn), z_cl (by omega)]
  rfl
/-- Arrays.fill -/
theorem r_fillL {a n : Nat} (hn : n < 2147483648) (v : Int32) : ∀ (d k q : Nat) (σ : Sg), k + d = n → d < q → ∃ σ', f_J7_fill_53178_L5 a n q σ v (nI k) (nI n) = some (σ', 0) ∧ (∀ o, o ≠ a → σ' o = σ o) ∧ ∀ i, σ' a i = if k ≤ i ∧ i < n then v else σ a i := by
  intro d
  induction d with
  | zero =>
    intro k q σ hk hq
    obtain ⟨q, rfl⟩ : ∃ p, q = p + 1 := ⟨q - 1, by omega⟩
    have : k = n := by omega
    subst this
    refine ⟨σ, ?_, fun _ _ => rfl, fun i => ?_⟩
    · show s_J7_fill_53178_L5 a k (f_J7_fill_53178_L5 a k q) σ v (nI k) (nI k) = _
      unfold s_J7_fill_53178_L5
      rw [if_pos (nI_le (Nat.le_refl _) (by omega))]
    · rw [if_neg (by omega)]
  | succ d ih =>
    intro k q σ hk hq
    obtain ⟨q, rfl⟩ : ∃ p, q = p + 1 := ⟨q - 1, by omega⟩
    obtain ⟨σ', h1, h2, h3⟩ := ih (k + 1) q (q_wr σ a k v) (by omega) (by omega)
    refine ⟨σ', ?_, fun o ho => (h2 o ho).trans (w_ne σ k v ho), fun i => ?_⟩
    · show s_J7_fill_53178_L5 a n (f_J7_fill_53178_L5 a n q) σ v (nI k) (nI n) = _
      unfold s_J7_fill_53178_L5
      rw [if_neg (nI_ge (by omega) (by omega)), if_neg (o_in (by omega) hn), z_cl (by omega), ls_eq, l_eq, nI_1]
      exact h1
    · rw [h3 i, w_at]
      by_cases hi : i = k
      · subst hi
        rw [if_neg (by omega), if_pos ⟨rfl, rfl⟩, if_pos (by omega)]
      · by_cases h4 : k + 1 ≤ i ∧ i < n
        · rw [if_pos h4, if_pos (by omega)]
        · rw [if_neg h4, if_neg (by omega), if_neg (by omega)]
theorem r_fill {a n : Nat} (hn : n < 999) (v : Int32) (σ : Sg) : ∃ σ', f_J7_fill_53178 a n σ v = some (σ', 0) ∧ (∀ o, o ≠ a → σ' o = σ o) ∧ ∀ i, σ' a i = if i < n then v else σ a i := by
  obtain ⟨σ', h1, h2, h3⟩ := r_fillL (a := a) (n := n) (by omega) v n 0 1000 σ (by omega) (by omega)
  refine ⟨σ', ?_, h2, fun i => ?_⟩
  · unfold f_J7_fill_53178
    rw [l_eq]
    exact h1
  · rw [h3 i]
    by_cases h : i < n
    · rw [if_pos h, if_pos (by omega)]
    · rw [if_neg h, if_neg (by omega)]
end
section
/-! the players' marks, and what a game's free turns are -/
theorem z_le0 (a : Int32) : (0 : Int32) ≤ a ↔ 0 ≤ a.toInt := by rw [z_le]; rfl
theorem z_player {p : Int32} (h : 0 ≤ p ∧ p ≤ 7) : ∃ k, k < 8 ∧ p = nI k := by
  rcases z_idx p (n := 8) (by decide) with h1 | h1 | h1
  · rw [z_lt] at h1; rw [z_le, z_le] at h; have e : (0 : Int32).toInt = 0 := rfl; omega
  · rw [z_le, z_nI (by decide)] at h1; rw [z_le, z_le] at h; have e : (7 : Int32).toInt = 7 := rfl; omega
  · exact h1
def m_hc (v : Int32) : Int32 := 20 - v / 100
theorem m_hcr {v : Int32} (h : 0 ≤ v.toInt ∧ v.toInt ≤ 2000) : 0 ≤ (m_hc v).toInt ∧ (m_hc v).toInt ≤ 20 := by
  have e : (100 : Int32).toInt = 100 := rfl
  have e2 : (20 : Int32).toInt = 20 := rfl
  have h1 : (v / 100).toInt = v.toInt / 100 := by
    rw [z_div (by rw [e, Int.tdiv_eq_ediv_of_nonneg h.1]; omega), e, Int.tdiv_eq_ediv_of_nonneg h.1]
  unfold m_hc
  rw [z_sub (by rw [e2, h1]; omega), e2, h1]
  omega
def m_r (d : Int32) : Int32 := if 0 ≤ d then ((if 0 ≤ d then d else 0 - d) + 1) / 2 else -(((if 0 ≤ d then d else 0 - d) + 1) / 2)
def m_f0 (d : Int32) : Int32 := if 0 ≤ d then 0 else (1 - d) / 2
def m_f1 (d : Int32) : Int32 := if d ≤ 0 then 0 else (d + 1) / 2
theorem m_rf : ∀ i : Nat, i < 21 → ∀ j : Nat, j < 21 → ((if 0 < -(m_r (nI i - nI j)) then -(m_r (nI i - nI j)) else 0) = m_f0 (nI i - nI j) ∧ (if 0 < m_r (nI i - nI j) then m_r (nI i - nI j) else 0) = m_f1 (nI i - nI j) ∧ m_f1 (nI i - nI j) - m_f0 (nI i - nI j) = m_r (nI i - nI j)) := by decide +kernel
theorem m_hcn {v : Int32} (h : 0 ≤ v.toInt ∧ v.toInt ≤ 2000) : ∃ k, k < 21 ∧ m_hc v = nI k := by
  obtain ⟨h1, h2⟩ := m_hcr h
  obtain ⟨k, hk, e⟩ := nI_of2 (x := m_hc v) (M := 20) (n := 20) (by decide) (by rw [z_lt, show (0 : Int32).toInt = 0 from rfl]; omega) (by rw [z_le, show (20 : Int32).toInt = 20 from rfl]; exact h2)
  exact ⟨k, by omega, e⟩
theorem c_turns {σ : Sg} {a b i j : Nat} (ha : a < 8) (hb : b < 8) (ei : m_hc (σ 22 b) = nI i) (ej : m_hc (σ 22 a) = nI j) : f_X4_freeTurnsOfOther σ (nI a) (nI b) = some (σ, m_r (nI i - nI j)) := by
  unfold f_X4_freeTurnsOfOther f_X4_handicapOf
  rw [r_at (a := 22) (n := 8) σ hb (by decide), b_some, b_some, r_at (a := 22) (n := 8) σ ha (by decide), b_some, b_some, show (20 : Int32) - σ 22 b / 100 = nI i from ei, show (20 : Int32) - σ 22 a / 100 = nI j from ej, l_eq, l_eq, l_eq]
  unfold m_r
  by_cases h : 0 ≤ nI i - nI j
  · simp only [if_pos h]
  · simp only [if_neg h]
end
section
/-! the tape -/
def z_by (w : Int64) (k : Nat) : Int32 := ((w >>> (((8 : Int32) * nI k).toInt64 &&& 63)) &&& (255 : Int64)).toInt32
theorem z_sh : ∀ k, k < 8 → (((8 : Int32) * nI k).toInt64 &&& 63) = Int64.ofNat (8 * k) ∧ (((8 : Int32) * nI k).toInt64.toUInt64 &&& Int64.toUInt64 63) = UInt64.ofNat (8 * k) := by decide
theorem z_byC (w : Int64) {k : Nat} (hk : k < 8) : (((w.toUInt64 >>> (((8 : Int32) * nI k).toInt64.toUInt64 &&& Int64.toUInt64 63)).toInt64) &&& (255 : Int64)).toInt32 = z_by w k := by
  unfold z_by
  obtain ⟨h1, h2⟩ := z_sh k hk
  rw [h1, h2]
  congr 1
  apply Int64.toBitVec_inj.1
  apply BitVec.eq_of_getLsbD_eq
  intro i hi
  have e1 : ((w.toUInt64 >>> UInt64.ofNat (8 * k)).toInt64 &&& (255 : Int64)).toBitVec = (w.toBitVec >>> (8 * k)) &&& 255#64 := by
    have : (8 * k) % 64 = 8 * k := by omega
    show (w.toBitVec >>> ((UInt64.ofNat (8 * k)).toBitVec % 64)) &&& 255#64 = _
    congr 1
    have h3 : ∀ k, k < 8 → ((UInt64.ofNat (8 * k)).toBitVec % 64) = BitVec.ofNat 64 (8 * k) := by decide
    rw [h3 k hk]
    show w.toBitVec >>> (BitVec.ofNat 64 (8 * k)).toNat = _
    rw [BitVec.toNat_ofNat, Nat.mod_eq_of_lt (by omega)]
  have e2 : (w >>> Int64.ofNat (8 * k) &&& (255 : Int64)).toBitVec = (w.toBitVec.sshiftRight (8 * k)) &&& 255#64 := by
    show (w.toBitVec.sshiftRight ((Int64.ofNat (8 * k)).toBitVec.smod 64).toNat) &&& 255#64 = _
    congr 2
    have h3 : ∀ k, k < 8 → (((Int64.ofNat (8 * k)).toBitVec.smod 64).toNat) = 8 * k := by decide
    exact h3 k hk
  rw [e1, e2]
  simp only [BitVec.getLsbD_and, BitVec.getLsbD_ushiftRight, BitVec.getLsbD_sshiftRight]
  by_cases h8 : i < 8
  · have h64 : 8 * k + i < 64 := by omega
    have h65 : ¬ 64 ≤ i := by omega
    simp [h64, hi, h65]
  · have : ∀ i, i < 64 → ¬ i < 8 → (255#64).getLsbD i = false := by decide
    simp [this i hi h8]
def z_app (t : Nat → Int32) (len : Nat) (w : Int64) (j : Nat) : Nat → Int32 := fun i => if i < len then t i else z_by w (j - 1 - (i - len))
theorem nI_m1 (j : Nat) : nI j + (-1) = nI j - 1 := by rw [Int32.sub_eq_add_neg]
theorem nI_0m : nI 0 - 1 < 0 := by decide
theorem r_byteOf (σ : Sg) (w : Int64) {k : Nat} (hk : k < 8) : f_X0_byteOf σ w (nI k) = some (σ, z_by w k) := by
  unfold f_X0_byteOf
  rw [z_byC w hk]
theorem c_w64 (w : Int64) : ∀ (j q : Nat) (σ : Sg) (len : Nat) (t : Nat → Int32), j < q → j ≤ 8 → len + j ≤ 30 → σ 15 1 = nI len → (∀ i, i < len → σ 16 i = t i) →
    ∃ σ', f_X0_append_L64 q σ w (nI j - 1) = some (σ', nI (len + j)) ∧ σ' 15 1 = nI (len + j) ∧ (∀ i, i < len + j → σ' 16 i = z_app t len w j i) ∧ ∀ o k, o ≠ 16 → ¬ (o = 15 ∧ k = 1) → σ' o k = σ o k := by
  intro j
  induction j with
  | zero =>
    intro q σ len t hq h8 hl h1 h2
    obtain ⟨q, rfl⟩ : ∃ p, q = p + 1 := ⟨q - 1, by omega⟩
    refine ⟨σ, ?_, h1, fun i hi => ?_, fun _ _ _ _ => rfl⟩
    · show s_X0_append_L64 (f_X0_append_L64 q) σ w (nI 0 - 1) = _
      unfold s_X0_append_L64
      rw [if_pos nI_0m, h1]
      rfl
    · simp only [z_app]
      rw [if_pos (by omega), h2 i (by omega)]
  | succ j ih =>
    intro q σ len t hq h8 hl h1 h2
    obtain ⟨q, rfl⟩ : ∃ p, q = p + 1 := ⟨q - 1, by omega⟩
    have e : nI (j + 1) - 1 = nI j := nI_pred j
    obtain ⟨σ', g1, g2, g3, g4⟩ := ih q (q_wr (q_wr σ 16 len (z_by w j)) 15 1 (nI (len + 1))) (len + 1) (z_app t len w (j + 1)) (by omega) (by omega) (by omega) (by rw [w_at, if_pos ⟨rfl, rfl⟩]) (fun i hi => by
      rw [w_at, if_neg (by omega), w_at]
      simp only [z_app]
      by_cases h : i = len
      · subst h
        rw [if_pos ⟨trivial, rfl⟩, if_neg (by omega)]
        congr 1
        omega
      · rw [if_neg (by omega), if_pos (by omega)]
        exact h2 i (by omega))
    refine ⟨σ', ?_, by rw [g2]; congr 1; omega, fun i hi => ?_, fun o k h3 h4 => ?_⟩
    · show s_X0_append_L64 (f_X0_append_L64 q) σ w (nI (j + 1) - 1) = _
      unfold s_X0_append_L64
      rw [e, if_neg (nI_pos (by omega)), r_byteOf σ w (by omega), b_some, h1, r_set (a := 16) (n := 30) σ _ (show len < 30 by omega) (by decide), b_some, ls_eq, l_eq, nI_m1]
      rw [show q_wr σ 16 len (z_by w j) 15 1 = nI len by rw [w_at, if_neg (by omega), h1], nI_1]
      rw [g1]
      congr 3
      omega
    · rw [g3 i (by omega)]
      simp only [z_app]
      by_cases h : i < len + 1
      · rw [if_pos h]
      · rw [if_neg h, if_neg (by omega)]
        congr 1
        omega
    · rw [g4 o k h3 h4, w_at, if_neg h4, w_at, if_neg (fun z => h3 z.1)]
abbrev z_ok (w : Int64) (k : Nat) : Prop := 32 ≤ z_by w k ∧ z_by w k ≤ 126
theorem c_chk (w : Int64) (σ : Sg) {n : Nat} (hn : n ≤ 8) : ∀ (d k q : Nat), k + d = n → d < q → ((∀ i, k ≤ i → i < n → z_ok w i) → f_X0_append_L15 q σ w (nI n) (nI k) = if σ 15 1 + nI n ≤ 30 then f_X0_append_L64 1000 σ w (nI n - 1) else some (σ, -3)) ∧ (¬ (∀ i, k ≤ i → i < n → z_ok w i) → f_X0_append_L15 q σ w (nI n) (nI k) = some (σ, -1)) := by
  intro d
  induction d with
  | zero =>
    intro k q hk hq
    obtain ⟨q, rfl⟩ : ∃ p, q = p + 1 := ⟨q - 1, by omega⟩
    refine ⟨fun _ => ?_, fun h => absurd (fun i h1 h2 => by omega) h⟩
    show s_X0_append_L15 (f_X0_append_L15 q) σ w (nI n) (nI k) = _
    unfold s_X0_append_L15
    rw [if_pos (nI_le (by omega) (by omega))]
    rfl
  | succ d ih =>
    intro k q hk hq
    obtain ⟨q, rfl⟩ : ∃ p, q = p + 1 := ⟨q - 1, by omega⟩
    obtain ⟨i1, i2⟩ := ih (k + 1) q (by omega) (by omega)
    have e : f_X0_append_L15 (q + 1) σ w (nI n) (nI k) = if z_ok w k then f_X0_append_L15 q σ w (nI n) (nI (k + 1)) else some (σ, -1) := by
      show s_X0_append_L15 (f_X0_append_L15 q) σ w (nI n) (nI k) = _
      unfold s_X0_append_L15
      rw [if_neg (nI_ge (by omega) (by omega)), r_byteOf σ w (by omega), b_some, r_within, b_some]
      by_cases h : z_ok w k
      · rw [if_pos h, if_pos (show 32 ≤ z_by w k ∧ z_by w k ≤ 126 from h), if_neg (by decide), l_eq, nI_1]
      · rw [if_neg h, if_neg (show ¬ (32 ≤ z_by w k ∧ z_by w k ≤ 126) from h), if_pos rfl]
    rw [e]
    by_cases h : z_ok w k
    · rw [if_pos h]
      refine ⟨fun g => i1 (fun i h1 h2 => g i (by omega) h2), fun g => i2 (fun g2 => g (fun i h1 h2 => ?_))⟩
      by_cases hi : i = k
      · subst hi; exact h
      · exact g2 i (by omega) h2
    · rw [if_neg h]
      exact ⟨fun g => absurd (g k (Nat.le_refl _) (by omega)) h, fun _ => rfl⟩
abbrev Lw : Type := Nat → Option (Nat × Bool)
def z_let (b : Bool) : Int32 := if b then 82 else 78
def RLc (σ : Sg) (t : Nat → Int32) (len : Nat) (lw : Lw) : Prop := σ 15 1 = nI len ∧ (∀ i, i < len → σ 16 i = t i) ∧ ∀ k, k < 2 → match lw k with
  | none => σ 18 k = -4
  | some (v, b) => σ 17 k = nI v ∧ σ 18 k = z_let b
theorem z_n8 {n : Int32} (h : 1 ≤ n ∧ n ≤ 8) : ∃ k, 1 ≤ k ∧ k ≤ 8 ∧ n = nI k := by
  rcases z_idx n (n := 9) (by decide) with h1 | h1 | ⟨k, hk, rfl⟩
  · rw [z_lt] at h1; rw [z_le, z_le] at h; have e : (0 : Int32).toInt = 0 := rfl; have e1 : (1 : Int32).toInt = 1 := rfl; omega
  · rw [z_le, z_nI (by decide)] at h1; rw [z_le, z_le] at h; have e : (8 : Int32).toInt = 8 := rfl; omega
  · refine ⟨k, ?_, by omega, rfl⟩
    have := h.1
    rw [z_le, z_nI (by omega)] at this
    have e1 : (1 : Int32).toInt = 1 := rfl
    omega
end
section
/-! laws: reading the tape -/
def z_sk (t : Nat → Int32) (len : Nat) : Nat → Nat → Nat
  | 0, a => a
  | d + 1, a => if a < len ∧ t a = 32 then z_sk t len d (a + 1) else a
theorem z_sk_ge (t : Nat → Int32) (len : Nat) : ∀ d a, a ≤ z_sk t len d a ∧ z_sk t len d a ≤ max a len := by
  intro d
  induction d with
  | zero => intro a; exact ⟨Nat.le_refl _, by simp only [z_sk]; omega⟩
  | succ d ih =>
    intro a
    simp only [z_sk]
    split
    · have := ih (a + 1); omega
    · omega
abbrev z_s (t : Nat → Int32) (len a : Nat) : Nat := z_sk t len 31 a
theorem z_sb (t : Nat → Int32) (len a : Nat) : a ≤ z_s t len a ∧ z_s t len a ≤ max a len := z_sk_ge t len 31 a
def z_dg (t : Nat → Int32) (len : Nat) : Nat → Nat → Nat → Nat × Nat
  | 0, a, v => (a, v)
  | d + 1, a, v => if a < len ∧ 48 ≤ t a ∧ t a ≤ 57 then z_dg t len d (a + 1) (min 100 (v * 10 + (t a).toNatClampNeg - 48)) else (a, v)
theorem z_dg_ge (t : Nat → Int32) (len : Nat) : ∀ d a v, a ≤ (z_dg t len d a v).1 ∧ (z_dg t len d a v).1 ≤ max a len ∧ (v ≤ 100 → (z_dg t len d a v).2 ≤ 100) := by
  intro d
  induction d with
  | zero => intro a v; simp only [z_dg]; omega
  | succ d ih =>
    intro a v
    simp only [z_dg]
    split
    · obtain ⟨h1, h2, h3⟩ := ih (a + 1) (min 100 (v * 10 + (t a).toNatClampNeg - 48))
      exact ⟨by omega, by omega, fun _ => h3 (by omega)⟩
    · omega
def z_cla (t : Nat → Int32) (len a : Nat) : Nat × Option (Nat × Nat × Bool) :=
  if z_s t len a < len ∧ (t (z_s t len a) = 112 ∨ t (z_s t len a) = 114) then
    (if (z_dg t len 31 (z_s t len (z_s t len a + 1)) 0).1 = z_s t len (z_s t len a + 1) ∨ 99 < (z_dg t len 31 (z_s t len (z_s t len a + 1)) 0).2 then (z_s t len (z_s t len a + 1), none)
    else if z_s t len (z_dg t len 31 (z_s t len (z_s t len a + 1)) 0).1 < len ∧ (t (z_s t len (z_dg t len 31 (z_s t len (z_s t len a + 1)) 0).1) = 82 ∨ t (z_s t len (z_dg t len 31 (z_s t len (z_s t len a + 1)) 0).1) = 78) then
      (z_s t len (z_dg t len 31 (z_s t len (z_s t len a + 1)) 0).1 + 1, some (if t (z_s t len a) = 112 then 0 else 1, (z_dg t len 31 (z_s t len (z_s t len a + 1)) 0).2, decide (t (z_s t len (z_dg t len 31 (z_s t len (z_s t len a + 1)) 0).1) = 82)))
    else (z_s t len (z_dg t len 31 (z_s t len (z_s t len a + 1)) 0).1, none))
  else (z_s t len a, none)
def z_ap (dl : Lw) (c : Option (Nat × Nat × Bool)) : Lw := match c with
  | none => dl
  | some (k, v, b) => fun i => if i = k then some (v, b) else dl i
/-- the class's tape, with the place -/
def TC (σ : Sg) (t : Nat → Int32) (len a : Nat) : Prop := σ 15 1 = nI len ∧ σ 15 2 = nI a ∧ ∀ i, i < len → σ 16 i = t i
theorem c_here {σ : Sg} {t : Nat → Int32} {len a : Nat} (h : TC σ t len a) (hl : len ≤ 30) (ha : a ≤ 40) : f_X0_here σ = some (σ, if a < len then t a else -4) := by
  obtain ⟨h1, h2, h3⟩ := h
  unfold f_X0_here
  rw [h1, h2]
  by_cases q : a < len
  · rw [if_neg (nI_ge q (by omega)), r_at (a := 16) (n := 30) σ (show a < 30 by omega) (by decide), b_some, if_pos q, h3 a q]
  · rw [if_pos (nI_le (by omega) (by omega)), if_neg q]
theorem TC_pl {σ : Sg} {t : Nat → Int32} {len a a' : Nat} (h : TC σ t len a) : TC (q_wr σ 15 2 (nI a')) t len a' := by
  obtain ⟨h1, h2, h3⟩ := h
  refine ⟨by rw [w_at, if_neg (by decide)]; exact h1, by rw [w_at, if_pos ⟨rfl, rfl⟩], fun i hi => by rw [w_at, if_neg (by omega)]; exact h3 i hi⟩
abbrev F15 (σ σ' : Sg) : Prop := ∀ o k, ¬ (o = 15 ∧ k = 2) → σ' o k = σ o k
theorem c_skipL {t : Nat → Int32} {len : Nat} (hl : len ≤ 30) : ∀ (d a q : Nat) (σ : Sg), len ≤ a + d → d < q → a ≤ 40 → TC σ t len a → ∃ σ', f_X0_skipBlanks_L0 q σ = some (σ', 0) ∧ TC σ' t len (z_sk t len d a) ∧ F15 σ σ' := by
  intro d
  induction d with
  | zero =>
    intro a q σ h1 h2 h3 h
    obtain ⟨q, rfl⟩ : ∃ p, q = p + 1 := ⟨q - 1, by omega⟩
    refine ⟨σ, ?_, h, fun _ _ _ => rfl⟩
    show s_X0_skipBlanks_L0 (f_X0_skipBlanks_L0 q) σ = _
    unfold s_X0_skipBlanks_L0
    rw [h.1, h.2.1, if_pos (nI_le (by omega) (by omega))]
  | succ d ih =>
    intro a q σ h1 h2 h3 h
    obtain ⟨q, rfl⟩ : ∃ p, q = p + 1 := ⟨q - 1, by omega⟩
    show ∃ σ', s_X0_skipBlanks_L0 (f_X0_skipBlanks_L0 q) σ = some (σ', 0) ∧ _
    unfold s_X0_skipBlanks_L0
    by_cases q1 : a < len
    · rw [c_here h hl h3, h.1, h.2.1, if_neg (nI_ge q1 (by omega)), b_some, if_pos q1]
      by_cases q2 : t a = 32
      · rw [if_pos q2, ls_eq, h.2.1, nI_1]
        obtain ⟨σ', g1, g2, g3⟩ := ih (a + 1) q (q_wr σ 15 2 (nI (a + 1))) (by omega) (by omega) (by omega) (TC_pl h)
        refine ⟨σ', g1, ?_, fun o k ho => by rw [g3 o k ho, w_at, if_neg ho]⟩
        simp only [z_sk, if_pos (show a < len ∧ t a = 32 from ⟨q1, q2⟩)]
        exact g2
      · rw [if_neg q2]
        refine ⟨σ, rfl, ?_, fun _ _ _ => rfl⟩
        simp only [z_sk, if_neg (show ¬ (a < len ∧ t a = 32) from fun z => q2 z.2)]
        exact h
    · rw [h.1, h.2.1, if_pos (nI_le (by omega) (by omega))]
      refine ⟨σ, rfl, ?_, fun _ _ _ => rfl⟩
      simp only [z_sk, if_neg (show ¬ (a < len ∧ t a = 32) from fun z => q1 z.1)]
      exact h
theorem c_skip {σ : Sg} {t : Nat → Int32} {len a : Nat} (hl : len ≤ 30) (ha : a ≤ 40) (h : TC σ t len a) : ∃ σ', f_X0_skipBlanks σ = some (σ', 0) ∧ TC σ' t len (z_s t len a) ∧ F15 σ σ' := c_skipL hl 31 a 1000 σ (by omega) (by omega) ha h
theorem c_atEnd {σ : Sg} {t : Nat → Int32} {len a : Nat} (hl : len ≤ 30) (ha : a ≤ 40) (h : TC σ t len a) : ∃ σ', f_X0_atEnd σ = some (σ', if len ≤ z_s t len a then 1 else 0) ∧ TC σ' t len (z_s t len a) ∧ F15 σ σ' := by
  obtain ⟨σ', g1, g2, g3⟩ := c_skip hl ha h
  refine ⟨σ', ?_, g2, g3⟩
  have hb := z_sb t len a
  unfold f_X0_atEnd
  rw [g1, b_some, g2.1, g2.2.1]
  by_cases q : len ≤ z_s t len a
  · rw [if_pos q, if_neg (nI_nlt q (by omega))]
  · rw [if_neg q, if_pos (nI_lt (by omega) (by omega))]
/-- a byte of the tape as a number -/
theorem z_tape {t : Nat → Int32} {len : Nat} (ht : ∀ i, i < len → 32 ≤ t i ∧ t i ≤ 126) {a : Nat} (ha : a < len) : ∃ c, 32 ≤ c ∧ c ≤ 126 ∧ t a = nI c := by
  obtain ⟨h1, h2⟩ := ht a ha
  rw [z_le] at h1 h2
  have e1 : (32 : Int32).toInt = 32 := rfl
  have e2 : (126 : Int32).toInt = 126 := rfl
  rcases z_idx (t a) (n := 127) (by decide) with h | h | ⟨c, hc, e⟩
  · rw [z_lt] at h; have e : (0 : Int32).toInt = 0 := rfl; omega
  · rw [z_le, z_nI (by decide)] at h; omega
  · refine ⟨c, ?_, by omega, e⟩
    rw [e, z_nI (by omega)] at h1
    omega
theorem c_numL {t : Nat → Int32} {len : Nat} (hl : len ≤ 30) (ht : ∀ i, i < len → 32 ≤ t i ∧ t i ≤ 126) {s0 : Nat} : ∀ (d a v q : Nat) (σ : Sg), len ≤ a + d → d < q → a ≤ 40 → v ≤ 100 → TC σ t len a →
    ∃ σ', f_X0_readNumber_L7 q σ (nI s0) (nI v) = f_X0_readNumber_J63 σ' (nI s0) (nI (z_dg t len d a v).2) ∧ TC σ' t len (z_dg t len d a v).1 ∧ F15 σ σ' := by
  intro d
  induction d with
  | zero =>
    intro a v q σ h1 h2 h3 h4 h
    obtain ⟨q, rfl⟩ : ∃ p, q = p + 1 := ⟨q - 1, by omega⟩
    refine ⟨σ, ?_, h, fun _ _ _ => rfl⟩
    show s_X0_readNumber_L7 (f_X0_readNumber_L7 q) σ (nI s0) (nI v) = _
    unfold s_X0_readNumber_L7
    rw [h.1, h.2.1, if_pos (nI_le (by omega) (by omega))]
    rfl
  | succ d ih =>
    intro a v q σ h1 h2 h3 h4 h
    obtain ⟨q, rfl⟩ : ∃ p, q = p + 1 := ⟨q - 1, by omega⟩
    show ∃ σ', s_X0_readNumber_L7 (f_X0_readNumber_L7 q) σ (nI s0) (nI v) = _ ∧ _
    unfold s_X0_readNumber_L7
    by_cases q1 : a < len
    · rw [c_here h hl h3, h.1, h.2.1, if_neg (nI_ge q1 (by omega)), b_some, if_pos q1, r_within, b_some]
      by_cases q2 : 48 ≤ t a ∧ t a ≤ 57
      · rw [if_pos q2, if_neg (by decide), c_here h hl h3, b_some, if_pos q1]
        obtain ⟨c, hc1, hc2, hc⟩ := z_tape ht q1
        have hc3 : 48 ≤ c ∧ c ≤ 57 := by
          rw [hc] at q2
          have := (nI_leI (a := 48) (b := c) (by omega) (by omega)).mp q2.1
          have := (nI_leI (a := c) (b := 57) (by omega) (by omega)).mp q2.2
          omega
        have e1 : ((nI v * (10 : Int32)) + t a) - (48 : Int32) = nI (v * 10 + c - 48) := by
          rw [hc, show nI v * (10 : Int32) = nI (v * 10) from (Int32.ofNat_mul v 10).symm, nI_add]
          apply Int32.toInt_inj.mp
          have e48 : (48 : Int32).toInt = 48 := rfl
          rw [z_sub (by rw [z_nI (by omega), e48]; omega), z_nI (by omega), z_nI (by omega), e48]
          omega
        have e2 : (if nI (v * 10 + c - 48) < (100 : Int32) then nI (v * 10 + c - 48) else (100 : Int32)) = nI (min 100 (v * 10 + c - 48)) := by
          by_cases z : v * 10 + c - 48 < 100
          · rw [if_pos (show nI (v * 10 + c - 48) < 100 from nI_lt (b := 100) z (by omega)), Nat.min_eq_right (by omega)]
          · rw [if_neg (show ¬ nI (v * 10 + c - 48) < 100 from nI_nlt (b := 100) (by omega) (by omega)), Nat.min_eq_left (by omega)]; rfl
        rw [e1, e2, l_eq, ls_eq, h.2.1, nI_1]
        obtain ⟨σ', g1, g2, g3⟩ := ih (a + 1) (min 100 (v * 10 + c - 48)) q (q_wr σ 15 2 (nI (a + 1))) (by omega) (by omega) (by omega) (by omega) (TC_pl h)
        have e3 : z_dg t len (d + 1) a v = z_dg t len d (a + 1) (min 100 (v * 10 + c - 48)) := by
          show (if a < len ∧ 48 ≤ t a ∧ t a ≤ 57 then z_dg t len d (a + 1) (min 100 (v * 10 + (t a).toNatClampNeg - 48)) else (a, v)) = _
          rw [if_pos ⟨q1, q2⟩, hc, z_cl (show c < 2147483648 by omega)]
        rw [e3]
        exact ⟨σ', g1, g2, fun o k ho => by rw [g3 o k ho, w_at, if_neg ho]⟩
      · rw [if_neg q2, if_pos rfl]
        have e3 : z_dg t len (d + 1) a v = (a, v) := by
          simp only [z_dg, if_neg (show ¬ (a < len ∧ 48 ≤ t a ∧ t a ≤ 57) from fun z => q2 z.2)]
        rw [e3]
        exact ⟨σ, rfl, h, fun _ _ _ => rfl⟩
    · rw [h.1, h.2.1, if_pos (nI_le (by omega) (by omega))]
      have e3 : z_dg t len (d + 1) a v = (a, v) := by
        simp only [z_dg, if_neg (show ¬ (a < len ∧ 48 ≤ t a ∧ t a ≤ 57) from fun z => q1 z.1)]
      rw [e3]
      exact ⟨σ, rfl, h, fun _ _ _ => rfl⟩
theorem c_num {σ : Sg} {t : Nat → Int32} {len a : Nat} (hl : len ≤ 30) (ht : ∀ i, i < len → 32 ≤ t i ∧ t i ≤ 126) (ha : a ≤ 40) (h : TC σ t len a) :
    ∃ σ', f_X0_readNumber σ = some (σ', if (z_dg t len 31 a 0).1 = a ∨ 99 < (z_dg t len 31 a 0).2 then -4 else nI (z_dg t len 31 a 0).2) ∧ TC σ' t len (if (z_dg t len 31 a 0).1 = a ∨ 99 < (z_dg t len 31 a 0).2 then a else (z_dg t len 31 a 0).1) ∧ F15 σ σ' := by
  obtain ⟨σ', g1, g2, g3⟩ := c_numL (s0 := a) hl ht 31 a 0 1000 σ (by omega) (by omega) ha (by omega) h
  obtain ⟨b1, b2, b3⟩ := z_dg_ge t len 31 a 0
  have e : f_X0_readNumber σ = f_X0_readNumber_J63 σ' (nI a) (nI (z_dg t len 31 a 0).2) := by
    rw [← g1]
    unfold f_X0_readNumber
    rw [l_eq, h.2.1]
    rfl
  rw [e]
  unfold f_X0_readNumber_J63
  rw [g2.2.1]
  by_cases q1 : (z_dg t len 31 a 0).1 = a
  · rw [if_pos (by rw [q1]), if_pos (Or.inl q1), if_pos (Or.inl q1)]
    refine ⟨σ', rfl, ?_, g3⟩
    rw [q1] at g2
    exact g2
  · rw [if_neg (by rw [nI_eq (by omega) (by omega)]; exact q1)]
    by_cases q2 : 99 < (z_dg t len 31 a 0).2
    · rw [if_neg (show ¬ nI (z_dg t len 31 a 0).2 ≤ 99 from nI_ge (a := 99) q2 (by omega)), if_pos (Or.inr q2), if_pos (Or.inr q2), ls_eq]
      refine ⟨_, rfl, TC_pl g2, fun o k ho => by rw [w_at, if_neg ho]; exact g3 o k ho⟩
    · rw [if_pos (show nI (z_dg t len 31 a 0).2 ≤ 99 from nI_le (b := 99) (by omega) (by omega)), if_neg (fun z => z.elim q1 q2), if_neg (fun z => z.elim q1 q2)]
      exact ⟨σ', rfl, g2, g3⟩
/-- the class's draft -/
def DC (σ : Sg) (dl : Lw) : Prop := ∀ k, k < 2 → match dl k with
  | none => σ 20 k = -4
  | some (v, b) => σ 19 k = nI v ∧ σ 20 k = z_let b
theorem DC_f {σ σ' : Sg} {dl : Lw} (h1 : ∀ k, σ' 19 k = σ 19 k) (h2 : ∀ k, σ' 20 k = σ 20 k) (h : DC σ dl) : DC σ' dl := by
  intro k hk
  have := h k hk
  rw [h1, h2]
  exact this
theorem DC_ap {σ : Sg} {dl : Lw} (h : DC σ dl) {k : Nat} (hk : k < 2) (v : Nat) (b : Bool) : DC (q_wr (q_wr σ 19 k (nI v)) 20 k (z_let b)) (z_ap dl (some (k, v, b))) := by
  intro i hi
  have := h i hi
  by_cases hik : i = k
  · subst hik
    simp only [z_ap, if_true]
    refine ⟨by rw [w_at, if_neg (by omega), w_at, if_pos ⟨rfl, rfl⟩], by rw [w_at, if_pos ⟨rfl, rfl⟩]⟩
  · simp only [z_ap, if_neg hik]
    rw [w_at, if_neg (by omega), w_at, if_neg (by omega), w_at, if_neg (by omega), w_at, if_neg (by omega)]
    exact this
abbrev F15d (σ σ' : Sg) : Prop := ∀ o k, ¬ (o = 15 ∧ k = 2) → o ≠ 19 → o ≠ 20 → σ' o k = σ o k
theorem TC_d {σ : Sg} {t : Nat → Int32} {len a : Nat} (h : TC σ t len a) (k v k' v' : _) : TC (q_wr (q_wr σ 19 k v) 20 k' v') t len a := by
  obtain ⟨h1, h2, h3⟩ := h
  refine ⟨by rw [w_at, if_neg (by omega), w_at, if_neg (by omega)]; exact h1, by rw [w_at, if_neg (by omega), w_at, if_neg (by omega)]; exact h2, fun i hi => by rw [w_at, if_neg (by omega), w_at, if_neg (by omega)]; exact h3 i hi⟩
theorem c_clause {σ : Sg} {t : Nat → Int32} {len a : Nat} {dl : Lw} (hl : len ≤ 30) (ht : ∀ i, i < len → 32 ≤ t i ∧ t i ≤ 126) (ha : a ≤ 31) (h : TC σ t len a) (hd : DC σ dl) :
    ∃ σ', f_X0_readClause σ = some (σ', if (z_cla t len a).2 = none then 0 else 1) ∧ TC σ' t len (z_cla t len a).1 ∧ DC σ' (z_ap dl (z_cla t len a).2) ∧ F15d σ σ' := by
  obtain ⟨σ1, g1, g2, g3⟩ := c_skip hl (by omega) h
  have d1 : DC σ1 dl := DC_f (fun k => g3 19 k (by omega)) (fun k => g3 20 k (by omega)) hd
  have fd1 : F15d σ σ1 := fun o k h1 _ _ => g3 o k h1
  have ba := z_sb t len a
  have bb := z_sb t len (z_s t len a + 1)
  have bc := z_dg_ge t len 31 (z_s t len (z_s t len a + 1)) 0
  have bd := z_sb t len (z_dg t len 31 (z_s t len (z_s t len a + 1)) 0).1
  unfold f_X0_readClause
  rw [g1, b_some, c_here g2 hl (by omega), b_some]
  by_cases q1 : z_s t len a < len ∧ (t (z_s t len a) = 112 ∨ t (z_s t len a) = 114)
  · rw [if_pos q1.1]
    have J : ∃ σ', f_X0_readClause_J23 σ1 (t (z_s t len a)) = some (σ', if (z_cla t len a).2 = none then 0 else 1) ∧ TC σ' t len (z_cla t len a).1 ∧ DC σ' (z_ap dl (z_cla t len a).2) ∧ F15d σ σ' := by
      unfold f_X0_readClause_J23
      rw [ls_eq, g2.2.1, nI_1]
      obtain ⟨σ2, e1, e2, e3⟩ := c_skip hl (a := z_s t len a + 1) (by omega) (TC_pl (a' := z_s t len a + 1) g2)
      rw [e1, b_some]
      obtain ⟨σ3, n1, n2, n3⟩ := c_num hl ht (a := z_s t len (z_s t len a + 1)) (by omega) e2
      rw [n1, b_some]
      have f3 : F15 σ σ3 := fun o k ho => by rw [n3 o k ho, e3 o k ho, w_at, if_neg ho, g3 o k ho]
      have d3 : DC σ3 dl := DC_f (fun k => f3 19 k (by omega)) (fun k => f3 20 k (by omega)) hd
      by_cases q2 : (z_dg t len 31 (z_s t len (z_s t len a + 1)) 0).1 = z_s t len (z_s t len a + 1) ∨ 99 < (z_dg t len 31 (z_s t len (z_s t len a + 1)) 0).2
      · rw [if_pos q2, if_pos rfl]
        rw [if_pos q2] at n2
        have e : z_cla t len a = (z_s t len (z_s t len a + 1), none) := by unfold z_cla; rw [if_pos q1, if_pos q2]
        rw [e]
        exact ⟨σ3, rfl, n2, d3, fun o k h1 _ _ => f3 o k h1⟩
      · rw [if_neg q2] at n2
        have hv : (z_dg t len 31 (z_s t len (z_s t len a + 1)) 0).2 ≤ 99 := by
          by_cases z : 99 < (z_dg t len 31 (z_s t len (z_s t len a + 1)) 0).2
          · exact absurd (Or.inr z) q2
          · omega
        rw [if_neg q2, if_neg ((by decide : ∀ k, k < 100 → ¬ nI k = -4) _ (by omega))]
        obtain ⟨σ4, s1, s2, s3⟩ := c_skip hl (a := (z_dg t len 31 (z_s t len (z_s t len a + 1)) 0).1) (by omega) n2
        have f4 : F15 σ σ4 := fun o k ho => by rw [s3 o k ho, f3 o k ho]
        have d4 : DC σ4 dl := DC_f (fun k => f4 19 k (by omega)) (fun k => f4 20 k (by omega)) hd
        have hb4 : z_s t len (z_dg t len 31 (z_s t len (z_s t len a + 1)) 0).1 ≤ 40 := by omega
        rw [s1, b_some, c_here s2 hl hb4, b_some]
        by_cases q3 : z_s t len (z_dg t len 31 (z_s t len (z_s t len a + 1)) 0).1 < len ∧ (t (z_s t len (z_dg t len 31 (z_s t len (z_s t len a + 1)) 0).1) = 82 ∨ t (z_s t len (z_dg t len 31 (z_s t len (z_s t len a + 1)) 0).1) = 78)
        · rw [if_pos q3.1]
          have e : z_cla t len a = (z_s t len (z_dg t len 31 (z_s t len (z_s t len a + 1)) 0).1 + 1, some (if t (z_s t len a) = 112 then 0 else 1, (z_dg t len 31 (z_s t len (z_s t len a + 1)) 0).2, decide (t (z_s t len (z_dg t len 31 (z_s t len (z_s t len a + 1)) 0).1) = 82))) := by unfold z_cla; rw [if_pos q1, if_neg q2, if_pos q3]
          have J73 : f_X0_readClause_J73 σ4 (t (z_s t len a)) (nI (z_dg t len 31 (z_s t len (z_s t len a + 1)) 0).2) (t (z_s t len (z_dg t len 31 (z_s t len (z_s t len a + 1)) 0).1)) = some (q_wr (q_wr (q_wr σ4 15 2 (nI (z_s t len (z_dg t len 31 (z_s t len (z_s t len a + 1)) 0).1 + 1))) 19 (if t (z_s t len a) = 112 then 0 else 1) (nI (z_dg t len 31 (z_s t len (z_s t len a + 1)) 0).2)) 20 (if t (z_s t len a) = 112 then 0 else 1) (t (z_s t len (z_dg t len 31 (z_s t len (z_s t len a + 1)) 0).1)), 1) := by
            unfold f_X0_readClause_J73
            rw [ls_eq, s2.2.1, nI_1]
            by_cases q5 : t (z_s t len a) = 112
            · rw [if_pos q5, if_pos q5, q5]
              unfold f_X0_readClause_J98
              rw [show (0 : Int32) = nI 0 from rfl, r_set (a := 19) (n := 2) _ _ (by decide) (by decide), b_some, if_pos rfl, r_set (a := 20) (n := 2) _ _ (by decide) (by decide), b_some]
            · rw [if_neg q5, if_neg q5]
              unfold f_X0_readClause_J98
              rw [show (1 : Int32) = nI 1 from rfl, r_set (a := 19) (n := 2) _ _ (by decide) (by decide), b_some, if_neg q5, r_set (a := 20) (n := 2) _ _ (by decide) (by decide), b_some]
          have hlet : t (z_s t len (z_dg t len 31 (z_s t len (z_s t len a + 1)) 0).1) = z_let (decide (t (z_s t len (z_dg t len 31 (z_s t len (z_s t len a + 1)) 0).1) = 82)) := by
            by_cases q4 : t (z_s t len (z_dg t len 31 (z_s t len (z_s t len a + 1)) 0).1) = 82
            · rw [q4]; rfl
            · rcases q3.2 with z | z
              · exact absurd z q4
              · rw [z]; rfl
          have go : ∃ σ', f_X0_readClause_J73 σ4 (t (z_s t len a)) (nI (z_dg t len 31 (z_s t len (z_s t len a + 1)) 0).2) (t (z_s t len (z_dg t len 31 (z_s t len (z_s t len a + 1)) 0).1)) = some (σ', if (z_cla t len a).2 = none then 0 else 1) ∧ TC σ' t len (z_cla t len a).1 ∧ DC σ' (z_ap dl (z_cla t len a).2) ∧ F15d σ σ' := by
            rw [e]
            refine ⟨_, J73, TC_d (TC_pl s2) _ _ _ _, ?_, fun o k h1 h2 h3 => ?_⟩
            · have dd : DC (q_wr σ4 15 2 (nI (z_s t len (z_dg t len 31 (z_s t len (z_s t len a + 1)) 0).1 + 1))) dl := DC_f (fun k => by rw [w_at, if_neg (by omega)]) (fun k => by rw [w_at, if_neg (by omega)]) d4
              have hk2 : (if t (z_s t len a) = 112 then 0 else 1) < 2 := by split <;> omega
              have := DC_ap dd hk2 (z_dg t len 31 (z_s t len (z_s t len a + 1)) 0).2 (decide (t (z_s t len (z_dg t len 31 (z_s t len (z_s t len a + 1)) 0).1) = 82))
              rw [← hlet] at this
              exact this
            · rw [w_at, if_neg (fun z => h3 z.1), w_at, if_neg (fun z => h2 z.1), w_at, if_neg h1]
              exact f4 o k h1
          by_cases q4 : t (z_s t len (z_dg t len 31 (z_s t len (z_s t len a + 1)) 0).1) = 82
          · rw [if_pos q4]
            exact go
          · rcases q3.2 with z | z
            · exact absurd z q4
            · rw [if_neg q4, if_pos z]
              exact go
        · have e : z_cla t len a = (z_s t len (z_dg t len 31 (z_s t len (z_s t len a + 1)) 0).1, none) := by unfold z_cla; rw [if_pos q1, if_neg q2, if_neg q3]
          have n82 : ¬ (if z_s t len (z_dg t len 31 (z_s t len (z_s t len a + 1)) 0).1 < len then t (z_s t len (z_dg t len 31 (z_s t len (z_s t len a + 1)) 0).1) else -4) = 82 := by
            intro z
            by_cases y : z_s t len (z_dg t len 31 (z_s t len (z_s t len a + 1)) 0).1 < len
            · rw [if_pos y] at z; exact q3 ⟨y, Or.inl z⟩
            · rw [if_neg y] at z; revert z; decide
          have n78 : ¬ (if z_s t len (z_dg t len 31 (z_s t len (z_s t len a + 1)) 0).1 < len then t (z_s t len (z_dg t len 31 (z_s t len (z_s t len a + 1)) 0).1) else -4) = 78 := by
            intro z
            by_cases y : z_s t len (z_dg t len 31 (z_s t len (z_s t len a + 1)) 0).1 < len
            · rw [if_pos y] at z; exact q3 ⟨y, Or.inr z⟩
            · rw [if_neg y] at z; revert z; decide
          rw [if_neg n82, if_neg n78, e]
          exact ⟨σ4, rfl, s2, d4, fun o k h1 _ _ => f4 o k h1⟩
    by_cases q5 : t (z_s t len a) = 112
    · rw [if_pos q5]
      exact J
    · rcases q1.2 with z | z
      · exact absurd z q5
      · rw [if_neg q5, if_pos z]
        exact J
  · have e : z_cla t len a = (z_s t len a, none) := by unfold z_cla; rw [if_neg q1]
    have n1 : ¬ (if z_s t len a < len then t (z_s t len a) else -4) = 112 := by
      intro z
      by_cases y : z_s t len a < len
      · rw [if_pos y] at z; exact q1 ⟨y, Or.inl z⟩
      · rw [if_neg y] at z; revert z; decide
    have n2 : ¬ (if z_s t len a < len then t (z_s t len a) else -4) = 114 := by
      intro z
      by_cases y : z_s t len a < len
      · rw [if_pos y] at z; exact q1 ⟨y, Or.inr z⟩
      · rw [if_neg y] at z; revert z; decide
    rw [if_neg n1, if_neg n2, e]
    exact ⟨σ1, rfl, g2, d1, fd1⟩
end
section
theorem z_cla_b (t : Nat → Int32) (len a : Nat) : (z_cla t len a).1 ≤ max a len := by
  have ba := z_sb t len a
  have bb := z_sb t len (z_s t len a + 1)
  have bc := z_dg_ge t len 31 (z_s t len (z_s t len a + 1)) 0
  have bd := z_sb t len (z_dg t len 31 (z_s t len (z_s t len a + 1)) 0).1
  unfold z_cla
  by_cases q1 : z_s t len a < len ∧ (t (z_s t len a) = 112 ∨ t (z_s t len a) = 114)
  · rw [if_pos q1]
    split
    · show z_s t len (z_s t len a + 1) ≤ _; omega
    · split
      · rename_i h
        show z_s t len (z_dg t len 31 (z_s t len (z_s t len a + 1)) 0).1 + 1 ≤ _
        omega
      · show z_s t len (z_dg t len 31 (z_s t len (z_s t len a + 1)) 0).1 ≤ _
        omega
  · rw [if_neg q1]
    show z_s t len a ≤ _
    omega
def z_no : Lw := fun _ => none
def z_rd (t : Nat → Int32) (len : Nat) : Int32 × Lw :=
  if len ≤ z_s t len 0 then (0, z_no)
  else if (z_cla t len (z_s t len 0)).2 = none then (-20 - nI (z_cla t len (z_s t len 0)).1, z_no)
  else if len ≤ z_s t len (z_cla t len (z_s t len 0)).1 then (1, z_ap z_no (z_cla t len (z_s t len 0)).2)
  else if t (z_s t len (z_cla t len (z_s t len 0)).1) = 59 then
    (if (z_cla t len (z_s t len (z_cla t len (z_s t len 0)).1 + 1)).2 = none then (-20 - nI (z_cla t len (z_s t len (z_cla t len (z_s t len 0)).1 + 1)).1, z_no)
    else if len ≤ z_s t len (z_cla t len (z_s t len (z_cla t len (z_s t len 0)).1 + 1)).1 then (2, z_ap (z_ap z_no (z_cla t len (z_s t len 0)).2) (z_cla t len (z_s t len (z_cla t len (z_s t len 0)).1 + 1)).2)
    else (-20 - nI (z_s t len (z_cla t len (z_s t len (z_cla t len (z_s t len 0)).1 + 1)).1), z_no))
  else (-20 - nI (z_s t len (z_cla t len (z_s t len 0)).1), z_no)
theorem z_flt : ∀ k, k < 64 → (-20 - nI k : Int32) < 0 ∧ ¬ 0 ≤ (-20 - nI k : Int32) := by decide
theorem c_read {σ : Sg} {t : Nat → Int32} {len : Nat} (hl : len ≤ 30) (ht : ∀ i, i < len → 32 ≤ t i ∧ t i ≤ 126) (h : TC σ t len 0) (hd : DC σ z_no) :
    ∃ σ', f_X0_read σ = some (σ', (z_rd t len).1) ∧ (0 ≤ (z_rd t len).1 → DC σ' (z_rd t len).2) ∧ F15d σ σ' := by
  have b0 := z_sb t len 0
  have b1 := z_cla_b t len (z_s t len 0)
  have b2 := z_sb t len (z_cla t len (z_s t len 0)).1
  have b3 := z_cla_b t len (z_s t len (z_cla t len (z_s t len 0)).1 + 1)
  have b4 := z_sb t len (z_cla t len (z_s t len (z_cla t len (z_s t len 0)).1 + 1)).1
  obtain ⟨σ1, e1, e2, e3⟩ := c_atEnd hl (by omega) h
  unfold f_X0_read
  rw [e1, b_some]
  by_cases q1 : len ≤ z_s t len 0
  · rw [if_pos q1, if_neg (by decide)]
    have e : z_rd t len = (0, z_no) := by unfold z_rd; rw [if_pos q1]
    rw [e]
    exact ⟨σ1, rfl, fun _ => DC_f (fun k => e3 19 k (by omega)) (fun k => e3 20 k (by omega)) hd, fun o k h1 _ _ => e3 o k h1⟩
  · rw [if_neg q1, if_pos rfl]
    obtain ⟨σ2, g1, g2, g3, g4⟩ := c_clause hl ht (a := z_s t len 0) (by omega) e2 (DC_f (fun k => e3 19 k (by omega)) (fun k => e3 20 k (by omega)) hd)
    have f2 : F15d σ σ2 := fun o k h1 h2 h3 => (g4 o k h1 h2 h3).trans (e3 o k h1)
    rw [g1, b_some]
    by_cases q2 : (z_cla t len (z_s t len 0)).2 = none
    · rw [if_pos q2, if_pos rfl, g2.2.1]
      have e : z_rd t len = (-20 - nI (z_cla t len (z_s t len 0)).1, z_no) := by unfold z_rd; rw [if_neg q1, if_pos q2]
      rw [e]
      exact ⟨σ2, rfl, fun z => absurd z (z_flt _ (by omega)).2, f2⟩
    · rw [if_neg q2, if_neg (by decide)]
      obtain ⟨σ3, a1, a2, a3⟩ := c_atEnd hl (a := (z_cla t len (z_s t len 0)).1) (by omega) g2
      have f3 : F15d σ σ3 := fun o k h1 h2 h3 => (a3 o k h1).trans (f2 o k h1 h2 h3)
      have d3 : DC σ3 (z_ap z_no (z_cla t len (z_s t len 0)).2) := DC_f (fun k => a3 19 k (by omega)) (fun k => a3 20 k (by omega)) g3
      rw [a1, b_some]
      by_cases q3 : len ≤ z_s t len (z_cla t len (z_s t len 0)).1
      · rw [if_pos q3, if_neg (by decide)]
        have e : z_rd t len = (1, z_ap z_no (z_cla t len (z_s t len 0)).2) := by unfold z_rd; rw [if_neg q1, if_neg q2, if_pos q3]
        rw [e]
        exact ⟨σ3, rfl, fun _ => d3, f3⟩
      · rw [if_neg q3, if_pos rfl, c_here a2 hl (by omega), b_some, if_pos (show z_s t len (z_cla t len (z_s t len 0)).1 < len by omega)]
        by_cases q4 : t (z_s t len (z_cla t len (z_s t len 0)).1) = 59
        · rw [if_pos q4, ls_eq, a2.2.1, nI_1]
          have dq : DC (q_wr σ3 15 2 (nI (z_s t len (z_cla t len (z_s t len 0)).1 + 1))) (z_ap z_no (z_cla t len (z_s t len 0)).2) := DC_f (fun k => by rw [w_at, if_neg (by omega)]) (fun k => by rw [w_at, if_neg (by omega)]) d3
          obtain ⟨σ4, k1, k2, k3, k4⟩ := c_clause hl ht (a := z_s t len (z_cla t len (z_s t len 0)).1 + 1) (by omega) (TC_pl a2) dq
          have f4 : F15d σ σ4 := fun o k h1 h2 h3 => by rw [k4 o k h1 h2 h3, w_at, if_neg h1]; exact f3 o k h1 h2 h3
          rw [k1, b_some]
          by_cases q5 : (z_cla t len (z_s t len (z_cla t len (z_s t len 0)).1 + 1)).2 = none
          · rw [if_pos q5, if_pos rfl, k2.2.1]
            have e : z_rd t len = (-20 - nI (z_cla t len (z_s t len (z_cla t len (z_s t len 0)).1 + 1)).1, z_no) := by unfold z_rd; rw [if_neg q1, if_neg q2, if_neg q3, if_pos q4, if_pos q5]
            rw [e]
            exact ⟨σ4, rfl, fun z => absurd z (z_flt _ (by omega)).2, f4⟩
          · rw [if_neg q5, if_neg (by decide)]
            obtain ⟨σ5, m1, m2, m3⟩ := c_atEnd hl (a := (z_cla t len (z_s t len (z_cla t len (z_s t len 0)).1 + 1)).1) (by omega) k2
            have f5 : F15d σ σ5 := fun o k h1 h2 h3 => (m3 o k h1).trans (f4 o k h1 h2 h3)
            rw [m1, b_some]
            by_cases q6 : len ≤ z_s t len (z_cla t len (z_s t len (z_cla t len (z_s t len 0)).1 + 1)).1
            · rw [if_pos q6, if_neg (by decide)]
              have e : z_rd t len = (2, z_ap (z_ap z_no (z_cla t len (z_s t len 0)).2) (z_cla t len (z_s t len (z_cla t len (z_s t len 0)).1 + 1)).2) := by unfold z_rd; rw [if_neg q1, if_neg q2, if_neg q3, if_pos q4, if_neg q5, if_pos q6]
              rw [e]
              exact ⟨σ5, rfl, fun _ => DC_f (fun k => m3 19 k (by omega)) (fun k => m3 20 k (by omega)) k3, f5⟩
            · rw [if_neg q6, if_pos rfl, m2.2.1]
              have e : z_rd t len = (-20 - nI (z_s t len (z_cla t len (z_s t len (z_cla t len (z_s t len 0)).1 + 1)).1), z_no) := by unfold z_rd; rw [if_neg q1, if_neg q2, if_neg q3, if_pos q4, if_neg q5, if_neg q6]
              rw [e]
              exact ⟨σ5, rfl, fun z => absurd z (z_flt _ (by omega)).2, f5⟩
        · rw [if_neg q4, a2.2.1]
          have e : z_rd t len = (-20 - nI (z_s t len (z_cla t len (z_s t len 0)).1), z_no) := by unfold z_rd; rw [if_neg q1, if_neg q2, if_neg q3, if_neg q4]
          rw [e]
          exact ⟨σ3, rfl, fun z => absurd z (z_flt _ (by omega)).2, f3⟩
theorem c_adopt (σ : Sg) : ∃ σ', f_X0_adoptDraft σ = some (σ', 0) ∧ (∀ k, k < 2 → σ' 17 k = σ 19 k ∧ σ' 18 k = σ 20 k) ∧ ∀ o, o ≠ 17 → o ≠ 18 → σ' o = σ o := by
  have s1 : ∀ (τ : Sg) (rec : Sg → Int32 → Rs) (k : Nat), k < 2 → s_X0_adoptDraft_L2 rec τ (nI k) = rec (q_wr (q_wr τ 17 k (τ 19 k)) 18 k (τ 20 k)) (nI (k + 1)) := by
    intro τ rec k hk
    unfold s_X0_adoptDraft_L2
    rw [if_neg (show ¬ (2 : Int32) ≤ nI k from nI_ge (b := 2) hk (by omega)), r_at (a := 19) (n := 2) τ hk (by decide), b_some, r_set (a := 17) (n := 2) τ _ hk (by decide), b_some, r_at (a := 20) (n := 2) _ hk (by decide), b_some, r_set (a := 18) (n := 2) _ _ hk (by decide), b_some, l_eq, nI_1, w_ne _ _ _ (by decide)]
  refine ⟨q_wr (q_wr (q_wr (q_wr σ 17 0 (σ 19 0)) 18 0 (σ 20 0)) 17 1 (σ 19 1)) 18 1 (σ 20 1), ?_, ?_, ?_⟩
  · show f_X0_adoptDraft_L2 (997 + 3) σ (nI 0) = _
    show s_X0_adoptDraft_L2 (f_X0_adoptDraft_L2 (997 + 2)) σ (nI 0) = _
    rw [s1 σ _ 0 (by decide)]
    show s_X0_adoptDraft_L2 (f_X0_adoptDraft_L2 (997 + 1)) _ (nI 1) = _
    rw [s1 _ _ 1 (by decide)]
    show s_X0_adoptDraft_L2 (f_X0_adoptDraft_L2 997) _ (nI 2) = _
    unfold s_X0_adoptDraft_L2
    rw [if_pos (by decide)]
    rfl
  · intro k hk
    have : k = 0 ∨ k = 1 := by omega
    rcases this with rfl | rfl
    · exact ⟨rfl, rfl⟩
    · exact ⟨rfl, rfl⟩
  · intro o h1 h2
    rw [w_ne _ _ _ h2, w_ne _ _ _ h1, w_ne _ _ _ h2, w_ne _ _ _ h1]
/-- what the laws are behind a reading -/
def z_new (t : Nat → Int32) (len : Nat) (lw : Lw) : Lw := if (z_rd t len).1 < 0 then lw else (z_rd t len).2
theorem c_take {σ : Sg} {t : Nat → Int32} {len : Nat} {lw : Lw} (hl : len ≤ 30) (ht : ∀ i, i < len → 32 ≤ t i ∧ t i ≤ 126) (h : RLc σ t len lw) :
    ∃ σ', f_X5_laws σ = some (σ', (z_rd t len).1) ∧ RLc σ' t 0 (z_new t len lw) ∧ ∀ o, ¬ (15 ≤ o ∧ o ≤ 20) → σ' o = σ o := by
  obtain ⟨h1, h2, h3⟩ := h
  obtain ⟨σ1, f1, f2, f3⟩ := r_fill (a := 20) (n := 2) (by decide) (-4) (q_wr σ 15 2 0)
  have hT : TC σ1 t len 0 := ⟨by rw [f2 15 (by decide), w_at, if_neg (by decide)]; exact h1, by rw [f2 15 (by decide), w_at, if_pos ⟨rfl, rfl⟩]; rfl, fun i hi => by rw [f2 16 (by decide), w_at, if_neg (by omega)]; exact h2 i hi⟩
  have hD : DC σ1 z_no := fun k hk => by
    show σ1 20 k = -4
    rw [f3 k, if_pos hk]
  obtain ⟨σ2, g1, g2, g3⟩ := c_read hl ht hT hD
  have hf : ∀ o, ¬ (15 ≤ o ∧ o ≤ 20) → σ2 o = σ o := by
    intro o ho
    funext k
    rw [g3 o k (by omega) (by omega) (by omega), f2 o (by omega), w_at, if_neg (by omega)]
  have e17 : ∀ k, σ2 17 k = σ 17 k := fun k => by rw [g3 17 k (by omega) (by omega) (by omega), f2 17 (by omega), w_at, if_neg (by omega)]
  have e18 : ∀ k, σ2 18 k = σ 18 k := fun k => by rw [g3 18 k (by omega) (by omega) (by omega), f2 18 (by omega), w_at, if_neg (by omega)]
  have hE : f_X5_laws σ = q_bnd (if (z_rd t len).1 < 0 then some (q_wr σ2 15 1 0, (z_rd t len).1) else q_bnd (f_X0_adoptDraft σ2) fun s8 _ => some (q_wr s8 15 1 0, (z_rd t len).1)) fun s r => some (s, r) := by
    unfold f_X5_laws f_X0_takeTape
    rw [ls_eq, f1, b_some, g1, b_some]
    rfl
  rw [hE]
  by_cases q : (z_rd t len).1 < 0
  · rw [if_pos q, b_some]
    refine ⟨_, rfl, ⟨?_, fun i hi => absurd hi (Nat.not_lt_zero _), ?_⟩, fun o ho => by rw [w_ne _ _ _ (by omega)]; exact hf o ho⟩
    · rw [w_at, if_pos ⟨rfl, rfl⟩]; rfl
    · intro k hk
      have := h3 k hk
      unfold z_new
      rw [if_pos q, w_ne _ _ _ (by decide), w_ne _ _ _ (by decide), e17, e18]
      exact this
  · rw [if_neg q]
    obtain ⟨σ3, a1, a2, a3⟩ := c_adopt σ2
    rw [a1, b_some, b_some]
    have hge : 0 ≤ (z_rd t len).1 := by rw [z_le]; rw [z_lt] at q; omega
    refine ⟨_, rfl, ⟨?_, fun i hi => absurd hi (Nat.not_lt_zero _), ?_⟩, fun o ho => by rw [w_ne _ _ _ (by omega), a3 o (by omega) (by omega)]; exact hf o ho⟩
    · rw [w_at, if_pos ⟨rfl, rfl⟩]; rfl
    · intro k hk
      have := g2 hge k hk
      unfold z_new
      rw [if_neg q, w_ne _ _ _ (by decide), w_ne _ _ _ (by decide), (a2 k hk).1, (a2 k hk).2]
      exact this
end
section
/-! the game: positions. 0..3 hoops, 4 5 free turns, 6 side, 7 ball in play, 8 to go, 9 live, 10 must, 11 the ball of the turn that ended -/
abbrev Ps : Type := Nat → Int32
def vC (o : Nat) (σ : Sg) : Ps := fun i => if i < 4 then σ (o + 1) i else if i < 6 then σ (o + 2) (i - 4) else if i < 12 then σ o (i - 4) else 0
theorem vC_o {o k : Nat} (σ : Sg) (v : Int32) (h1 : 2 ≤ k) (h2 : k < 8) : vC o (q_wr σ o k v) = upd (vC o σ) (k + 4) v := by
  funext i
  simp only [vC, upd, w_at]
  by_cases a : i < 4
  · rw [if_pos a, if_neg (by omega), if_neg (by omega), if_pos a]
  · by_cases b : i < 6
    · rw [if_neg a, if_pos b, if_neg (by omega), if_neg (by omega), if_neg a, if_pos b]
    · by_cases c : i < 12
      · rw [if_neg a, if_neg b, if_pos c, if_neg a, if_neg b, if_pos c]
        by_cases d : i = k + 4
        · rw [if_pos ⟨trivial, by omega⟩, if_pos d]
        · rw [if_neg (by omega), if_neg d]
      · rw [if_neg a, if_neg b, if_neg c, if_neg (by omega), if_neg a, if_neg b, if_neg c]
theorem vC_1 {o k : Nat} (σ : Sg) (v : Int32) (h2 : k < 4) : vC o (q_wr σ (o + 1) k v) = upd (vC o σ) k v := by
  funext i
  simp only [vC, upd, w_at]
  by_cases a : i < 4
  · rw [if_pos a, if_pos a]
    by_cases d : i = k
    · rw [if_pos ⟨trivial, d⟩, if_pos d]
    · rw [if_neg (by omega), if_neg d]
  · by_cases b : i < 6
    · rw [if_neg a, if_pos b, if_neg (by omega), if_neg (by omega), if_neg a, if_pos b]
    · by_cases c : i < 12
      · rw [if_neg a, if_neg b, if_pos c, if_neg (by omega), if_neg (by omega), if_neg a, if_neg b, if_pos c]
      · rw [if_neg a, if_neg b, if_neg c, if_neg (by omega), if_neg a, if_neg b, if_neg c]
theorem vC_2 {o k : Nat} (σ : Sg) (v : Int32) (h2 : k < 2) : vC o (q_wr σ (o + 2) k v) = upd (vC o σ) (k + 4) v := by
  funext i
  simp only [vC, upd, w_at]
  by_cases a : i < 4
  · rw [if_pos a, if_neg (by omega), if_neg (by omega), if_pos a]
  · by_cases b : i < 6
    · rw [if_neg a, if_pos b, if_neg a, if_pos b]
      by_cases d : i = k + 4
      · rw [if_pos ⟨trivial, by omega⟩, if_pos d]
      · rw [if_neg (by omega), if_neg d]
    · by_cases c : i < 12
      · rw [if_neg a, if_neg b, if_pos c, if_neg (by omega), if_neg (by omega), if_neg a, if_neg b, if_pos c]
      · rw [if_neg a, if_neg b, if_neg c, if_neg (by omega), if_neg a, if_neg b, if_neg c]
theorem vC_c {o : Nat} {σ σ' : Sg} (h0 : σ' o = σ o) (h1 : σ' (o + 1) = σ (o + 1)) (h2 : σ' (o + 2) = σ (o + 2)) : vC o σ' = vC o σ := by
  unfold vC
  rw [h0, h1, h2]
theorem vC_h {o k : Nat} (σ : Sg) (h : k < 4) : vC o σ k = σ (o + 1) k := by simp [vC, h]
theorem vC_f0 (o : Nat) (σ : Sg) : vC o σ 4 = σ (o + 2) 0 ∧ vC o σ 5 = σ (o + 2) 1 ∧ vC o σ 6 = σ o 2 ∧ vC o σ 7 = σ o 3 ∧ vC o σ 8 = σ o 4 ∧ vC o σ 9 = σ o 5 ∧ vC o σ 10 = σ o 6 ∧ vC o σ 11 = σ o 7 := ⟨rfl, rfl, rfl, rfl, rfl, rfl, rfl, rfl⟩
/-- what stays when a position is moved -/
abbrev Fo (o : Nat) (σ σ' : Sg) : Prop := ∀ o', o' ≠ o → o' ≠ o + 1 → o' ≠ o + 2 → σ' o' = σ o'
theorem Fo_w {o a k : Nat} {σ : Sg} {v : Int32} (h : a = o ∨ a = o + 1 ∨ a = o + 2) : Fo o σ (q_wr σ a k v) := fun o' h0 h1 h2 => w_ne _ _ _ (by omega)
theorem Fo_t {o : Nat} {a b c : Sg} (h1 : Fo o a b) (h2 : Fo o b c) : Fo o a c := fun o' x0 x1 x2 => (h2 o' x0 x1 x2).trans (h1 o' x0 x1 x2)
/-! the moves -/
def pStop (p : Ps) (s : Int32) : Ps := upd (upd (upd (upd (upd (upd p 6 s) 7 (-4)) 8 0) 9 0) 10 (-4)) 11 (-4)
def pEnd (p : Ps) : Ps := if p 7 = -4 then p else upd (pStop p (1 - p 6)) 11 (p 7)
def pO (p : Ps) (b : Int32) (l : Int32) (i : Nat) : Int32 := if nI i = b ∨ p i = 7 then l else l ||| ((1 : Int32) <<< (nI i &&& 31))
def pOth (p : Ps) (b : Int32) : Int32 := pO p b (pO p b (pO p b (pO p b 0 0) 1) 2) 3
def pBring (p : Ps) (b : Int32) : Ps := upd (upd (upd p 7 b) 8 1) 9 (pOth p b)
def pRoq (p : Ps) (b : Int32) : Ps := upd (upd (upd p 8 (p 8 - 1)) 9 (p 9 &&& (((1 : Int32) <<< (b &&& 31)) ^^^ (-1)))) 10 b
def pCro (p : Ps) : Ps := upd (upd p 8 1) 10 (-4)
def pFree (p : Ps) : Ps := upd (upd p 6 (1 - p 6)) (4 + (1 - p 6).toNatClampNeg) (p (4 + (1 - p 6).toNatClampNeg) - 1)
def pB (f0 f1 : Int32) : Ps := fun i => if i < 4 then 0 else if i = 4 then f0 else if i = 5 then f1 else if i = 7 ∨ i = 10 ∨ i = 11 then -4 else 0
def pLead (p : Ps) (k : Nat) (b : Int32) : Ps := match k with
  | 0 => pBring p b
  | 1 => pEnd p
  | 2 => pBring (upd p (p 7).toNatClampNeg (p (p 7).toNatClampNeg + 1)) (p 7)
  | 3 => pRoq p b
  | 4 => pCro p
  | 5 => pEnd (upd p (p 7).toNatClampNeg 7)
  | _ => pBring (pFree p) (p 11)
def pObey (p : Ps) (r : Nat) : Ps := match r with
  | 0 => p
  | 1 => pEnd p
  | r + 2 => pStop p (nI r)
theorem upd_same (f : Ps) (k : Nat) : upd f k (f k) = f := by
  funext i
  simp only [upd]
  by_cases h : i = k
  · rw [if_pos h, h]
  · rw [if_neg h]
theorem upd_two (f : Ps) (k : Nat) (a b : Int32) : upd (upd f k a) k b = upd f k b := by
  funext i
  simp only [upd]
  by_cases h : i = k
  · rw [if_pos h, if_pos h]
  · rw [if_neg h, if_neg h, if_neg h]
theorem c_stop (o : Nat) (σ : Sg) (s : Int32) : ∃ σ', f_X3_stopFor o σ s = some (σ', 0) ∧ vC o σ' = pStop (vC o σ) s ∧ Fo o σ σ' := by
  refine ⟨_, rfl, ?_, ?_⟩
  · rw [vC_o _ _ (by decide) (by decide), vC_o _ _ (by decide) (by decide), vC_o _ _ (by decide) (by decide), vC_o _ _ (by decide) (by decide), vC_o _ _ (by decide) (by decide), vC_o _ _ (by decide) (by decide)]
    rfl
  · exact Fo_t (Fo_t (Fo_t (Fo_t (Fo_t (Fo_w (Or.inl rfl)) (Fo_w (Or.inl rfl))) (Fo_w (Or.inl rfl))) (Fo_w (Or.inl rfl))) (Fo_w (Or.inl rfl))) (Fo_w (Or.inl rfl))
theorem c_end (o : Nat) (σ : Sg) : ∃ σ', f_X3_endTurn o σ = some (σ', 0) ∧ vC o σ' = pEnd (vC o σ) ∧ Fo o σ σ' := by
  unfold f_X3_endTurn
  by_cases h : σ o 3 = -4
  · rw [if_pos h]
    refine ⟨σ, rfl, ?_, fun _ _ _ _ => rfl⟩
    unfold pEnd
    rw [if_pos (show vC o σ 7 = -4 from h)]
  · rw [if_neg h, l_eq]
    obtain ⟨σ', g1, g2, g3⟩ := c_stop o σ (1 - σ o 2)
    rw [g1, b_some, ls_eq]
    refine ⟨_, rfl, ?_, Fo_t g3 (Fo_w (Or.inl rfl))⟩
    rw [vC_o _ _ (by decide) (by decide), g2]
    unfold pEnd
    rw [if_neg (show ¬ vC o σ 7 = -4 from h)]
    rfl
theorem c_brS (o : Nat) (rec : Sg → Int32 → Int32 → Rs) (σ : Sg) (b : Int32) {i : Nat} (hi : i < 4) : ∃ σ', s_X3_bringIn_L17 o rec σ b (nI i) = rec σ' b (nI (i + 1)) ∧ vC o σ' = upd (vC o σ) 9 (pO (vC o σ) b (vC o σ 9) i) ∧ Fo o σ σ' := by
  unfold s_X3_bringIn_L17
  rw [if_neg (show ¬ (4 : Int32) ≤ nI i from nI_ge (b := 4) hi (by omega)), nI_1]
  have same : (nI i = b ∨ vC o σ i = 7) → vC o σ = upd (vC o σ) 9 (pO (vC o σ) b (vC o σ 9) i) := by
    intro h
    unfold pO
    rw [if_pos h, upd_same]
  by_cases h1 : nI i = b
  · rw [if_pos h1, l_eq]
    exact ⟨σ, rfl, same (Or.inl h1), fun _ _ _ _ => rfl⟩
  · rw [if_neg h1, r_at (a := o + 1) (n := 4) σ hi (by decide), b_some]
    by_cases h2 : σ (o + 1) i = 7
    · rw [if_pos h2, l_eq]
      exact ⟨σ, rfl, same (Or.inr (by rw [vC_h σ hi]; exact h2)), fun _ _ _ _ => rfl⟩
    · rw [if_neg h2, ls_eq, l_eq]
      refine ⟨_, rfl, ?_, Fo_w (Or.inl rfl)⟩
      rw [vC_o _ _ (by decide) (by decide)]
      unfold pO
      rw [if_neg (fun z => z.elim h1 (fun z => h2 (by rw [← vC_h σ hi]; exact z)))]
      rfl
theorem pO_9 (p : Ps) (b l v : Int32) {i : Nat} (hi : i < 4) : pO (upd p 9 v) b l i = pO p b l i := by
  unfold pO
  rw [show upd p 9 v i = p i from by simp only [upd]; rw [if_neg (by omega)]]
theorem pO_p {p p' : Ps} (b l : Int32) {i : Nat} (h : p' i = p i) : pO p' b l i = pO p b l i := by
  unfold pO
  rw [h]
theorem c_bring (o : Nat) (σ : Sg) (b : Int32) : ∃ σ', f_X3_bringIn o σ b = some (σ', 0) ∧ vC o σ' = pBring (vC o σ) b ∧ Fo o σ σ' := by
  unfold f_X3_bringIn
  rw [ls_eq, ls_eq, ls_eq]
  have e0 : vC o (q_wr (q_wr (q_wr σ o 3 b) o 4 1) o 5 0) = upd (upd (upd (vC o σ) 7 b) 8 1) 9 0 := by
    rw [vC_o _ _ (by decide) (by decide), vC_o _ _ (by decide) (by decide), vC_o _ _ (by decide) (by decide)]
  have F0 : Fo o σ (q_wr (q_wr (q_wr σ o 3 b) o 4 1) o 5 0) := Fo_t (Fo_t (Fo_w (Or.inl rfl)) (Fo_w (Or.inl rfl))) (Fo_w (Or.inl rfl))
  generalize (q_wr (q_wr (q_wr σ o 3 b) o 4 1) o 5 0) = σ0 at e0 F0
  obtain ⟨σ1, a1, a2, a3⟩ := c_brS o (f_X3_bringIn_L17 o 999) σ0 b (i := 0) (by decide)
  obtain ⟨σ2, b1, b2, b3⟩ := c_brS o (f_X3_bringIn_L17 o 998) σ1 b (i := 1) (by decide)
  obtain ⟨σ3, c1, c2, c3⟩ := c_brS o (f_X3_bringIn_L17 o 997) σ2 b (i := 2) (by decide)
  obtain ⟨σ4, d1, d2, d3⟩ := c_brS o (f_X3_bringIn_L17 o 996) σ3 b (i := 3) (by decide)
  refine ⟨σ4, ?_, ?_, Fo_t (Fo_t (Fo_t (Fo_t F0 a3) b3) c3) d3⟩
  · show s_X3_bringIn_L17 o (f_X3_bringIn_L17 o 999) σ0 b (nI 0) = _
    rw [a1]
    show s_X3_bringIn_L17 o (f_X3_bringIn_L17 o 998) σ1 b (nI 1) = _
    rw [b1]
    show s_X3_bringIn_L17 o (f_X3_bringIn_L17 o 997) σ2 b (nI 2) = _
    rw [c1]
    show s_X3_bringIn_L17 o (f_X3_bringIn_L17 o 996) σ3 b (nI 3) = _
    rw [d1]
    show s_X3_bringIn_L17 o (f_X3_bringIn_L17 o 995) σ4 b (nI 4) = _
    unfold s_X3_bringIn_L17
    rw [if_pos (by decide)]
  · have hp : ∀ i, i < 4 → upd (upd (upd (vC o σ) 7 b) 8 1) 9 0 i = vC o σ i := by
      intro i hi
      simp only [upd]
      rw [if_neg (by omega), if_neg (by omega), if_neg (by omega)]
    rw [d2, c2, b2, a2, e0]
    generalize hq : upd (upd (upd (vC o σ) 7 b) 8 1) 9 0 = p0 at hp
    have h9 : p0 9 = 0 := by rw [← hq]; rfl
    rw [h9]
    simp only [upd_two, show ∀ (f : Ps) (v : Int32), upd f 9 v 9 = v from fun f v => rfl]
    rw [pO_9 _ _ _ _ (by decide), pO_9 _ _ _ _ (by decide), pO_9 _ _ _ _ (by decide)]
    rw [pO_p b _ (hp 0 (by decide)), pO_p b _ (hp 1 (by decide)), pO_p b _ (hp 2 (by decide)), pO_p b _ (hp 3 (by decide)), ← hq, upd_two]
    rfl
end
section
/-! the class's positions: who has won, what may be done, what is done -/
def pWin (p : Ps) : Int32 := if p 0 = 7 ∧ p 2 = 7 then 0 else if p 1 = 7 ∧ p 3 = 7 then 1 else -4
def V (p : Ps) : Prop := (p 7 = -4 ∨ ∃ b, b < 4 ∧ p 7 = nI b) ∧ (p 6 = nI 0 ∨ p 6 = nI 1) ∧ (p 11 = -4 ∨ ∃ b, b < 4 ∧ p 11 = nI b) ∧ (p 7 = -4 → p 8 = 0 ∧ p 9 = 0 ∧ p 10 = -4) ∧ (¬ p 7 = -4 → p 10 = -4 → p 8 = 1) ∧ (¬ p 7 = -4 → ¬ p 10 = -4 → p 8 = 0)
def pCan (p : Ps) (k b : Nat) : Prop := match k with
  | 0 => p 7 = -4 ∧ ¬ p b = 7
  | 1 => ¬ p 7 = -4 ∧ p 10 = -4
  | 2 => ¬ p 7 = -4 ∧ p 10 = -4 ∧ ¬ 6 ≤ p (p 7).toNatClampNeg
  | 3 => ¬ p 7 = -4 ∧ p 10 = -4 ∧ ¬ nI b = p 7 ∧ ¬ p b = 7
  | 4 => ¬ p 7 = -4 ∧ ¬ p 10 = -4
  | 5 => ¬ p 7 = -4 ∧ p 10 = -4 ∧ p (p 7).toNatClampNeg = 6
  | _ => p 7 = -4 ∧ ¬ p 11 = -4 ∧ ¬ p (p 11).toNatClampNeg = 7 ∧ ¬ p (4 + (1 - p 6).toNatClampNeg) ≤ 0
theorem nb_4 {b : Nat} (h : b < 4) : ¬ nI b = -4 := by
  intro e
  have h1 := z_nI (n := b) (by omega)
  rw [e] at h1
  have h2 : (-4 : Int32).toInt = -4 := by decide
  omega
theorem nb_neg {b : Nat} (h : b < 4) : ¬ nI b < 0 := nI_pos (by omega)
theorem s_fl {x : Int32} (h : x = nI 0 ∨ x = nI 1) : ∃ t, t < 2 ∧ 1 - x = nI t ∧ (1 - x = nI 0 ∨ 1 - x = nI 1) ∧ 1 - (1 - x) = x := by
  rcases h with rfl | rfl
  · exact ⟨1, by decide, by decide, Or.inr (by decide), by decide⟩
  · exact ⟨0, by decide, by decide, Or.inl (by decide), by decide⟩
theorem c_isOut (o : Nat) (σ : Sg) {b : Nat} (hb : b < 4) : f_X3_isOut o σ (nI b) = some (σ, if vC o σ b = 7 then 1 else 0) := by
  unfold f_X3_isOut
  rw [r_at (a := o + 1) (n := 4) σ hb (by decide), b_some, vC_h σ hb]
  by_cases h : σ (o + 1) b = 7
  · rw [if_pos h, if_pos h]
  · rw [if_neg h, if_neg h]
theorem c_winner (o : Nat) (σ : Sg) : f_X3_winner o σ = some (σ, pWin (vC o σ)) := by
  have h0 : f_X3_isOut o σ 0 = _ := c_isOut o σ (b := 0) (by decide)
  have h1 : f_X3_isOut o σ 1 = _ := c_isOut o σ (b := 1) (by decide)
  have h2 : f_X3_isOut o σ 2 = _ := c_isOut o σ (b := 2) (by decide)
  have h3 : f_X3_isOut o σ 3 = _ := c_isOut o σ (b := 3) (by decide)
  by_cases a0 : vC o σ 0 = 7 <;> by_cases a1 : vC o σ 1 = 7 <;> by_cases a2 : vC o σ 2 = 7 <;> by_cases a3 : vC o σ 3 = 7 <;> simp [f_X3_winner, f_X3_winner_J18, pWin, h0, h1, h2, h3, b_some, a0, a1, a2, a3]
theorem c_obey (o : Nat) (σ : Sg) {r : Nat} (hr : r < 4) : ∃ σ', f_X2_obey o σ (nI r) = some (σ', 0) ∧ vC o σ' = pObey (vC o σ) r ∧ Fo o σ σ' := by
  unfold f_X2_obey
  match r, hr with
  | 0, _ =>
    rw [if_neg (by decide), if_pos (by decide)]
    exact ⟨σ, rfl, rfl, fun _ _ _ _ => rfl⟩
  | 1, _ =>
    obtain ⟨σ', g1, g2, g3⟩ := c_end o σ
    rw [if_pos (by decide), g1, b_some]
    exact ⟨σ', rfl, g2, g3⟩
  | 2, _ =>
    obtain ⟨σ', g1, g2, g3⟩ := c_stop o σ (nI 0)
    rw [if_neg (by decide), if_neg (by decide), show (nI 2 : Int32) - 2 = nI 0 by decide, g1, b_some]
    exact ⟨σ', rfl, g2, g3⟩
  | 3, _ =>
    obtain ⟨σ', g1, g2, g3⟩ := c_stop o σ (nI 1)
    rw [if_neg (by decide), if_neg (by decide), show (nI 3 : Int32) - 2 = nI 1 by decide, g1, b_some]
    exact ⟨σ', rfl, g2, g3⟩
  | n + 4, h => exact absurd h (by omega)
theorem c_begin (o : Nat) (σ : Sg) (f0 f1 : Int32) : ∃ σ', f_X3_begin o σ f0 f1 = some (σ', 0) ∧ vC o σ' = pB f0 f1 ∧ Fo o σ σ' := by
  unfold f_X3_begin
  obtain ⟨σ1, a1, a2, a3⟩ := r_fill (a := o + 1) (n := 4) (by decide) 0 σ
  have s0 := r_set (a := o + 2) (n := 2) (k := 0) σ1 f0 (by decide) (by decide)
  have s1 := r_set (a := o + 2) (n := 2) (k := 1) (q_wr σ1 (o + 2) 0 f0) f1 (by decide) (by decide)
  obtain ⟨σ2, b1, b2, b3⟩ := c_stop o (q_wr (q_wr σ1 (o + 2) 0 f0) (o + 2) 1 f1) 0
  rw [a1, b_some, show f_X5_set (o + 2) 2 σ1 0 f0 = _ from s0, b_some, show f_X5_set (o + 2) 2 _ 1 f1 = _ from s1, b_some, b1, b_some]
  refine ⟨σ2, rfl, ?_, fun o' x0 x1 x2 => ?_⟩
  · rw [b2, vC_2 _ _ (by decide), vC_2 _ _ (by decide)]
    funext i
    simp only [pStop, upd, pB]
    by_cases h : i < 4
    · have e : vC o σ1 i = 0 := by rw [vC_h _ h, a3, if_pos h]
      simp [h, e, show i ≠ 11 by omega, show i ≠ 10 by omega, show i ≠ 9 by omega, show i ≠ 8 by omega, show i ≠ 7 by omega, show i ≠ 6 by omega, show i ≠ 5 by omega, show i ≠ 4 by omega]
    · rw [if_neg h]
      by_cases h4 : i = 4
      · subst h4; simp
      by_cases h5 : i = 5
      · subst h5; simp
      by_cases h6 : i = 6
      · subst h6; simp
      by_cases h7 : i = 7
      · subst h7; simp
      by_cases h8 : i = 8
      · subst h8; simp
      by_cases h9 : i = 9
      · subst h9; simp
      by_cases h10 : i = 10
      · subst h10; simp
      by_cases h11 : i = 11
      · subst h11; simp
      simp only [h4, h5, h6, h7, h8, h9, h10, h11, if_false]
      simp [vC, h, show ¬ i < 6 by omega, show ¬ i < 12 by omega]
  · rw [b3 o' x0 x1 x2, w_ne _ _ _ x2, w_ne _ _ _ x2, a2 o' x1]
theorem c_lead (o : Nat) (σ : Sg) {k b : Nat} (hk : k ≤ 6) (hb : b < 4) (hV : V (vC o σ)) (hc : pCan (vC o σ) k b) : ∃ σ', f_X3_lead o σ (nI k) (nI b) = some (σ', 0) ∧ vC o σ' = pLead (vC o σ) k (nI b) ∧ Fo o σ σ' := by
  obtain ⟨v7, v6, v11, v0, v1, v2⟩ := hV
  unfold f_X3_lead
  match k, hk, hc with
  | 0, _, hc =>
    rw [if_neg (by decide), if_neg (by decide), if_pos (by decide)]
    obtain ⟨σ', g1, g2, g3⟩ := c_bring o σ (nI b)
    rw [g1, b_some]
    exact ⟨σ', rfl, g2, g3⟩
  | 1, _, hc =>
    rw [if_neg (by decide), if_neg (by decide), if_neg (by decide), if_pos (by decide)]
    obtain ⟨σ', g1, g2, g3⟩ := c_end o σ
    rw [g1, b_some]
    exact ⟨σ', rfl, g2, g3⟩
  | 2, _, hc =>
    rw [if_neg (by decide), if_neg (by decide), if_neg (by decide), if_neg (by decide), if_pos (by decide)]
    obtain ⟨h7, h10, h⟩ := hc
    obtain ⟨c, c4, ec⟩ := v7.resolve_left h7
    have e3 : σ o 3 = nI c := ec
    rw [e3, r_at (a := o + 1) (n := 4) σ c4 (by decide), b_some, r_set (a := o + 1) (n := 4) σ _ c4 (by decide), b_some]
    rw [show q_wr σ (o + 1) c (σ (o + 1) c + 1) o 3 = nI c by rw [w_ne _ _ _ (by omega)]; exact e3]
    obtain ⟨σ', g1, g2, g3⟩ := c_bring o (q_wr σ (o + 1) c (σ (o + 1) c + 1)) (nI c)
    rw [g1, b_some]
    refine ⟨σ', rfl, ?_, Fo_t (Fo_w (Or.inr (Or.inl rfl))) g3⟩
    rw [g2, vC_1 _ _ c4]
    show _ = pBring (upd (vC o σ) (vC o σ 7).toNatClampNeg (vC o σ (vC o σ 7).toNatClampNeg + 1)) (vC o σ 7)
    rw [ec, z_cl (n := c) (by omega), vC_h σ c4]
  | 3, _, hc =>
    rw [if_neg (by decide), if_neg (by decide), if_neg (by decide), if_neg (by decide), if_neg (by decide), if_pos (by decide)]
    unfold f_X3_roquet
    rw [ls_eq, ls_eq, ls_eq, b_some]
    refine ⟨_, rfl, ?_, Fo_t (Fo_t (Fo_w (Or.inl rfl)) (Fo_w (Or.inl rfl))) (Fo_w (Or.inl rfl))⟩
    rw [vC_o _ _ (by decide) (by decide), vC_o _ _ (by decide) (by decide), vC_o _ _ (by decide) (by decide), show q_wr σ o 4 (σ o 4 - 1) o 5 = σ o 5 by rw [w_at, if_neg (by omega)]]
    rfl
  | 4, _, hc =>
    rw [if_neg (by decide), if_neg (by decide), if_neg (by decide), if_neg (by decide), if_neg (by decide), if_neg (by decide), if_pos (by decide)]
    unfold f_X3_croquet
    rw [ls_eq, ls_eq, b_some]
    refine ⟨_, rfl, ?_, Fo_t (Fo_w (Or.inl rfl)) (Fo_w (Or.inl rfl))⟩
    rw [vC_o _ _ (by decide) (by decide), vC_o _ _ (by decide) (by decide)]
    rfl
  | 5, _, hc =>
    rw [if_neg (by decide), if_neg (by decide), if_neg (by decide), if_neg (by decide), if_neg (by decide), if_neg (by decide), if_neg (by decide), if_pos (by decide)]
    obtain ⟨h7, h10, h⟩ := hc
    obtain ⟨c, c4, ec⟩ := v7.resolve_left h7
    have e3 : σ o 3 = nI c := ec
    rw [e3, r_set (a := o + 1) (n := 4) σ _ c4 (by decide), b_some]
    obtain ⟨σ', g1, g2, g3⟩ := c_end o (q_wr σ (o + 1) c 7)
    rw [g1, b_some]
    refine ⟨σ', rfl, ?_, Fo_t (Fo_w (Or.inr (Or.inl rfl))) g3⟩
    rw [g2, vC_1 _ _ c4]
    show _ = pEnd (upd (vC o σ) (vC o σ 7).toNatClampNeg 7)
    rw [ec, z_cl (n := c) (by omega)]
  | 6, _, hc =>
    rw [if_neg (by decide), if_pos (by decide)]
    unfold f_X3_lead_J125 f_X3_spendFree
    obtain ⟨t, t2, et, et', ets⟩ := s_fl v6
    have e2 : 1 - σ o 2 = nI t := et
    rw [e2, ls_eq, show q_wr σ o 2 (nI t) o 2 = nI t by rw [w_at, if_pos ⟨rfl, rfl⟩], r_at (a := o + 2) (n := 2) _ t2 (by decide), b_some, r_set (a := o + 2) (n := 2) _ _ t2 (by decide), b_some, b_some]
    rw [show q_wr σ o 2 (nI t) (o + 2) t = σ (o + 2) t by rw [w_at, if_neg (by omega)]]
    rw [show q_wr (q_wr σ o 2 (nI t)) (o + 2) t (σ (o + 2) t - 1) o 7 = σ o 7 by rw [w_at, if_neg (by omega), w_at, if_neg (by omega)]]
    obtain ⟨σ', g1, g2, g3⟩ := c_bring o (q_wr (q_wr σ o 2 (nI t)) (o + 2) t (σ (o + 2) t - 1)) (σ o 7)
    rw [g1, b_some]
    refine ⟨σ', rfl, ?_, Fo_t (Fo_t (Fo_w (Or.inl rfl)) (Fo_w (Or.inr (Or.inr rfl)))) g3⟩
    rw [g2, vC_2 _ _ t2, vC_o _ _ (by decide) (by decide)]
    show _ = pBring (upd (upd (vC o σ) 6 (1 - vC o σ 6)) (4 + (1 - vC o σ 6).toNatClampNeg) (vC o σ (4 + (1 - vC o σ 6).toNatClampNeg) - 1)) (vC o σ 11)
    rw [et, z_cl (n := t) (by omega)]
    have e4 : vC o σ (4 + t) = σ (o + 2) t := by
      simp only [vC]
      rw [if_neg (by omega), if_pos (by omega)]
      congr 1
      omega
    rw [e4, show t + 4 = 4 + t by omega]
    rfl
  | n + 7, h, _ => exact absurd h (by omega)
end
section
/-! what may be done, answered by the class -/
theorem c_allowsFree (o : Nat) (σ : Sg) (hV : V (vC o σ)) : ∃ r, f_X3_allowsFree o σ = some (σ, r) ∧ (r = 0 ↔ ¬ (¬ vC o σ 11 = -4 ∧ ¬ vC o σ (vC o σ 11).toNatClampNeg = 7 ∧ ¬ vC o σ (4 + (1 - vC o σ 6).toNatClampNeg) ≤ 0)) := by
  obtain ⟨v7, v6, v11, -⟩ := hV
  unfold f_X3_allowsFree
  by_cases a : vC o σ 11 = -4
  · rw [if_pos (show σ o 7 = -4 from a)]
    exact ⟨0, rfl, by simp [a]⟩
  · obtain ⟨c, c4, ec⟩ := v11.resolve_left a
    rw [if_neg (show ¬ σ o 7 = -4 from a), show σ o 7 = nI c from ec, c_isOut o σ c4, b_some, ec, z_cl (n := c) (by omega)]
    by_cases b : vC o σ c = 7
    · rw [if_pos b, if_neg (by decide)]
      exact ⟨0, rfl, by simp [b]⟩
    · obtain ⟨t, t2, et, et', ets⟩ := s_fl v6
      rw [if_neg b, if_pos rfl, show (1 : Int32) - σ o 2 = nI t from et, r_at (a := o + 2) (n := 2) σ t2 (by decide), b_some, et, z_cl (n := t) (by omega)]
      have e4 : vC o σ (4 + t) = σ (o + 2) t := by
        simp only [vC]
        rw [if_neg (by omega), if_pos (by omega)]
        congr 1
        omega
      rw [e4]
      by_cases d : σ (o + 2) t ≤ 0
      · rw [if_pos d]
        exact ⟨0, rfl, by simp [d]⟩
      · rw [if_neg d]
        exact ⟨1, rfl, by simp [d, b, nb_4 c4]⟩
theorem c_fresh (o : Nat) (σ : Sg) {k b : Nat} (hk : k ≤ 6) (hb : b < 4) (h4 : k ≠ 4) (h0 : k ≠ 0) (h6 : k ≠ 6) (hV : V (vC o σ)) (a7 : ¬ vC o σ 7 = -4) (a10 : vC o σ 10 = -4) : ∃ r, f_X3_allowsFresh o σ (nI k) (nI b) = some (σ, r) ∧ (r = 0 ↔ ¬ pCan (vC o σ) k b) := by
  obtain ⟨v7, -⟩ := hV
  obtain ⟨c, c4, ec⟩ := v7.resolve_left a7
  have e3 : σ o 3 = nI c := ec
  unfold f_X3_allowsFresh
  match k, hk, h4, h0, h6 with
  | 0, _, _, h, _ => exact absurd rfl h
  | 1, _, _, _, _ =>
    rw [if_pos (by decide)]
    exact ⟨1, rfl, by simp [pCan, a7, a10]⟩
  | 2, _, _, _, _ =>
    rw [if_neg (by decide), if_neg (by decide), if_pos (by decide), e3, r_at (a := o + 1) (n := 4) σ c4 (by decide), b_some]
    have e : vC o σ (vC o σ 7).toNatClampNeg = σ (o + 1) c := by rw [ec, z_cl (n := c) (by omega), vC_h σ c4]
    by_cases d : 6 ≤ σ (o + 1) c
    · rw [if_pos d]
      exact ⟨0, rfl, by simp [pCan, e, d]⟩
    · rw [if_neg d]
      exact ⟨1, rfl, by simp [pCan, a7, a10, e, d]⟩
  | 3, _, _, _, _ =>
    rw [if_neg (by decide), if_neg (by decide), if_neg (by decide), if_pos (by decide), e3]
    by_cases d : nI b = nI c
    · rw [if_pos d]
      exact ⟨0, rfl, by simp [pCan, ec, d]⟩
    · rw [if_neg d, c_isOut o σ hb, b_some]
      by_cases f : vC o σ b = 7
      · rw [if_pos f, if_neg (by decide)]
        exact ⟨0, rfl, by simp [pCan, f]⟩
      · rw [if_neg f, if_pos rfl]
        refine ⟨1, rfl, ?_⟩
        simp only [pCan, ec]
        simp [f, d, a10, nb_4 c4]
  | 4, _, h, _, _ => exact absurd rfl h
  | 5, _, _, _, _ =>
    rw [if_neg (by decide), if_neg (by decide), if_neg (by decide), if_neg (by decide), if_neg (by decide), if_pos (by decide), e3, r_at (a := o + 1) (n := 4) σ c4 (by decide), b_some]
    have e : vC o σ (vC o σ 7).toNatClampNeg = σ (o + 1) c := by rw [ec, z_cl (n := c) (by omega), vC_h σ c4]
    by_cases d : σ (o + 1) c = 6
    · rw [if_pos d]
      exact ⟨1, rfl, by simp [pCan, a7, a10, e, d]⟩
    · rw [if_neg d]
      exact ⟨0, rfl, by simp [pCan, e, d]⟩
  | 6, _, _, _, h => exact absurd rfl h
  | n + 7, h, _, _, _ => exact absurd h (by omega)
theorem c_allows (o : Nat) (σ : Sg) {k b : Nat} (hk : k ≤ 6) (hb : b < 4) (hV : V (vC o σ)) : ∃ r, f_X3_allows o σ (nI k) (nI b) = some (σ, r) ∧ (r = 0 ↔ ¬ (pWin (vC o σ) = -4 ∧ pCan (vC o σ) k b)) := by
  unfold f_X3_allows
  rw [c_winner, b_some]
  by_cases w' : ¬ pWin (vC o σ) = -4
  · rw [if_neg w']
    exact ⟨0, rfl, by simp [w']⟩
  have w := Classical.not_not.1 w'
  rw [if_pos w]
  simp only [w, true_and]
  by_cases k0 : k = 0
  · subst k0
    rw [if_pos (show nI 0 = (0 : Int32) from rfl)]
    by_cases a7 : vC o σ 7 = -4
    · rw [if_pos (show σ o 3 = -4 from a7), c_isOut o σ hb, b_some]
      by_cases f : vC o σ b = 7
      · rw [if_pos f, if_neg (by decide)]
        exact ⟨0, rfl, by simp [pCan, f]⟩
      · rw [if_neg f, if_pos rfl]
        exact ⟨1, rfl, by simp [pCan, f, a7]⟩
    · rw [if_neg (show ¬ σ o 3 = -4 from a7)]
      exact ⟨0, rfl, by simp [pCan, a7]⟩
  rw [if_neg (show ¬ nI k = (0 : Int32) from nI_ne0 (by omega) (by omega))]
  by_cases k6 : k = 6
  · subst k6
    rw [if_pos (show nI 6 = (6 : Int32) from rfl)]
    by_cases a7 : vC o σ 7 = -4
    · rw [if_pos (show σ o 3 = -4 from a7)]
      obtain ⟨r, g1, g2⟩ := c_allowsFree o σ hV
      rw [g1, b_some]
      by_cases hr : r = 0
      · rw [if_pos hr]
        refine ⟨0, rfl, iff_of_true rfl (fun z => g2.1 hr z.2)⟩
      · rw [if_neg hr]
        refine ⟨1, rfl, iff_of_false (by decide) (fun z => hr (g2.2 (fun y => z ⟨a7, y⟩)))⟩
    · rw [if_neg (show ¬ σ o 3 = -4 from a7)]
      exact ⟨0, rfl, by simp [pCan, a7]⟩
  rw [if_neg (show ¬ nI k = (6 : Int32) from fun e => k6 ((nI_eq (b := 6) (by omega) (by decide)).1 e))]
  by_cases a7 : vC o σ 7 = -4
  · rw [if_pos (show σ o 3 = -4 from a7)]
    refine ⟨0, rfl, iff_of_true rfl ?_⟩
    match k, hk, k0, k6 with
    | 0, _, h, _ => exact absurd rfl h
    | 1, _, _, _ => simp [pCan, a7]
    | 2, _, _, _ => simp [pCan, a7]
    | 3, _, _, _ => simp [pCan, a7]
    | 4, _, _, _ => simp [pCan, a7]
    | 5, _, _, _ => simp [pCan, a7]
    | 6, _, _, h => exact absurd rfl h
    | n + 7, h, _, _ => exact absurd h (by omega)
  rw [if_neg (show ¬ σ o 3 = -4 from a7)]
  by_cases k4 : k = 4
  · subst k4
    rw [if_pos (show nI 4 = (4 : Int32) from rfl)]
    by_cases a10 : vC o σ 10 = -4
    · rw [if_pos (show σ o 6 = -4 from a10)]
      exact ⟨0, rfl, by simp [pCan, a10]⟩
    · rw [if_neg (show ¬ σ o 6 = -4 from a10)]
      exact ⟨1, rfl, by simp [pCan, a10, a7]⟩
  rw [if_neg (show ¬ nI k = (4 : Int32) from fun e => k4 ((nI_eq (b := 4) (by omega) (by decide)).1 e))]
  by_cases a10 : vC o σ 10 = -4
  · rw [if_pos (show σ o 6 = -4 from a10)]
    obtain ⟨r, g1, g2⟩ := c_fresh o σ hk hb k4 k0 k6 hV a7 a10
    rw [g1, b_some]
    by_cases hr : r = 0
    · rw [if_pos hr]
      exact ⟨0, rfl, iff_of_true rfl (g2.1 hr)⟩
    · rw [if_neg hr]
      exact ⟨1, rfl, iff_of_false (by decide) (fun z => hr (g2.2 z))⟩
  · rw [if_neg (show ¬ σ o 6 = -4 from a10)]
    refine ⟨0, rfl, iff_of_true rfl ?_⟩
    match k, hk, k0, k6, k4 with
    | 0, _, h, _, _ => exact absurd rfl h
    | 1, _, _, _, _ => simp [pCan, a10]
    | 2, _, _, _, _ => simp [pCan, a10]
    | 3, _, _, _, _ => simp [pCan, a10]
    | 4, _, _, _, h => exact absurd rfl h
    | 5, _, _, _, _ => simp [pCan, a10]
    | 6, _, _, h, _ => exact absurd rfl h
    | n + 7, h, _, _, _ => exact absurd h (by omega)
/-- a fault of the stroke -/
def pWr (p : Ps) (k : Nat) (b : Int32) : Int32 := if k = 0 then (if b - b / 2 * 2 = p 6 then 0 else 1) else if k = 3 then (if ((p 9) >>> (b &&& 31)) &&& 1 = 0 then 1 else 0) else 0
theorem pWr_01 (p : Ps) (k : Nat) (b : Int32) : pWr p k b = 0 ∨ pWr p k b = 1 := by
  unfold pWr
  by_cases h0 : k = 0
  · rw [if_pos h0]; by_cases h : b - b / 2 * 2 = p 6
    · rw [if_pos h]; exact Or.inl rfl
    · rw [if_neg h]; exact Or.inr rfl
  · rw [if_neg h0]; by_cases h3 : k = 3
    · rw [if_pos h3]; by_cases h : ((p 9) >>> (b &&& 31)) &&& 1 = 0
      · rw [if_pos h]; exact Or.inr rfl
      · rw [if_neg h]; exact Or.inl rfl
    · rw [if_neg h3]; exact Or.inl rfl
theorem c_isWrong (o : Nat) (σ : Sg) {k : Nat} (hk : k ≤ 6) (b : Int32) : f_X3_isWrong o σ (nI k) b = some (σ, pWr (vC o σ) k b) := by
  unfold f_X3_isWrong pWr
  by_cases k0 : k = 0
  · subst k0
    rw [if_pos (show nI 0 = (0 : Int32) from rfl), if_pos rfl]
    by_cases h : b - b / 2 * 2 = σ o 2
    · rw [if_pos h, if_pos (show b - b / 2 * 2 = vC o σ 6 from h)]
    · rw [if_neg h, if_neg (show ¬ b - b / 2 * 2 = vC o σ 6 from h)]
  · rw [if_neg (show ¬ nI k = (0 : Int32) from nI_ne0 (by omega) (by omega)), if_neg k0]
    by_cases k3 : k = 3
    · subst k3
      rw [if_pos (show nI 3 = (3 : Int32) from rfl), if_pos rfl]
      by_cases h : ((σ o 5) >>> (b &&& 31)) &&& 1 = 0
      · rw [if_pos h, if_pos (show ((vC o σ 9) >>> (b &&& 31)) &&& 1 = 0 from h)]
      · rw [if_neg h, if_neg (show ¬ ((vC o σ 9) >>> (b &&& 31)) &&& 1 = 0 from h)]
    · rw [if_neg (show ¬ nI k = (3 : Int32) from fun e => k3 ((nI_eq (b := 3) (by omega) (by decide)).1 e)), if_neg k3]
/-! what a position tells -/
def pTell (p : Ps) (q : Nat) : Int32 := if q = 0 then p 6 else if q < 5 then p (q + 6) else if q < 9 then p (q - 5) else if q < 11 then p (q - 5) else pWin p
theorem c_tell (o : Nat) (σ : Sg) {q : Nat} (hq : q < 12) : f_X3_tell o σ (nI q) = some (σ, pTell (vC o σ) q) := by
  unfold f_X3_tell f_X3_tell_J112
  match q, hq with
  | 0, _ => rfl
  | 1, _ => rfl
  | 2, _ => rfl
  | 3, _ => rfl
  | 4, _ => rfl
  | 5, _ => exact congrArg (fun z => q_bnd z fun s r => some (s, r)) (r_at (a := o + 1) (n := 4) (k := 0) σ (by decide) (by decide))
  | 6, _ => exact congrArg (fun z => q_bnd z fun s r => some (s, r)) (r_at (a := o + 1) (n := 4) (k := 1) σ (by decide) (by decide))
  | 7, _ => exact congrArg (fun z => q_bnd z fun s r => some (s, r)) (r_at (a := o + 1) (n := 4) (k := 2) σ (by decide) (by decide))
  | 8, _ => exact congrArg (fun z => q_bnd z fun s r => some (s, r)) (r_at (a := o + 1) (n := 4) (k := 3) σ (by decide) (by decide))
  | 9, _ => exact congrArg (fun z => q_bnd z fun s r => some (s, r)) (r_at (a := o + 2) (n := 2) (k := 0) σ (by decide) (by decide))
  | 10, _ => exact congrArg (fun z => q_bnd z fun s r => some (s, r)) (r_at (a := o + 2) (n := 2) (k := 1) σ (by decide) (by decide))
  | 11, _ => exact congrArg (fun z => q_bnd z fun s r => some (s, r)) (c_winner o σ)
  | n + 12, h => exact absurd h (by omega)
end
section
/-! positions stay sound; the position after n strokes; the class's replay -/
theorem V_bring {p : Ps} {b : Nat} (hb : b < 4) (h6 : p 6 = nI 0 ∨ p 6 = nI 1) (h11 : p 11 = -4 ∨ ∃ b, b < 4 ∧ p 11 = nI b) (h10 : p 10 = -4) : V (pBring p (nI b)) :=
  ⟨Or.inr ⟨b, hb, rfl⟩, h6, h11, fun h => absurd h (nb_4 hb), fun _ _ => rfl, fun _ h => absurd h10 h⟩
theorem V_stop (p : Ps) {s : Int32} (hs : s = nI 0 ∨ s = nI 1) : V (pStop p s) := ⟨Or.inl rfl, hs, Or.inl rfl, fun _ => ⟨rfl, rfl, rfl⟩, fun h => absurd rfl h, fun h => absurd rfl h⟩
theorem V_end {p : Ps} (h7 : p 7 = -4 → V p) (h : p 7 = -4 ∨ ∃ b, b < 4 ∧ p 7 = nI b) (h6 : p 6 = nI 0 ∨ p 6 = nI 1) : V (pEnd p) := by
  unfold pEnd
  by_cases a : p 7 = -4
  · rw [if_pos a]
    exact h7 a
  · rw [if_neg a]
    obtain ⟨t, t2, et, et', ets⟩ := s_fl h6
    exact ⟨Or.inl rfl, et', h, fun _ => ⟨rfl, rfl, rfl⟩, fun h => absurd rfl h, fun h => absurd rfl h⟩
theorem V_obey {p : Ps} (h : V p) {r : Nat} (hr : r < 4) : V (pObey p r) := by
  match r, hr with
  | 0, _ => exact h
  | 1, _ => exact V_end (fun _ => h) h.1 h.2.1
  | 2, _ => exact V_stop p (Or.inl rfl)
  | 3, _ => exact V_stop p (Or.inr rfl)
  | n + 4, h => exact absurd h (by omega)
theorem V_B (f0 f1 : Int32) : V (pB f0 f1) := ⟨Or.inl rfl, Or.inl rfl, Or.inl rfl, fun _ => ⟨rfl, rfl, rfl⟩, fun h => absurd rfl h, fun h => absurd rfl h⟩
theorem u_ne (p : Ps) {c i : Nat} (v : Int32) (h : i ≠ c) : upd p c v i = p i := by simp [upd, h]
theorem V_lead {p : Ps} (h : V p) {k b : Nat} (hk : k ≤ 6) (hb : b < 4) (hc : pCan p k b) : V (pLead p k (nI b)) := by
  have hV := h
  obtain ⟨v7, v6, v11, v0, v1, v2⟩ := h
  match k, hk, hc with
  | 0, _, hc => exact V_bring hb v6 v11 (v0 hc.1).2.2
  | 1, _, hc => exact V_end (fun _ => hV) v7 v6
  | 2, _, hc =>
    obtain ⟨h7, h10, h⟩ := hc
    obtain ⟨c, c4, ec⟩ := v7.resolve_left h7
    show V (pBring (upd p (p 7).toNatClampNeg (p (p 7).toNatClampNeg + 1)) (p 7))
    rw [ec, z_cl (n := c) (by omega)]
    exact V_bring c4 (by rw [u_ne _ _ (by omega)]; exact v6) (by rw [u_ne _ _ (by omega)]; exact v11) (by rw [u_ne _ _ (by omega)]; exact h10)
  | 3, _, hc =>
    obtain ⟨h7, h10, h⟩ := hc
    exact ⟨v7, v6, v11, fun a => absurd a h7, fun _ a => absurd a (nb_4 hb), fun _ _ => by show p 8 - 1 = 0; rw [v1 h7 h10]; rfl⟩
  | 4, _, hc => exact ⟨v7, v6, v11, fun a => absurd a hc.1, fun _ _ => rfl, fun _ a => absurd rfl a⟩
  | 5, _, hc =>
    obtain ⟨h7, h10, h⟩ := hc
    obtain ⟨c, c4, ec⟩ := v7.resolve_left h7
    show V (pEnd (upd p (p 7).toNatClampNeg 7))
    rw [ec, z_cl (n := c) (by omega)]
    refine V_end (fun a => absurd ?_ h7) ?_ ?_
    · rw [u_ne _ _ (by omega)] at a
      exact a
    · rw [u_ne _ _ (by omega)]
      exact v7
    · rw [u_ne _ _ (by omega)]
      exact v6
  | 6, _, hc =>
    obtain ⟨h7, h11, h⟩ := hc
    obtain ⟨c, c4, ec⟩ := v11.resolve_left h11
    obtain ⟨t, t2, et, et', ets⟩ := s_fl v6
    show V (pBring (upd (upd p 6 (1 - p 6)) (4 + (1 - p 6).toNatClampNeg) (p (4 + (1 - p 6).toNatClampNeg) - 1)) (p 11))
    rw [ec]
    have ht : (1 - p 6).toNatClampNeg = t := by rw [et, z_cl (n := t) (by omega)]
    rw [ht]
    refine V_bring c4 ?_ ?_ ?_
    · rw [u_ne _ _ (by omega)]
      exact et'
    · rw [u_ne _ _ (by omega), u_ne _ _ (by omega)]
      exact v11
    · rw [u_ne _ _ (by omega), u_ne _ _ (by omega)]
      exact (v0 h7).2.2
  | n + 7, h, _ => exact absurd h (by omega)
def rp (σ : Sg) : Nat → Ps
  | 0 => pObey (pB (σ 1 11) (σ 1 12)) (σ 7 0).toNatClampNeg
  | n + 1 => pObey (pLead (rp σ n) (σ 2 n).toNatClampNeg (σ 3 n)) (σ 7 (n + 1)).toNatClampNeg
theorem rp_c {σ τ : Sg} (h0 : τ 1 11 = σ 1 11) (h1 : τ 1 12 = σ 1 12) : ∀ n : Nat, (∀ i, i < n → τ 2 i = σ 2 i) → (∀ i, i < n → τ 3 i = σ 3 i) → (∀ i, i ≤ n → τ 7 i = σ 7 i) → rp τ n = rp σ n := by
  intro n
  induction n with
  | zero =>
    intro _ _ h
    show pObey (pB (τ 1 11) (τ 1 12)) (τ 7 0).toNatClampNeg = pObey (pB (σ 1 11) (σ 1 12)) (σ 7 0).toNatClampNeg
    rw [h0, h1, h 0 (by omega)]
  | succ n ih =>
    intro a b c
    show pObey (pLead (rp τ n) (τ 2 n).toNatClampNeg (τ 3 n)) (τ 7 (n + 1)).toNatClampNeg = pObey (pLead (rp σ n) (σ 2 n).toNatClampNeg (σ 3 n)) (σ 7 (n + 1)).toNatClampNeg
    rw [a n (by omega), b n (by omega), c (n + 1) (by omega), ih (fun i h => a i (by omega)) (fun i h => b i (by omega)) (fun i h => c i (by omega))]
def GP (σ : Sg) (S : Nat) : Prop := (∀ k, k < S → ∃ d b, d ≤ 6 ∧ b < 4 ∧ σ 2 k = nI d ∧ σ 3 k = nI b ∧ pCan (rp σ k) d b) ∧ ∀ k, k ≤ S → ∃ r, r < 4 ∧ σ 7 k = nI r
theorem rp_s {σ : Sg} {S k : Nat} (h : GP σ S) (hk : k < S) : ∃ d b r, d ≤ 6 ∧ b < 4 ∧ r < 4 ∧ σ 2 k = nI d ∧ σ 3 k = nI b ∧ σ 7 (k + 1) = nI r ∧ pCan (rp σ k) d b ∧ rp σ (k + 1) = pObey (pLead (rp σ k) d (nI b)) r := by
  obtain ⟨d, b, h1, h2, h3, h4, h5⟩ := h.1 k hk
  obtain ⟨r, r4, er⟩ := h.2 (k + 1) (by omega)
  refine ⟨d, b, r, h1, h2, r4, h3, h4, er, h5, ?_⟩
  show pObey (pLead (rp σ k) (σ 2 k).toNatClampNeg (σ 3 k)) (σ 7 (k + 1)).toNatClampNeg = _
  rw [h3, h4, er, z_cl (n := d) (by omega), z_cl (n := r) (by omega)]
theorem rp_V {σ : Sg} {S : Nat} (h : GP σ S) : ∀ k : Nat, k ≤ S → V (rp σ k) := by
  intro k
  induction k with
  | zero =>
    intro _
    obtain ⟨r, r4, er⟩ := h.2 0 (by omega)
    show V (pObey (pB (σ 1 11) (σ 1 12)) (σ 7 0).toNatClampNeg)
    rw [er, z_cl (n := r) (by omega)]
    exact V_obey (V_B _ _) r4
  | succ k ih =>
    intro hk
    obtain ⟨d, b, r, h1, h2, h3, _, _, _, h5, h6⟩ := rp_s h (k := k) (by omega)
    rw [h6]
    exact V_obey (V_lead (ih (by omega)) h1 h2 h5) h3
theorem c_leadL {o : Nat} (ho : o = 9 ∨ o = 12) {σ : Sg} {S N : Nat} (hN : N ≤ S) (hS : S ≤ 150) (h10 : σ 1 10 = nI S) (h : GP σ S) : ∀ (d k q : Nat) (τ : Sg), k + d = N → d < q → Fo o σ τ → vC o τ = rp σ k → ∃ τ', f_X2_leadTo_L26 o q τ (nI N) (nI k) = some (τ', 0) ∧ vC o τ' = rp σ N ∧ Fo o σ τ' := by
  intro d
  induction d with
  | zero =>
    intro k q τ hk hq hF hv
    obtain ⟨q, rfl⟩ : ∃ p, q = p + 1 := ⟨q - 1, by omega⟩
    have : k = N := by omega
    subst this
    refine ⟨τ, ?_, hv, hF⟩
    show s_X2_leadTo_L26 o (f_X2_leadTo_L26 o q) τ (nI k) (nI k) = _
    unfold s_X2_leadTo_L26
    rw [if_pos (nI_le (Nat.le_refl _) (by omega))]
  | succ d ih =>
    intro k q τ hk hq hF hv
    obtain ⟨q, rfl⟩ : ∃ p, q = p + 1 := ⟨q - 1, by omega⟩
    obtain ⟨kd, b, r, h1, h2, h3, e2, e3, e7, h5, h6⟩ := rp_s h (k := k) (by omega)
    have f1 : τ 1 10 = nI S := by rw [hF 1 (by omega) (by omega) (by omega)]; exact h10
    have f2 : τ 2 k = nI kd := by rw [hF 2 (by omega) (by omega) (by omega)]; exact e2
    have f3 : τ 3 k = nI b := by rw [hF 3 (by omega) (by omega) (by omega)]; exact e3
    obtain ⟨τ1, a1, a2, a3⟩ := c_lead o τ h1 h2 (by rw [hv]; exact rp_V h k (by omega)) (by rw [hv]; exact h5)
    have f7 : τ1 7 (k + 1) = nI r := by rw [a3 7 (by omega) (by omega) (by omega), hF 7 (by omega) (by omega) (by omega)]; exact e7
    obtain ⟨τ2, b1, b2, b3⟩ := c_obey o τ1 h3
    obtain ⟨τ3, c1, c2, c3⟩ := ih (k + 1) q τ2 (by omega) (by omega) (Fo_t (Fo_t hF a3) b3) (by rw [b2, a2, hv, h6])
    refine ⟨τ3, ?_, c2, c3⟩
    show s_X2_leadTo_L26 o (f_X2_leadTo_L26 o q) τ (nI N) (nI k) = _
    unfold s_X2_leadTo_L26
    rw [if_neg (nI_ge (by omega) (by omega)), f1, if_neg (nI_ge (by omega) (by omega)), r_at (a := 2) (n := 150) τ (show k < 150 by omega) (by decide), b_some, r_at (a := 3) (n := 150) τ (show k < 150 by omega) (by decide), b_some, f2, f3, a1, b_some, nI_1, r_at (a := 7) (n := 151) τ1 (show k + 1 < 151 by omega) (by decide), b_some, f7, b1, b_some, l_eq]
    exact c1
theorem c_leadTo {o : Nat} (ho : o = 9 ∨ o = 12) {σ : Sg} {S N : Nat} (hN : N ≤ S) (hS : S ≤ 150) (h10 : σ 1 10 = nI S) (h : GP σ S) : ∃ τ', f_X2_leadTo o σ (nI N) = some (τ', 0) ∧ vC o τ' = rp σ N ∧ Fo o σ τ' := by
  obtain ⟨r, r4, er⟩ := h.2 0 (by omega)
  obtain ⟨τ1, a1, a2, a3⟩ := c_begin o σ (σ 1 11) (σ 1 12)
  obtain ⟨τ2, b1, b2, b3⟩ := c_obey o τ1 r4
  have f7 : τ1 7 0 = nI r := by rw [a3 7 (by omega) (by omega) (by omega)]; exact er
  obtain ⟨τ3, c1, c2, c3⟩ := c_leadL ho hN hS h10 h N 0 1000 τ2 (by omega) (by omega) (Fo_t a3 b3) (by
    rw [b2, a2]
    show _ = pObey (pB (σ 1 11) (σ 1 12)) (σ 7 0).toNatClampNeg
    rw [er, z_cl (n := r) (by omega)])
  refine ⟨τ3, ?_, c2, c3⟩
  unfold f_X2_leadTo
  rw [a1, b_some, show f_X5_at 7 151 τ1 0 = _ from r_at (a := 7) (n := 151) (k := 0) τ1 (by decide) (by decide), b_some, f7, b1, b_some]
  exact c1
end
section
/-! the game, of the class alone: what holds of its cells -/
abbrev Fc (σ τ : Sg) : Prop := ∀ o, ¬ (1 ≤ o ∧ o ≤ 14) → τ o = σ o
abbrev Fa (σ τ : Sg) : Prop := ∀ o, o < 12 ∨ 14 < o ∧ o < 200 → τ o = σ o
theorem Fa_t {a b c : Sg} (h1 : Fa a b) (h2 : Fa b c) : Fa a c := fun o h => (h2 o h).trans (h1 o h)
theorem Fa_r (a : Sg) : Fa a a := fun _ _ => rfl
def GS (σ : Sg) (k : Nat) : Prop := ∃ d b, d ≤ 6 ∧ b < 4 ∧ σ 2 k = nI d ∧ σ 3 k = nI b ∧ pCan (rp σ k) d b ∧ (σ 5 k = nI 0 ∨ σ 5 k = nI 1) ∧ (σ 6 k = 0 ∨ σ 6 k = 1)
def GR (σ : Sg) (k : Nat) : Prop := ∃ r, r < 4 ∧ σ 7 k = nI r
def FB (σ : Sg) : Prop := (0 ≤ (σ 1 11).toInt ∧ (σ 1 11).toInt ≤ 20) ∧ 0 ≤ (σ 1 12).toInt ∧ (σ 1 12).toInt ≤ 20
def GO (σ : Sg) (S : Nat) : Prop := S ≤ 150 ∧ σ 1 9 = 1 ∧ σ 1 10 = nI S ∧ (∀ k, k < S → GS σ k) ∧ (∀ k, k ≤ S → GR σ k) ∧ vC 9 σ = rp σ S ∧ FB σ
theorem GO_P {σ : Sg} {S : Nat} (h : GO σ S) : GP σ S := by
  obtain ⟨-, -, -, h1, h2, -⟩ := h
  refine ⟨fun k hk => ?_, fun k hk => h2 k hk⟩
  obtain ⟨d, b, a1, a2, a3, a4, a5, -⟩ := h1 k hk
  exact ⟨d, b, a1, a2, a3, a4, a5⟩
theorem rp_cc {σ τ : Sg} (h : ∀ o, o ≤ 11 → τ o = σ o) (n : Nat) : rp τ n = rp σ n :=
  rp_c (by rw [h 1 (by omega)]) (by rw [h 1 (by omega)]) n (fun i _ => by rw [h 2 (by omega)]) (fun i _ => by rw [h 3 (by omega)]) (fun i _ => by rw [h 7 (by omega)])
theorem rp_a {σ τ : Sg} (h : Fa σ τ) (n : Nat) : rp τ n = rp σ n := rp_cc (fun o ho => h o (by omega)) n
theorem GO_c {σ τ : Sg} (h : ∀ o, o ≤ 11 → τ o = σ o) {S : Nat} (H : GO σ S) : GO τ S := by
  unfold GO GS GR FB at *
  rw [h 1 (by omega), h 2 (by omega), h 3 (by omega), h 5 (by omega), h 6 (by omega), h 7 (by omega), rp_cc h S, vC_c (o := 9) (h 9 (by omega)) (h 10 (by omega)) (h 11 (by omega))]
  simp only [rp_cc h]
  exact H
theorem GO_a {σ τ : Sg} (h : Fa σ τ) {S : Nat} (H : GO σ S) : GO τ S := GO_c (fun o ho => h o (by omega)) H
theorem z_01 : (0 : Int32).toInt = 0 ∧ (1 : Int32).toInt = 1 := by decide
def rq (σ : Sg) : Nat → Ps
  | 0 => pB (σ 1 11) (σ 1 12)
  | n + 1 => pLead (rp σ n) (σ 2 n).toNatClampNeg (σ 3 n)
theorem rq_p (σ : Sg) (k : Nat) : rp σ k = pObey (rq σ k) (σ 7 k).toNatClampNeg := by
  cases k <;> rfl
theorem z_behind {S k : Nat} (hS : S ≤ 150) (hk : k < S) : nI S - 1 - nI k = nI (S - 1 - k) := by
  have l1 := z_01.2
  have eS : (nI S - 1).toInt = (S : Int) - 1 := by rw [z_sub (by rw [z_nI (by omega), l1]; omega), z_nI (by omega), l1]
  rw [z_eq, z_sub (by rw [eS, z_nI (by omega)]; omega), eS, z_nI (by omega), z_nI (by omega)]
  omega
theorem pEnd_7 (p : Ps) : pEnd p 7 = -4 := by
  unfold pEnd
  by_cases a : p 7 = -4
  · rw [if_pos a]; exact a
  · rw [if_neg a]; rfl
end
section
/-! a stroke -/
def pSb (p : Ps) (k b : Nat) : Int32 := if k = 0 then nI b else if k = 6 then p 11 else p 7
def pSs (p : Ps) (k : Nat) : Int32 := if k = 6 then 1 - p 6 else p 6
def pBeg (k : Nat) : Int32 := if k = 0 ∨ k = 6 then 1 else 0
theorem c_begins (σ : Sg) {k : Nat} (hk : k ≤ 6) : f_X2_begins σ (nI k) = some (σ, pBeg k) := by
  unfold f_X2_begins pBeg
  by_cases a : k = 0
  · rw [if_pos (show nI k = (0 : Int32) by rw [a]; rfl), if_pos (Or.inl a)]
  · rw [if_neg (show ¬ nI k = (0 : Int32) from nI_ne0 (by omega) (by omega))]
    by_cases b : k = 6
    · rw [if_pos (show nI k = (6 : Int32) by rw [b]; rfl), if_pos (Or.inr b)]
    · rw [if_neg (show ¬ nI k = (6 : Int32) from fun e => b ((nI_eq (b := 6) (by omega) (by decide)).1 e)), if_neg (fun z => z.elim a b)]
theorem c_note (σ : Sg) {i : Nat} (hi : i < 150) : f_X2_noteStriker σ (nI i) = some (q_wr (q_wr σ 4 i (σ 9 3)) 5 i (σ 9 2), 0) := by
  unfold f_X2_noteStriker f_X3_inPlay f_X3_side
  rw [b_some, r_set (a := 4) (n := 150) σ _ hi (by decide), b_some, b_some, r_set (a := 5) (n := 150) _ _ hi (by decide), b_some]
  rfl
theorem c_count (σ : Sg) {i : Nat} (hi : i < 150) : f_X2_take_J116 σ (nI i) = some (q_wr (q_wr σ 1 10 (nI (i + 1))) 7 (i + 1) 0, nI i) := by
  unfold f_X2_take_J116
  rw [ls_eq, nI_1, show q_wr σ 1 10 (nI (i + 1)) 1 10 = nI (i + 1) by rw [w_at, if_pos ⟨rfl, rfl⟩], r_set (a := 7) (n := 151) _ _ (show i + 1 < 151 by omega) (by decide), b_some]
theorem c_takes {σ : Sg} {S k b : Nat} (G : GO σ S) (hS : S < 150) (hk : k ≤ 6) (hb : b < 4) (w : pWin (rp σ S) = -4) (hc : pCan (rp σ S) k b) : ∃ σ1, f_X2_take σ (nI k) (nI b) = some (σ1, nI S) ∧ Fc σ σ1 ∧ (∀ j, σ1 1 j = if j = 10 then nI (S + 1) else σ 1 j) ∧ (∀ i, σ1 2 i = if i = S then nI k else σ 2 i) ∧ (∀ i, σ1 3 i = if i = S then nI b else σ 3 i) ∧ (∀ i, σ1 4 i = if i = S then pSb (rp σ S) k b else σ 4 i) ∧ (∀ i, σ1 5 i = if i = S then pSs (rp σ S) k else σ 5 i) ∧ (∀ i, σ1 6 i = if i = S then pWr (rp σ S) k (nI b) else σ 6 i) ∧ (∀ i, σ1 7 i = if i = S + 1 then 0 else σ 7 i) ∧ σ1 8 = σ 8 ∧ vC 9 σ1 = pLead (rp σ S) k (nI b) := by
  have h9 := G.2.1
  have h10 := G.2.2.1
  have hv := G.2.2.2.2.2.1
  have hV := rp_V (GO_P G) S (Nat.le_refl _)
  generalize hp : rp σ S = p at *
  have n10 : ¬ (1 : Int32) = 0 := by decide
  obtain ⟨r, a1, a2⟩ := c_allows 9 σ hk hb (by rw [hv]; exact hV)
  have hr : ¬ r = 0 := fun z => (a2.1 z) (by rw [hv]; exact ⟨w, hc⟩)
  unfold f_X2_take
  rw [if_neg (show ¬ σ 1 9 = 0 by rw [h9]; decide), a1, b_some, if_neg hr, h10, if_pos (show nI S < (150 : Int32) from nI_lt (b := 150) hS (by decide)), l_eq, r_set (a := 2) (n := 150) _ _ hS (by decide), b_some, r_set (a := 3) (n := 150) _ _ hS (by decide), b_some, c_isWrong 9 _ hk, b_some]
  have hv9 : vC 9 (q_wr (q_wr σ 2 S (nI k)) 3 S (nI b)) = p := by rw [vC_c (o := 9) (σ := σ) (by rw [w_ne _ _ _ (by decide), w_ne _ _ _ (by decide)]) (by rw [w_ne _ _ _ (by decide), w_ne _ _ _ (by decide)]) (by rw [w_ne _ _ _ (by decide), w_ne _ _ _ (by decide)])]; exact hv
  rw [hv9]
  have hw : (if pWr p k (nI b) = 0 then f_X2_take_J80 (q_wr (q_wr σ 2 S (nI k)) 3 S (nI b)) (nI k) (nI b) (nI S) (nI S) 0 else f_X2_take_J80 (q_wr (q_wr σ 2 S (nI k)) 3 S (nI b)) (nI k) (nI b) (nI S) (nI S) 1) = f_X2_take_J80 (q_wr (q_wr σ 2 S (nI k)) 3 S (nI b)) (nI k) (nI b) (nI S) (nI S) (pWr p k (nI b)) := by
    rcases pWr_01 p k (nI b) with e | e
    · rw [e, if_pos rfl]
    · rw [e, if_neg n10]
  rw [hw]
  unfold f_X2_take_J80 f_X2_take_J95
  rw [r_set (a := 6) (n := 150) _ _ hS (by decide), b_some, c_begins _ hk, b_some]
  by_cases kb : k = 0 ∨ k = 6
  · have e : pBeg k = 1 := by unfold pBeg; rw [if_pos kb]
    rw [e, if_neg n10]
    have F0 : ∀ o, o ≠ 2 → o ≠ 3 → o ≠ 6 → q_wr (q_wr (q_wr σ 2 S (nI k)) 3 S (nI b)) 6 S (pWr p k (nI b)) o = σ o := fun o x y z => by rw [w_ne _ _ _ z, w_ne _ _ _ y, w_ne _ _ _ x]
    have e2 : ∀ i, q_wr (q_wr (q_wr σ 2 S (nI k)) 3 S (nI b)) 6 S (pWr p k (nI b)) 2 i = if i = S then nI k else σ 2 i := fun i => by simp [w_at]
    have e3 : ∀ i, q_wr (q_wr (q_wr σ 2 S (nI k)) 3 S (nI b)) 6 S (pWr p k (nI b)) 3 i = if i = S then nI b else σ 3 i := fun i => by simp [w_at]
    have e6 : ∀ i, q_wr (q_wr (q_wr σ 2 S (nI k)) 3 S (nI b)) 6 S (pWr p k (nI b)) 6 i = if i = S then pWr p k (nI b) else σ 6 i := fun i => by simp [w_at]
    generalize q_wr (q_wr (q_wr σ 2 S (nI k)) 3 S (nI b)) 6 S (pWr p k (nI b)) = ρ at *
    have hvρ : vC 9 ρ = p := by rw [vC_c (o := 9) (F0 9 (by decide) (by decide) (by decide)) (F0 10 (by decide) (by decide) (by decide)) (F0 11 (by decide) (by decide) (by decide))]; exact hv
    obtain ⟨τ, l1, l2, l3⟩ := c_lead 9 ρ hk hb (by rw [hvρ]; exact hV) (by rw [hvρ]; exact hc)
    rw [hvρ] at l2
    rw [l1, b_some, c_begins _ hk, b_some, e, if_neg n10, c_note _ hS, b_some, c_count _ hS]
    have L : ∀ o, o ≠ 9 → o ≠ 10 → o ≠ 11 → τ o = ρ o := l3
    have t3 : τ 9 3 = pSb p k b := by
      show vC 9 τ 7 = _
      rw [l2]
      unfold pSb
      rcases kb with rfl | rfl
      · rfl
      · rfl
    have t2 : τ 9 2 = pSs p k := by
      show vC 9 τ 6 = _
      rw [l2]
      unfold pSs
      rcases kb with rfl | rfl
      · rfl
      · show upd (upd p 6 (1 - p 6)) (4 + (1 - p 6).toNatClampNeg) (p (4 + (1 - p 6).toNatClampNeg) - 1) 6 = _
        obtain ⟨t, t2, et, -⟩ := s_fl hV.2.1
        rw [et, z_cl (n := t) (by omega), u_ne _ _ (by omega)]
        rfl
    rw [t3, t2]
    refine ⟨_, rfl, fun o ho => ?_, fun j => ?_, fun i => ?_, fun i => ?_, fun i => ?_, fun i => ?_, fun i => ?_, fun i => ?_, ?_, ?_⟩
    · rw [w_ne _ _ _ (by omega), w_ne _ _ _ (by omega), w_ne _ _ _ (by omega), w_ne _ _ _ (by omega), L o (by omega) (by omega) (by omega), F0 o (by omega) (by omega) (by omega)]
    · rw [w_ne _ _ _ (by decide), w_at, w_ne _ _ _ (by decide), w_ne _ _ _ (by decide), L 1 (by decide) (by decide) (by decide), F0 1 (by decide) (by decide) (by decide)]
      simp
    · rw [w_ne _ _ _ (by decide), w_ne _ _ _ (by decide), w_ne _ _ _ (by decide), w_ne _ _ _ (by decide), L 2 (by decide) (by decide) (by decide)]
      exact e2 i
    · rw [w_ne _ _ _ (by decide), w_ne _ _ _ (by decide), w_ne _ _ _ (by decide), w_ne _ _ _ (by decide), L 3 (by decide) (by decide) (by decide)]
      exact e3 i
    · rw [w_ne _ _ _ (by decide), w_ne _ _ _ (by decide), w_ne _ _ _ (by decide), w_at, L 4 (by decide) (by decide) (by decide), F0 4 (by decide) (by decide) (by decide)]
      simp
    · rw [w_ne _ _ _ (by decide), w_ne _ _ _ (by decide), w_at, w_ne _ _ _ (by decide), L 5 (by decide) (by decide) (by decide), F0 5 (by decide) (by decide) (by decide)]
      simp
    · rw [w_ne _ _ _ (by decide), w_ne _ _ _ (by decide), w_ne _ _ _ (by decide), w_ne _ _ _ (by decide), L 6 (by decide) (by decide) (by decide)]
      exact e6 i
    · rw [w_at, w_ne _ _ _ (by decide), w_ne _ _ _ (by decide), w_ne _ _ _ (by decide), L 7 (by decide) (by decide) (by decide), F0 7 (by decide) (by decide) (by decide)]
      simp
    · rw [w_ne _ _ _ (by decide), w_ne _ _ _ (by decide), w_ne _ _ _ (by decide), w_ne _ _ _ (by decide), L 8 (by decide) (by decide) (by decide), F0 8 (by decide) (by decide) (by decide)]
    · rw [vC_c (o := 9) (σ := τ) (by rw [w_ne _ _ _ (by decide), w_ne _ _ _ (by decide), w_ne _ _ _ (by decide), w_ne _ _ _ (by decide)]) (by rw [w_ne _ _ _ (by decide), w_ne _ _ _ (by decide), w_ne _ _ _ (by decide), w_ne _ _ _ (by decide)]) (by rw [w_ne _ _ _ (by decide), w_ne _ _ _ (by decide), w_ne _ _ _ (by decide), w_ne _ _ _ (by decide)])]
      exact l2
  · have e : pBeg k = 0 := by unfold pBeg; rw [if_neg kb]
    rw [e, if_pos rfl, c_note _ hS, b_some]
    have x3 : q_wr (q_wr (q_wr σ 2 S (nI k)) 3 S (nI b)) 6 S (pWr p k (nI b)) 9 3 = pSb p k b := by
      rw [w_ne _ _ _ (by decide), w_ne _ _ _ (by decide), w_ne _ _ _ (by decide)]
      unfold pSb
      rw [if_neg (fun z => kb (Or.inl z)), if_neg (fun z => kb (Or.inr z)), ← hv]
      rfl
    have x2 : q_wr (q_wr (q_wr σ 2 S (nI k)) 3 S (nI b)) 6 S (pWr p k (nI b)) 9 2 = pSs p k := by
      rw [w_ne _ _ _ (by decide), w_ne _ _ _ (by decide), w_ne _ _ _ (by decide)]
      unfold pSs
      rw [if_neg (fun z => kb (Or.inr z)), ← hv]
      rfl
    rw [x3, x2]
    have F0 : ∀ o, o ≠ 2 → o ≠ 3 → o ≠ 4 → o ≠ 5 → o ≠ 6 → q_wr (q_wr (q_wr (q_wr (q_wr σ 2 S (nI k)) 3 S (nI b)) 6 S (pWr p k (nI b))) 4 S (pSb p k b)) 5 S (pSs p k) o = σ o := fun o x y x' y' z => by rw [w_ne _ _ _ y', w_ne _ _ _ x', w_ne _ _ _ z, w_ne _ _ _ y, w_ne _ _ _ x]
    have e2 : ∀ i, q_wr (q_wr (q_wr (q_wr (q_wr σ 2 S (nI k)) 3 S (nI b)) 6 S (pWr p k (nI b))) 4 S (pSb p k b)) 5 S (pSs p k) 2 i = if i = S then nI k else σ 2 i := fun i => by simp [w_at]
    have e3 : ∀ i, q_wr (q_wr (q_wr (q_wr (q_wr σ 2 S (nI k)) 3 S (nI b)) 6 S (pWr p k (nI b))) 4 S (pSb p k b)) 5 S (pSs p k) 3 i = if i = S then nI b else σ 3 i := fun i => by simp [w_at]
    have e4 : ∀ i, q_wr (q_wr (q_wr (q_wr (q_wr σ 2 S (nI k)) 3 S (nI b)) 6 S (pWr p k (nI b))) 4 S (pSb p k b)) 5 S (pSs p k) 4 i = if i = S then pSb p k b else σ 4 i := fun i => by simp [w_at]
    have e5 : ∀ i, q_wr (q_wr (q_wr (q_wr (q_wr σ 2 S (nI k)) 3 S (nI b)) 6 S (pWr p k (nI b))) 4 S (pSb p k b)) 5 S (pSs p k) 5 i = if i = S then pSs p k else σ 5 i := fun i => by simp [w_at]
    have e6 : ∀ i, q_wr (q_wr (q_wr (q_wr (q_wr σ 2 S (nI k)) 3 S (nI b)) 6 S (pWr p k (nI b))) 4 S (pSb p k b)) 5 S (pSs p k) 6 i = if i = S then pWr p k (nI b) else σ 6 i := fun i => by simp [w_at]
    generalize q_wr (q_wr (q_wr (q_wr (q_wr σ 2 S (nI k)) 3 S (nI b)) 6 S (pWr p k (nI b))) 4 S (pSb p k b)) 5 S (pSs p k) = ρ at *
    have hvρ : vC 9 ρ = p := by rw [vC_c (o := 9) (F0 9 (by decide) (by decide) (by decide) (by decide) (by decide)) (F0 10 (by decide) (by decide) (by decide) (by decide) (by decide)) (F0 11 (by decide) (by decide) (by decide) (by decide) (by decide))]; exact hv
    obtain ⟨τ, l1, l2, l3⟩ := c_lead 9 ρ hk hb (by rw [hvρ]; exact hV) (by rw [hvρ]; exact hc)
    rw [hvρ] at l2
    rw [l1, b_some, c_begins _ hk, b_some, e, if_pos rfl, c_count _ hS]
    have L : ∀ o, o ≠ 9 → o ≠ 10 → o ≠ 11 → τ o = ρ o := l3
    refine ⟨_, rfl, fun o ho => ?_, fun j => ?_, fun i => ?_, fun i => ?_, fun i => ?_, fun i => ?_, fun i => ?_, fun i => ?_, ?_, ?_⟩
    · rw [w_ne _ _ _ (by omega), w_ne _ _ _ (by omega), L o (by omega) (by omega) (by omega), F0 o (by omega) (by omega) (by omega) (by omega) (by omega)]
    · rw [w_ne _ _ _ (by decide), w_at, L 1 (by decide) (by decide) (by decide), F0 1 (by decide) (by decide) (by decide) (by decide) (by decide)]
      simp
    · rw [w_ne _ _ _ (by decide), w_ne _ _ _ (by decide), L 2 (by decide) (by decide) (by decide)]
      exact e2 i
    · rw [w_ne _ _ _ (by decide), w_ne _ _ _ (by decide), L 3 (by decide) (by decide) (by decide)]
      exact e3 i
    · rw [w_ne _ _ _ (by decide), w_ne _ _ _ (by decide), L 4 (by decide) (by decide) (by decide)]
      exact e4 i
    · rw [w_ne _ _ _ (by decide), w_ne _ _ _ (by decide), L 5 (by decide) (by decide) (by decide)]
      exact e5 i
    · rw [w_ne _ _ _ (by decide), w_ne _ _ _ (by decide), L 6 (by decide) (by decide) (by decide)]
      exact e6 i
    · rw [w_at, w_ne _ _ _ (by decide), L 7 (by decide) (by decide) (by decide), F0 7 (by decide) (by decide) (by decide) (by decide) (by decide)]
      simp
    · rw [w_ne _ _ _ (by decide), w_ne _ _ _ (by decide), L 8 (by decide) (by decide) (by decide), F0 8 (by decide) (by decide) (by decide) (by decide) (by decide)]
    · rw [vC_c (o := 9) (σ := τ) (by rw [w_ne _ _ _ (by decide), w_ne _ _ _ (by decide)]) (by rw [w_ne _ _ _ (by decide), w_ne _ _ _ (by decide)]) (by rw [w_ne _ _ _ (by decide), w_ne _ _ _ (by decide)])]
      exact l2
theorem k_take {σ : Sg} {S k b : Nat} (G : GO σ S) (hS : S < 150) (hk : k ≤ 6) (hb : b < 4) : f_X2_take σ (nI k) (nI b) = some (σ, -2) ∨ ∃ σ1, f_X2_take σ (nI k) (nI b) = some (σ1, nI S) ∧ Fc σ σ1 ∧ GO σ1 (S + 1) ∧ ∀ n, n ≤ S → rp σ1 n = rp σ n := by
  have h9 := G.2.1
  have h10 := G.2.2.1
  have hv := G.2.2.2.2.2.1
  have hP := GO_P G
  have hV := rp_V hP S (Nat.le_refl _)
  by_cases ok : pWin (rp σ S) = -4 ∧ pCan (rp σ S) k b
  · right
    obtain ⟨σ1, a1, F, b1, b2, b3, b4, b5, b6, b7, b8, bv⟩ := c_takes G hS hk hb ok.1 ok.2
    have RP : ∀ n, n ≤ S → rp σ1 n = rp σ n := fun n h => rp_c (by rw [b1]; rfl) (by rw [b1]; rfl) n (fun i hi => by rw [b2, if_neg (by omega)]) (fun i hi => by rw [b3, if_neg (by omega)]) (fun i hi => by rw [b7, if_neg (by omega)])
    refine ⟨σ1, a1, F, ⟨by omega, ?_, ?_, fun i hi => ?_, fun i hi => ?_, ?_, ?_⟩, RP⟩
    · rw [b1, if_neg (by decide)]; exact h9
    · rw [b1, if_pos rfl]
    · by_cases e : i = S
      · subst e
        obtain ⟨t, ht, et, et', ets⟩ := s_fl hV.2.1
        refine ⟨k, b, hk, hb, ?_, ?_, ?_, ?_, ?_⟩
        · rw [b2, if_pos rfl]
        · rw [b3, if_pos rfl]
        · rw [RP i (Nat.le_refl _)]; exact ok.2
        · rw [b5, if_pos rfl]
          unfold pSs
          by_cases k6 : k = 6
          · rw [if_pos k6]; exact et'
          · rw [if_neg k6]; exact hV.2.1
        · rw [b6, if_pos rfl]
          exact pWr_01 _ _ _
      · have g := G.2.2.2.1 i (by omega)
        unfold GS at g ⊢
        rw [b2, if_neg e, b3, if_neg e, b5, if_neg e, b6, if_neg e, RP i (by omega)]
        exact g
    · by_cases e : i = S + 1
      · exact ⟨0, by decide, by rw [b7, if_pos e]; rfl⟩
      · have g := G.2.2.2.2.1 i (by omega)
        unfold GR at g ⊢
        rw [b7, if_neg e]
        exact g
    · rw [bv]
      show _ = pObey (pLead (rp σ1 S) (σ1 2 S).toNatClampNeg (σ1 3 S)) (σ1 7 (S + 1)).toNatClampNeg
      rw [RP S (Nat.le_refl _), b2, if_pos rfl, b3, if_pos rfl, b7, if_pos rfl, z_cl (n := k) (by omega)]
      rfl
    · have f := G.2.2.2.2.2.2
      unfold FB at f ⊢
      rw [b1, b1, if_neg (by decide), if_neg (by decide)]
      exact f
  · left
    obtain ⟨r, a1, a2⟩ := c_allows 9 σ hk hb (by rw [hv]; exact hV)
    have hr : r = 0 := a2.2 (by rw [hv]; exact ok)
    unfold f_X2_take
    rw [if_neg (show ¬ σ 1 9 = 0 by rw [h9]; decide), a1, b_some, if_pos hr]
theorem k_stroke {σ : Sg} {S k b : Nat} (G : GO σ S) (hS : S < 150) (hk : k ≤ 6) (hb : b < 4) : f_X5_stroke σ (nI k) (nI b) = some (σ, -2) ∨ ∃ σ1, f_X5_stroke σ (nI k) (nI b) = some (σ1, nI S) ∧ Fc σ σ1 ∧ GO σ1 (S + 1) ∧ ∀ n, n ≤ S → rp σ1 n = rp σ n := by
  have n10 : ¬ (1 : Int32) = 0 := by decide
  have wk : (0 : Int32) ≤ nI k ∧ nI k ≤ 6 := ⟨nI_pos' (by omega), nI_le (b := 6) hk (by omega)⟩
  have wb : (0 : Int32) ≤ nI b ∧ nI b ≤ 3 := ⟨nI_pos' (by omega), nI_le (b := 3) (by omega) (by omega)⟩
  unfold f_X5_stroke f_X5_stroke_J21
  rw [r_within, b_some, if_pos wk, if_neg n10]
  unfold f_X5_stroke_J26 f_X5_stroke_J42
  by_cases ab : nI k = 0 ∨ nI k = 3
  · have sel : ∀ (A C : Rs), (if nI k = 0 then A else if nI k = 3 then A else C) = A := by
      intro A C
      by_cases e : nI k = 0
      · rw [if_pos e]
      · rw [if_neg e, if_pos (ab.resolve_left e)]
    rw [sel, if_neg n10, r_within, b_some, if_pos wb, if_neg n10, if_neg n10]
    rcases k_take G hS hk hb with h | ⟨σ1, h, r⟩
    · left
      rw [h, b_some]
    · right
      exact ⟨σ1, by rw [h, b_some], r⟩
  · have sel : ∀ (A B C : Rs), (if nI k = 0 then A else if nI k = 3 then B else C) = C := by
      intro A B C
      rw [if_neg (fun z => ab (Or.inl z)), if_neg (fun z => ab (Or.inr z))]
    rw [sel, if_pos rfl, if_pos rfl]
    rcases k_take G hS hk (b := 0) (by decide) with h | ⟨σ1, h, r⟩
    · left
      rw [show f_X2_take σ (nI k) 0 = _ from h, b_some]
    · right
      exact ⟨σ1, by rw [show f_X2_take σ (nI k) 0 = _ from h, b_some], r⟩
end
section
/-! what is asked about the game: told, state, count; the law's number for a position -/
theorem k_has {σ : Sg} {S k : Nat} (G : GO σ S) (hk : k < S) : f_X2_has σ (nI k) = some (σ, 1) := by
  have hS := G.1
  unfold f_X2_has
  rw [if_neg (show ¬ nI k < 0 from nI_pos (by omega)), G.2.2.1, if_neg (nI_ge hk (by omega))]
theorem k_told0 {σ : Sg} {S k : Nat} (G : GO σ S) (hk : k < S) : f_X5_told σ (nI k) 0 = some (σ, σ 2 k) := by
  have hS := G.1
  have n10 : ¬ (1 : Int32) = 0 := by decide
  unfold f_X5_told f_X2_tell
  rw [if_neg (show ¬ nI k < 0 from nI_pos (by omega)), r_within, b_some, if_pos (show (0 : Int32) ≤ 0 ∧ (0 : Int32) ≤ 3 by decide), if_neg n10, k_has G hk, b_some, if_neg n10, if_neg (by decide), if_neg (by decide), if_pos (by decide), r_at (a := 2) (n := 150) σ (show k < 150 by omega) (by decide), b_some, b_some]
theorem k_told3 {σ : Sg} {S k : Nat} (G : GO σ S) (hk : k < S) : f_X5_told σ (nI k) 3 = some (σ, σ 6 k) := by
  have hS := G.1
  have n10 : ¬ (1 : Int32) = 0 := by decide
  unfold f_X5_told f_X2_tell
  rw [if_neg (show ¬ nI k < 0 from nI_pos (by omega)), r_within, b_some, if_pos (show (0 : Int32) ≤ 3 ∧ (3 : Int32) ≤ 3 by decide), if_neg n10, k_has G hk, b_some, if_neg n10, if_neg (by decide), if_pos (by decide), r_at (a := 6) (n := 150) σ (show k < 150 by omega) (by decide), b_some, b_some]
theorem k_state {σ : Sg} {S k q : Nat} (G : GO σ S) (hk : k ≤ S) (hq : q < 12) : ∃ σ1, f_X5_state σ (nI k) (nI q) = some (σ1, pTell (rp σ k) q) ∧ Fa σ σ1 := by
  have hS := G.1
  have n10 : ¬ (1 : Int32) = 0 := by decide
  obtain ⟨σ1, a1, a2, a3⟩ := c_leadTo (o := 12) (Or.inr rfl) hk hS G.2.2.1 (GO_P G)
  refine ⟨σ1, ?_, fun o ho => a3 o (by omega) (by omega) (by omega)⟩
  unfold f_X5_state f_X2_asOf
  rw [r_within, b_some, if_pos (show 0 ≤ nI q ∧ nI q ≤ 11 from ⟨nI_pos' (by omega), nI_le (b := 11) (by omega) (by omega)⟩), if_neg n10, if_neg (show ¬ σ 1 9 = 0 by rw [G.2.1]; decide), G.2.2.1, if_neg (nI_pos (by omega)), if_pos (nI_le (by omega) (by omega)), a1, b_some, c_tell 12 σ1 hq, b_some, b_some, a2]
/-- the law's number: eleven and more to a place -/
def Tq (p : Ps) : Nat → Int64
  | 0 => 0
  | q + 1 => (((41 : Int64) * Tq p q) + (pTell p q).toInt64) + 5
theorem lj_eq (x : Int64) (f : Int64 → Rs) : q_letJ x f = f x := rfl
theorem k_tellL {S k : Nat} (hk : k ≤ S) {p : Ps} : ∀ (d j q : Nat) (τ : Sg), j + d = 12 → d < q → GO τ S → rp τ k = p → ∃ τ', f_L_told_L5 q τ (nI k) (Tq p j) (nI j) = some (τ', 0) ∧ Fa τ τ' ∧ q_lg τ' 200 0 = Tq p 12 := by
  intro d
  induction d with
  | zero =>
    intro j q τ hj hq G hp
    obtain ⟨q, rfl⟩ : ∃ p, q = p + 1 := ⟨q - 1, by omega⟩
    have : j = 12 := by omega
    subst this
    refine ⟨q_wrl τ 200 0 (Tq p 12), ?_, fun o ho => q_wrl_ne (by omega), q_lg_wrl _ _ _ _⟩
    show s_L_told_L5 (f_L_told_L5 q) τ (nI k) (Tq p 12) (nI 12) = _
    unfold s_L_told_L5
    rw [if_pos (by decide)]
  | succ d ih =>
    intro j q τ hj hq G hp
    obtain ⟨q, rfl⟩ : ∃ p, q = p + 1 := ⟨q - 1, by omega⟩
    obtain ⟨τ1, a1, a2⟩ := k_state G hk (q := j) (by omega)
    obtain ⟨τ2, b1, b2, b3⟩ := ih (j + 1) q τ1 (by omega) (by omega) (GO_a a2 G) (by rw [rp_a a2]; exact hp)
    refine ⟨τ2, ?_, Fa_t a2 b2, b3⟩
    show s_L_told_L5 (f_L_told_L5 q) τ (nI k) (Tq p j) (nI j) = _
    unfold s_L_told_L5
    rw [if_neg (show ¬ (12 : Int32) ≤ nI j from nI_ge (b := 12) (by omega) (by decide)), a1, b_some, lj_eq, l_eq, nI_1, hp]
    exact b1
theorem k_tell {σ : Sg} {S k : Nat} (G : GO σ S) (hk : k ≤ S) : ∃ σ', f_L_told σ (nI k) = some (σ', 0) ∧ Fa σ σ' ∧ q_lg σ' 200 0 = Tq (rp σ k) 12 :=
  k_tellL hk 12 0 1000 σ (by omega) (by omega) G rfl
/-- what is counted -/
def cn (σ : Sg) (j : Nat) : Nat → Int32
  | 0 => 0
  | k + 1 => cn σ j k + (if j = 0 then 1 else σ 6 k)
theorem cn_0 (σ : Sg) : ∀ k, cn σ 0 k = nI k := by
  intro k
  induction k with
  | zero => rfl
  | succ k ih =>
    show cn σ 0 k + 1 = _
    rw [ih, nI_1]
theorem k_countS {σ : Sg} {S k j : Nat} (G : GO σ S) (hk : k < S) (hj : j < 2) (acc : Int32) (r1 : Sg → Int32 → Int32 → Int32 → Rs) : s_X2_total_L4 r1 σ (nI j) acc (nI k) = r1 σ (nI j) (acc + (if j = 0 then 1 else σ 6 k)) (nI (k + 1)) := by
  have hS := G.1
  have h10 := G.2.2.1
  obtain ⟨d, b', a1, a2, a3, a4, a5, a6, a12⟩ := G.2.2.2.1 k hk
  have n10 : ¬ (1 : Int32) = 0 := by decide
  have l1 : ¬ (nI S ≤ nI k) := nI_ge hk (by omega)
  have l2 : ¬ ((150 : Int32) ≤ nI k) := nI_ge (b := 150) (by omega) (by decide)
  have acc0 : acc + 0 = acc := by simp
  unfold s_X2_total_L4
  rw [h10, if_neg l1, if_neg l2]
  unfold f_X2_counts
  match j, hj with
  | 0, _ => rw [if_pos (show nI 0 = (0 : Int32) from rfl), b_some, if_neg n10, l_eq, l_eq, nI_1, if_pos rfl]
  | 1, _ =>
    have e6 : f_X5_at 6 150 σ (nI k) = some (σ, σ 6 k) := r_at (a := 6) (n := 150) σ (show k < 150 by omega) (by decide)
    rw [if_neg (show ¬ nI 1 = (0 : Int32) by decide), if_pos (show nI 1 = (1 : Int32) from rfl), e6, b_some, if_neg (show ¬ (1 : Nat) = 0 by decide)]
    rcases a12 with z | z
    · rw [z, if_neg (show ¬ (0 : Int32) = 1 by decide), b_some, if_pos rfl, l_eq, nI_1, acc0]
    · rw [z, if_pos rfl, b_some, if_neg n10, l_eq, l_eq, nI_1]
  | n + 2, h => exact absurd h (by omega)
theorem k_countL {σ : Sg} {S j : Nat} (G : GO σ S) (hj : j < 2) : ∀ (d k q : Nat), k + d = S → d < q → f_X2_total_L4 q σ (nI j) (cn σ j k) (nI k) = some (σ, cn σ j S) := by
  have hS := G.1
  have h10 := G.2.2.1
  intro d
  induction d with
  | zero =>
    intro k q hk hq
    obtain ⟨q, rfl⟩ : ∃ p, q = p + 1 := ⟨q - 1, by omega⟩
    have : k = S := by omega
    subst this
    show s_X2_total_L4 (f_X2_total_L4 q) σ (nI j) (cn σ j k) (nI k) = _
    unfold s_X2_total_L4
    rw [h10, if_pos (nI_le (Nat.le_refl _) (by omega))]
  | succ d ih =>
    intro k q hk hq
    obtain ⟨q, rfl⟩ : ∃ p, q = p + 1 := ⟨q - 1, by omega⟩
    exact (k_countS G (show k < S by omega) hj (cn σ j k) (f_X2_total_L4 q)).trans (ih (k + 1) q (by omega) (by omega))
theorem k_count {σ : Sg} {S j : Nat} (G : GO σ S) (hj : j < 2) : f_X5_count σ (nI j) = some (σ, cn σ j S) := by
  have hS := G.1
  unfold f_X5_count f_X2_total
  rw [r_within, b_some, if_pos (show (0 : Int32) ≤ nI j ∧ nI j ≤ 2 from ⟨nI_pos' (by omega), nI_le (b := 2) (by omega) (by omega)⟩), if_neg (show ¬ (1 : Int32) = 0 by decide), show f_X2_total_L4 1000 σ (nI j) 0 0 = _ from k_countL G hj S 0 1000 (by omega) (by omega), b_some]
end
section
/-! a wrong stroke is found -/
theorem one_s {s : Nat} (h : s < 2) : (3 : Int32) - nI s = nI (3 - s) := by
  match s, h with
  | 0, _ => decide
  | 1, _ => decide
  | n + 2, h => exact absurd h (by omega)
theorem k_away {σ : Sg} {S k : Nat} (G : GO σ S) (hk : k < S) : ∃ σ1, f_X2_takeAway σ (nI k) = some (σ1, 1) ∧ Fc σ σ1 ∧ GO σ1 k ∧ (∀ n, n < k → rp σ1 n = rp σ n) ∧ rp σ1 k 7 = -4 ∧ rp σ1 k 8 = 0 := by
  have hS := G.1
  have h9 := G.2.1
  have h10 := G.2.2.1
  have hP := GO_P G
  obtain ⟨d, b, a1, a2, a3, a4, a7, a10, a12⟩ := G.2.2.2.1 k hk
  obtain ⟨s, s2, es, e3⟩ : ∃ s, s < 2 ∧ σ 5 k = nI s ∧ 3 - σ 5 k = nI (3 - s) := by
    rcases a10 with e | e
    · exact ⟨0, by decide, e, by rw [e]; decide⟩
    · exact ⟨1, by decide, e, by rw [e]; decide⟩
  have m1 : ∀ o, o ≠ 7 → o ≠ 1 → q_wr (q_wr σ 7 k (nI (3 - s))) 1 10 (nI k) o = σ o := fun o x y => by rw [w_ne _ _ _ y, w_ne _ _ _ x]
  have m2 : ∀ i, q_wr (q_wr σ 7 k (nI (3 - s))) 1 10 (nI k) 7 i = if i = k then nI (3 - s) else σ 7 i := fun i => by simp [w_at]
  have m3 : ∀ i, q_wr (q_wr σ 7 k (nI (3 - s))) 1 10 (nI k) 1 i = if i = 10 then nI k else σ 1 i := fun i => by simp [w_at]
  have start : f_X2_takeAway σ (nI k) = q_bnd (f_X2_leadTo 9 (q_wr (q_wr σ 7 k (nI (3 - s))) 1 10 (nI k)) (nI k)) fun s6 _ => some (s6, 1) := by
    unfold f_X2_takeAway
    rw [r_at (a := 5) (n := 150) σ (show k < 150 by omega) (by decide), b_some, e3, r_set (a := 7) (n := 151) σ _ (show k < 151 by omega) (by decide), b_some, ls_eq, m3, if_pos rfl]
  rw [start]
  generalize q_wr (q_wr σ 7 k (nI (3 - s))) 1 10 (nI k) = ρ at *
  have RP : ∀ n, n < k → rp ρ n = rp σ n := fun n hn => rp_c (by rw [m3]; rfl) (by rw [m3]; rfl) n (fun i _ => by rw [m1 2 (by decide) (by decide)]) (fun i _ => by rw [m1 3 (by decide) (by decide)]) (fun i hi => by rw [m2, if_neg (by omega)])
  have P1 : GP ρ k := by
    refine ⟨fun j hj => ?_, fun j hj => ?_⟩
    · obtain ⟨x1, x2, x3, x4, x5, x6, x7⟩ := hP.1 j (by omega)
      exact ⟨x1, x2, x3, x4, by rw [m1 2 (by decide) (by decide)]; exact x5, by rw [m1 3 (by decide) (by decide)]; exact x6, by rw [RP j hj]; exact x7⟩
    · by_cases e : j = k
      · exact ⟨3 - s, by omega, by rw [m2, if_pos e]⟩
      · obtain ⟨x1, x2, x3⟩ := hP.2 j (by omega)
        exact ⟨x1, x2, by rw [m2, if_neg e]; exact x3⟩
  obtain ⟨σ1, l1, l2, l3⟩ := c_leadTo (o := 9) (Or.inl rfl) (Nat.le_refl k) (by omega) (by rw [m3, if_pos rfl]) P1
  have L : ∀ o, o ≠ 9 → o ≠ 10 → o ≠ 11 → σ1 o = ρ o := l3
  have F : Fc σ σ1 := fun o ho => by rw [L o (by omega) (by omega) (by omega), m1 o (by omega) (by omega)]
  have B : ∀ o, o ≠ 9 → o ≠ 10 → o ≠ 11 → o ≠ 7 → o ≠ 1 → σ1 o = σ o := fun o x5 x6 x7 x8 x9 => by rw [L o x5 x6 x7, m1 o x8 x9]
  have L1 := L 1 (by decide) (by decide) (by decide)
  have L7 := L 7 (by decide) (by decide) (by decide)
  have B2 := B 2 (by decide) (by decide) (by decide) (by decide) (by decide)
  have B3 := B 3 (by decide) (by decide) (by decide) (by decide) (by decide)
  have B5 := B 5 (by decide) (by decide) (by decide) (by decide) (by decide)
  have B6 := B 6 (by decide) (by decide) (by decide) (by decide) (by decide)
  have RQ : ∀ n, rp σ1 n = rp ρ n := fun n => rp_c (by rw [L1]) (by rw [L1]) n (fun j _ => by rw [L 2 (by decide) (by decide) (by decide)]) (fun j _ => by rw [L 3 (by decide) (by decide) (by decide)]) (fun j _ => by rw [L7])
  have R2 : ∀ n, n < k → rp σ1 n = rp σ n := fun n hn => (RQ n).trans (RP n hn)
  have stop : rp σ1 k = pStop (rq σ1 k) (nI (1 - s)) := by
    rw [rq_p, L7, m2, if_pos rfl, z_cl (n := 3 - s) (by omega)]
    match s, s2 with
    | 0, _ => rfl
    | 1, _ => rfl
    | n + 2, h => exact absurd h (by omega)
  refine ⟨σ1, by rw [l1, b_some], F, ⟨by omega, ?_, ?_, fun i hi => ?_, fun i hi => ?_, ?_, ?_⟩, R2, by rw [stop]; rfl, by rw [stop]; rfl⟩
  · rw [L1, m3, if_neg (by decide)]; exact h9
  · rw [L1, m3, if_pos rfl]
  · have g := G.2.2.2.1 i (by omega)
    unfold GS at g ⊢
    rw [R2 i hi, B2, B3, B5, B6]
    exact g
  · have g := G.2.2.2.2.1 i (by omega)
    unfold GR at g ⊢
    rw [L7, m2]
    by_cases e : i = k
    · rw [if_pos e]
      exact ⟨3 - s, by omega, rfl⟩
    · rw [if_neg e]
      exact g
  · rw [l2]
    exact (RQ k).symm
  · have f := G.2.2.2.2.2.2
    unfold FB at f ⊢
    rw [L1, m3, m3, if_neg (by decide), if_neg (by decide)]
    exact f
theorem k_stop {σ : Sg} {S k : Nat} (G : GO σ S) (hk : k < S) : ∃ σ1, f_X2_stopTurn σ (nI k) = some (σ1, 2) ∧ Fc σ σ1 ∧ GO σ1 S ∧ (∀ n, n < S → rp σ1 n = rp σ n) ∧ rp σ1 S 7 = -4 ∧ σ1 6 k = 0 ∧ σ1 2 = σ 2 := by
  have hS := G.1
  have h9 := G.2.1
  have h10 := G.2.2.1
  have hvC := G.2.2.2.2.2.1
  have hP := GO_P G
  have s6 : f_X5_set 6 150 σ (nI k) 0 = some (q_wr σ 6 k 0, 0) := r_set (a := 6) (n := 150) σ _ (show k < 150 by omega) (by decide)
  have y6 : ∀ i, q_wr σ 6 k 0 6 i = if i = k then 0 else σ 6 i := fun i => by simp [w_at]
  have g6 : ∀ (τ : Sg), (∀ i, τ 6 i = if i = k then 0 else σ 6 i) → τ 2 = σ 2 → τ 3 = σ 3 → τ 5 = σ 5 → ∀ i, i < S → rp τ i = rp σ i → GS τ i := by
    intro τ x6 e2 e3 e5 i hi hr
    have g := G.2.2.2.1 i hi
    unfold GS at g ⊢
    rw [hr, x6, e2, e3, e5]
    obtain ⟨d, b, b1, b2, b3, b4, b7, b10, b12⟩ := g
    refine ⟨d, b, b1, b2, b3, b4, b7, b10, ?_⟩
    by_cases e : i = k
    · rw [if_pos e]; exact Or.inl rfl
    · rw [if_neg e]; exact b12
  by_cases a7 : rp σ S 7 = -4
  · have N : ∀ o, o ≠ 6 → q_wr σ 6 k 0 o = σ o := fun o h => w_ne _ _ _ h
    have F : Fc σ (q_wr σ 6 k 0) := fun o ho => N o (by omega)
    have e97 : q_wr σ 6 k 0 9 3 = -4 := by
      rw [N 9 (by decide)]
      have : vC 9 σ 7 = -4 := by rw [hvC]; exact a7
      exact this
    have RP : ∀ n, rp (q_wr σ 6 k 0) n = rp σ n := fun n => rp_c (by rw [N 1 (by decide)]) (by rw [N 1 (by decide)]) n (fun i _ => by rw [N 2 (by decide)]) (fun i _ => by rw [N 3 (by decide)]) (fun i _ => by rw [N 7 (by decide)])
    refine ⟨q_wr σ 6 k 0, ?_, F, ⟨hS, ?_, ?_, fun i hi => g6 _ y6 (N 2 (by decide)) (N 3 (by decide)) (N 5 (by decide)) i hi (RP i), fun i hi => ?_, ?_, ?_⟩, fun n _ => RP n, by rw [RP]; exact a7, by rw [y6, if_pos rfl], N 2 (by decide)⟩
    · unfold f_X2_stopTurn f_X3_inPlay
      rw [s6, b_some, b_some, if_pos e97]
    · rw [N 1 (by decide)]; exact h9
    · rw [N 1 (by decide)]; exact h10
    · have g := G.2.2.2.2.1 i hi
      unfold GR at g ⊢
      rw [N 7 (by decide)]
      exact g
    · rw [vC_c (o := 9) (σ := σ) (N 9 (by decide)) (N 10 (by decide)) (N 11 (by decide)), RP]
      exact hvC
    · have f := G.2.2.2.2.2.2
      unfold FB at f ⊢
      rw [N 1 (by decide)]
      exact f
  · have r0 : σ 7 S = nI 0 := by
      obtain ⟨r, r4, er⟩ := G.2.2.2.2.1 S (Nat.le_refl _)
      have hr : rp σ S = pObey (rq σ S) r := by rw [rq_p, er, z_cl (n := r) (by omega)]
      match r, r4 with
      | 0, _ => exact er
      | 1, _ =>
        exfalso
        apply a7
        rw [hr]
        exact pEnd_7 _
      | 2, _ =>
        exfalso
        apply a7
        rw [hr]
        rfl
      | 3, _ =>
        exfalso
        apply a7
        rw [hr]
        rfl
      | n + 4, h => exact absurd h (by omega)
    have e97 : ¬ q_wr σ 6 k 0 9 3 = -4 := by
      rw [w_ne _ _ _ (by decide)]
      have : ¬ vC 9 σ 7 = -4 := by rw [hvC]; exact a7
      exact this
    have vρ : vC 9 (q_wr (q_wr σ 6 k 0) 7 S 1) = rp σ S := by
      rw [vC_c (o := 9) (σ := σ) (by rw [w_ne _ _ _ (by decide), w_ne _ _ _ (by decide)]) (by rw [w_ne _ _ _ (by decide), w_ne _ _ _ (by decide)]) (by rw [w_ne _ _ _ (by decide), w_ne _ _ _ (by decide)])]
      exact hvC
    obtain ⟨σ1, l1, l2, l3⟩ := c_end 9 (q_wr (q_wr σ 6 k 0) 7 S 1)
    rw [vρ] at l2
    have L : ∀ o, o ≠ 9 → o ≠ 10 → o ≠ 11 → σ1 o = q_wr (q_wr σ 6 k 0) 7 S 1 o := l3
    have B : ∀ o, o ≠ 6 ∧ o ≠ 7 ∧ o ≠ 9 ∧ o ≠ 10 ∧ o ≠ 11 → σ1 o = σ o := fun o h => by rw [L o h.2.2.1 h.2.2.2.1 h.2.2.2.2, w_ne _ _ _ h.2.1, w_ne _ _ _ h.1]
    have F : Fc σ σ1 := fun o ho => B o ⟨by omega, by omega, by omega, by omega, by omega⟩
    have x6 : ∀ i, σ1 6 i = if i = k then 0 else σ 6 i := fun i => by
      rw [L 6 (by decide) (by decide) (by decide), w_ne _ _ _ (by decide), w_at]
      simp
    have x7 : ∀ i, σ1 7 i = if i = S then 1 else σ 7 i := fun i => by
      rw [L 7 (by decide) (by decide) (by decide), w_at, w_ne _ _ _ (by decide)]
      simp
    have RP : ∀ n, n < S → rp σ1 n = rp σ n := fun n hn => rp_c (by rw [B 1 (by decide)]) (by rw [B 1 (by decide)]) n (fun i _ => by rw [B 2 (by decide)]) (fun i _ => by rw [B 3 (by decide)]) (fun i hi => by rw [x7, if_neg (by omega)])
    have RQ : rq σ1 S = rq σ S := by
      obtain ⟨n, rfl⟩ : ∃ n, S = n + 1 := ⟨S - 1, by omega⟩
      show pLead (rp σ1 n) (σ1 2 n).toNatClampNeg (σ1 3 n) = pLead (rp σ n) (σ 2 n).toNatClampNeg (σ 3 n)
      rw [RP n (by omega), B 2 (by decide), B 3 (by decide)]
    have R1 : rp σ1 S = pEnd (rp σ S) := by
      rw [rq_p σ1, RQ, x7, if_pos rfl, rq_p σ, r0]
      rfl
    refine ⟨σ1, ?_, F, ⟨hS, ?_, ?_, fun i hi => g6 _ x6 (B 2 (by decide)) (B 3 (by decide)) (B 5 (by decide)) i hi (RP i hi), fun i hi => ?_, ?_, ?_⟩, RP, by rw [R1]; exact pEnd_7 _, by rw [x6, if_pos rfl], B 2 (by decide)⟩
    · unfold f_X2_stopTurn f_X3_inPlay
      rw [s6, b_some, b_some, if_neg e97, show q_wr σ 6 k 0 1 10 = nI S by rw [w_ne _ _ _ (by decide)]; exact h10, r_set (a := 7) (n := 151) _ _ (show S < 151 by omega) (by decide), b_some, l1, b_some]
    · rw [B 1 (by decide)]; exact h9
    · rw [B 1 (by decide)]; exact h10
    · have g := G.2.2.2.2.1 i hi
      unfold GR at g ⊢
      rw [x7]
      by_cases e : i = S
      · rw [if_pos e]
        exact ⟨1, by decide, rfl⟩
      · rw [if_neg e]
        exact g
    · rw [l2, R1]
    · have f := G.2.2.2.2.2.2
      unfold FB at f ⊢
      rw [B 1 (by decide)]
      exact f
theorem k_letter (σ : Sg) (kind m : Int32) : ∃ r, f_X0_letterFor σ kind m = some (σ, r) := by
  have J : ∀ k, k < 2 → ∃ r, f_X0_letterFor_J9 σ m (nI k) = some (σ, r) := by
    intro k hk
    unfold f_X0_letterFor_J9
    rw [r_at (a := 17) (n := 2) σ hk (by decide), b_some]
    by_cases q : σ 17 k < m
    · rw [if_pos q]
      exact ⟨_, rfl⟩
    · rw [if_neg q, r_at (a := 18) (n := 2) σ hk (by decide), b_some]
      exact ⟨_, rfl⟩
  unfold f_X0_letterFor
  by_cases q : kind = 0
  · rw [if_pos q]; exact J 0 (by decide)
  · rw [if_neg q]; exact J 1 (by decide)
theorem k_found {σ : Sg} {S k : Nat} (G : GO σ S) (hk : k < S) : f_X5_found σ (nI k) = some (σ, -2) ∨ (σ 6 k = 1 ∧ ∃ σ1, f_X5_found σ (nI k) = some (σ1, 1) ∧ Fc σ σ1 ∧ GO σ1 k ∧ (∀ n, n < k → rp σ1 n = rp σ n) ∧ rp σ1 k 7 = -4 ∧ rp σ1 k 8 = 0) ∨ (σ 6 k = 1 ∧ ∃ σ1, f_X5_found σ (nI k) = some (σ1, 2) ∧ Fc σ σ1 ∧ GO σ1 S ∧ (∀ n, n < S → rp σ1 n = rp σ n) ∧ rp σ1 S 7 = -4 ∧ σ1 6 k = 0 ∧ σ1 2 = σ 2) := by
  have n10 : ¬ (1 : Int32) = 0 := by decide
  have hS := G.1
  have h10 := G.2.2.1
  obtain ⟨d, b, a1, a2, a3, a4, a7, a10, a12⟩ := G.2.2.2.1 k hk
  unfold f_X5_found f_X2_find
  rw [k_has G hk, b_some, if_neg n10, r_at (a := 6) (n := 150) σ (show k < 150 by omega) (by decide), b_some]
  rcases a12 with w | w
  · left
    rw [if_pos w, b_some]
  · rw [if_neg (show ¬ σ 6 k = 0 by rw [w]; decide), r_at (a := 2) (n := 150) σ (show k < 150 by omega) (by decide), b_some]
    obtain ⟨r, hr⟩ := k_letter σ (σ 2 k) (σ 1 10 - 1 - nI k)
    rw [hr, b_some]
    by_cases e : r = -4
    · left
      rw [if_pos e, b_some]
    · right
      rw [if_neg e]
      by_cases e2 : r = 82
      · left
        obtain ⟨σ1, x1, x2⟩ := k_away G hk
        exact ⟨w, σ1, by rw [if_pos e2, x1, b_some, b_some], x2⟩
      · right
        obtain ⟨σ1, x1, x2⟩ := k_stop G hk
        exact ⟨w, σ1, by rw [if_neg e2, x1, b_some, b_some], x2⟩
end
section
/-! how large a position's numbers are; hoops rise by one at most; the law's number is not below 0 -/
def BH (p : Ps) : Prop := (∀ i, i < 4 → 0 ≤ (p i).toInt ∧ (p i).toInt ≤ 7) ∧ ∀ i, i < 2 → 0 ≤ (p (4 + i)).toInt ∧ (p (4 + i)).toInt ≤ 20
def BD (p : Ps) : Prop := V p ∧ BH p ∧ (∃ n, n < 16 ∧ p 9 = nI n) ∧ (p 10 = -4 ∨ ∃ b, b < 4 ∧ p 10 = nI b)
theorem BH_c {p q : Ps} (h : ∀ i, i < 6 → q i = p i) (H : BH p) : BH q := ⟨fun i hi => by rw [h i (by omega)]; exact H.1 i hi, fun i hi => by rw [h (4 + i) (by omega)]; exact H.2 i hi⟩
theorem pStop_lo (p : Ps) (s : Int32) {i : Nat} (hi : i < 6) : pStop p s i = p i := by
  unfold pStop
  rw [u_ne _ _ (by omega), u_ne _ _ (by omega), u_ne _ _ (by omega), u_ne _ _ (by omega), u_ne _ _ (by omega), u_ne _ _ (by omega)]
theorem pEnd_lo (p : Ps) {i : Nat} (hi : i < 6) : pEnd p i = p i := by
  unfold pEnd
  by_cases a : p 7 = -4
  · rw [if_pos a]
  · rw [if_neg a, u_ne _ _ (by omega), pStop_lo p _ hi]
theorem pObey_lo (p : Ps) {r i : Nat} (hr : r < 4) (hi : i < 6) : pObey p r i = p i := by
  match r, hr with
  | 0, _ => rfl
  | 1, _ => exact pEnd_lo p hi
  | 2, _ => exact pStop_lo p _ hi
  | 3, _ => exact pStop_lo p _ hi
  | n + 4, h => exact absurd h (by omega)
theorem pBring_lo (p : Ps) (b : Int32) {i : Nat} (hi : i < 6) : pBring p b i = p i := by
  unfold pBring
  rw [u_ne _ _ (by omega), u_ne _ _ (by omega), u_ne _ _ (by omega)]
theorem z_16 {x : Int32} (h : 0 ≤ x ∧ x ≤ 15) : ∃ n, n < 16 ∧ x = nI n := by
  obtain ⟨k, hk, e⟩ := nI_of2 (x := x) (M := 15) (n := 15) (by decide) (by rw [z_lt]; have := (z_le _ _).1 h.1; omega) h.2
  exact ⟨k, by omega, e⟩
theorem pO_d : ∀ n, n < 16 → ∀ i, i < 4 → 0 ≤ (nI n ||| ((1 : Int32) <<< (nI i &&& 31))) ∧ (nI n ||| ((1 : Int32) <<< (nI i &&& 31))) ≤ 15 := by decide +kernel
theorem pO_r (p : Ps) (b : Int32) {l : Int32} {i : Nat} (hl : ∃ n, n < 16 ∧ l = nI n) (hi : i < 4) : ∃ n, n < 16 ∧ pO p b l i = nI n := by
  unfold pO
  by_cases h : nI i = b ∨ p i = 7
  · rw [if_pos h]; exact hl
  · rw [if_neg h]
    obtain ⟨n, hn, rfl⟩ := hl
    exact z_16 (pO_d n hn i hi)
theorem pOth_r (p : Ps) (b : Int32) : ∃ n, n < 16 ∧ pOth p b = nI n :=
  pO_r p b (pO_r p b (pO_r p b (pO_r p b ⟨0, by decide, rfl⟩ (by decide)) (by decide)) (by decide)) (by decide)
theorem pR_d : ∀ n, n < 16 → ∀ b, b < 4 → 0 ≤ (nI n &&& (((1 : Int32) <<< (nI b &&& 31)) ^^^ (-1))) ∧ (nI n &&& (((1 : Int32) <<< (nI b &&& 31)) ^^^ (-1))) ≤ 15 := by decide +kernel
theorem B_end {p : Ps} (hV : V (pEnd p)) (H : BH p) (h9 : ∃ n, n < 16 ∧ p 9 = nI n) (h10 : p 10 = -4 ∨ ∃ b, b < 4 ∧ p 10 = nI b) : BD (pEnd p) := by
  refine ⟨hV, BH_c (fun i hi => pEnd_lo p hi) H, ?_, ?_⟩
  · unfold pEnd
    by_cases a : p 7 = -4
    · rw [if_pos a]; exact h9
    · rw [if_neg a]; exact ⟨0, by decide, rfl⟩
  · unfold pEnd
    by_cases a : p 7 = -4
    · rw [if_pos a]; exact h10
    · rw [if_neg a]; exact Or.inl rfl
theorem B_obey {p : Ps} (h : BD p) {r : Nat} (hr : r < 4) : BD (pObey p r) := by
  have hV := V_obey h.1 hr
  match r, hr with
  | 0, _ => exact h
  | 1, _ => exact B_end hV h.2.1 h.2.2.1 h.2.2.2
  | 2, _ => exact ⟨hV, BH_c (fun i hi => pStop_lo p _ hi) h.2.1, ⟨0, by decide, rfl⟩, Or.inl rfl⟩
  | 3, _ => exact ⟨hV, BH_c (fun i hi => pStop_lo p _ hi) h.2.1, ⟨0, by decide, rfl⟩, Or.inl rfl⟩
  | n + 4, h => exact absurd h (by omega)
theorem B_bring {p : Ps} {b : Int32} (hV : V (pBring p b)) (H : BH p) (h10 : p 10 = -4 ∨ ∃ b, b < 4 ∧ p 10 = nI b) : BD (pBring p b) :=
  ⟨hV, BH_c (fun i hi => pBring_lo p b hi) H, pOth_r p b, h10⟩
theorem z_7 : (7 : Int32).toInt = 7 ∧ (6 : Int32).toInt = 6 ∧ (1 : Int32).toInt = 1 ∧ (0 : Int32).toInt = 0 := by decide
theorem B_lead {p : Ps} (h : BD p) {k b : Nat} (hk : k ≤ 6) (hb : b < 4) (hc : pCan p k b) : BD (pLead p k (nI b)) := by
  have hV := V_lead h.1 hk hb hc
  obtain ⟨⟨v7, v6, v11, v0, v1, v2⟩, H, h9, h10⟩ := h
  obtain ⟨l7, l6, l1, l0⟩ := z_7
  match k, hk, hc with
  | 0, _, hc => exact B_bring hV H h10
  | 1, _, hc => exact B_end hV H h9 h10
  | 2, _, hc =>
    obtain ⟨h7, _, h6⟩ := hc
    obtain ⟨c, c4, ec⟩ := v7.resolve_left h7
    have hV2 : V (pBring (upd p (p 7).toNatClampNeg (p (p 7).toNatClampNeg + 1)) (p 7)) := hV
    show BD (pBring (upd p (p 7).toNatClampNeg (p (p 7).toNatClampNeg + 1)) (p 7))
    rw [ec, z_cl (n := c) (by omega)] at hV2 h6 ⊢
    refine B_bring hV2 ⟨fun i hi => ?_, fun i hi => by rw [u_ne _ _ (by omega)]; exact H.2 i hi⟩ (by rw [u_ne _ _ (by omega)]; exact h10)
    by_cases e : i = c
    · have g := H.1 c c4
      rw [z_le, l6] at h6
      rw [e, show upd p c (p c + 1) c = p c + 1 by simp [upd], z_add (by rw [l1]; omega), l1]
      omega
    · rw [u_ne _ _ e]; exact H.1 i hi
  | 3, _, hc =>
    refine ⟨hV, BH_c (p := p) (fun i hi => ?_) H, ?_, Or.inr ⟨b, hb, rfl⟩⟩
    · show pRoq p (nI b) i = p i
      unfold pRoq
      rw [u_ne _ _ (by omega), u_ne _ _ (by omega), u_ne _ _ (by omega)]
    · obtain ⟨n, hn, en⟩ := h9
      show ∃ m, m < 16 ∧ p 9 &&& (((1 : Int32) <<< (nI b &&& 31)) ^^^ (-1)) = nI m
      rw [en]
      exact z_16 (pR_d n hn b hb)
  | 4, _, hc =>
    refine ⟨hV, BH_c (p := p) (fun i hi => ?_) H, h9, Or.inl rfl⟩
    show pCro p i = p i
    unfold pCro
    rw [u_ne _ _ (by omega), u_ne _ _ (by omega)]
  | 5, _, hc =>
    obtain ⟨h7, _, h6⟩ := hc
    obtain ⟨c, c4, ec⟩ := v7.resolve_left h7
    have hV2 : V (pEnd (upd p (p 7).toNatClampNeg 7)) := hV
    show BD (pEnd (upd p (p 7).toNatClampNeg 7))
    rw [ec, z_cl (n := c) (by omega)] at hV2 ⊢
    refine B_end hV2 ⟨fun i hi => ?_, fun i hi => by rw [u_ne _ _ (by omega)]; exact H.2 i hi⟩ (by rw [u_ne _ _ (by omega)]; exact h9) (by rw [u_ne _ _ (by omega)]; exact h10)
    by_cases e : i = c
    · rw [e, show upd p c 7 c = 7 by simp [upd], l7]
      omega
    · rw [u_ne _ _ e]; exact H.1 i hi
  | 6, _, hc =>
    obtain ⟨h7, h11, _, hf⟩ := hc
    obtain ⟨t, t2, et, et', ets⟩ := s_fl v6
    have ht : (1 - p 6).toNatClampNeg = t := by rw [et, z_cl (n := t) (by omega)]
    have hV2 : V (pBring (upd (upd p 6 (1 - p 6)) (4 + (1 - p 6).toNatClampNeg) (p (4 + (1 - p 6).toNatClampNeg) - 1)) (p 11)) := hV
    show BD (pBring (upd (upd p 6 (1 - p 6)) (4 + (1 - p 6).toNatClampNeg) (p (4 + (1 - p 6).toNatClampNeg) - 1)) (p 11))
    rw [ht] at hV2 hf ⊢
    refine B_bring hV2 ⟨fun i hi => by rw [u_ne _ _ (by omega), u_ne _ _ (by omega)]; exact H.1 i hi, fun i hi => ?_⟩ (by rw [u_ne _ _ (by omega), u_ne _ _ (by omega)]; exact h10)
    by_cases e : i = t
    · have g := H.2 t t2
      rw [z_le, l0] at hf
      subst e
      rw [show upd (upd p 6 (1 - p 6)) (4 + i) (p (4 + i) - 1) (4 + i) = p (4 + i) - 1 by simp [upd], z_sub (by rw [l1]; omega), l1]
      omega
    · rw [u_ne _ _ (by omega), u_ne _ _ (by omega)]; exact H.2 i hi
  | n + 7, h, _ => exact absurd h (by omega)
theorem B_B {f0 f1 : Int32} (h0 : 0 ≤ f0.toInt ∧ f0.toInt ≤ 20) (h1 : 0 ≤ f1.toInt ∧ f1.toInt ≤ 20) : BD (pB f0 f1) := by
  obtain ⟨l7, l6, l1, l0⟩ := z_7
  refine ⟨V_B f0 f1, ⟨fun i hi => ?_, fun i hi => ?_⟩, ⟨0, by decide, rfl⟩, Or.inl rfl⟩
  · rw [show pB f0 f1 i = 0 by unfold pB; rw [if_pos hi], l0]
    omega
  · match i, hi with
    | 0, _ => exact h0
    | 1, _ => exact h1
    | n + 2, h => exact absurd h (by omega)
theorem B_rp {σ : Sg} {S : Nat} (G : GO σ S) : ∀ k, k ≤ S → BD (rp σ k) := by
  intro k
  induction k with
  | zero =>
    intro _
    obtain ⟨r, r4, er⟩ := G.2.2.2.2.1 0 (by omega)
    show BD (pObey (pB (σ 1 11) (σ 1 12)) (σ 7 0).toNatClampNeg)
    rw [er, z_cl (n := r) (by omega)]
    exact B_obey (B_B G.2.2.2.2.2.2.1 G.2.2.2.2.2.2.2) r4
  | succ k ih =>
    intro hk
    obtain ⟨d, b, r, h1, h2, h3, _, _, _, h5, h6⟩ := rp_s (GO_P G) (k := k) (by omega)
    rw [h6]
    exact B_obey (B_lead (ih (by omega)) h1 h2 h5) h3
/-- hoops rise by one at most -/
theorem H_lead {p : Ps} (hV : V p) {k b : Nat} (hk : k ≤ 6) (hc : pCan p k b) {i : Nat} (hi : i < 4) : pLead p k (nI b) i = p i ∨ pLead p k (nI b) i = p i + 1 := by
  obtain ⟨v7, v6, v11, v0, v1, v2⟩ := hV
  match k, hk, hc with
  | 0, _, hc => exact Or.inl (pBring_lo p _ (by omega))
  | 1, _, hc => exact Or.inl (pEnd_lo p (by omega))
  | 2, _, hc =>
    obtain ⟨c, c4, ec⟩ := v7.resolve_left hc.1
    show pBring (upd p (p 7).toNatClampNeg (p (p 7).toNatClampNeg + 1)) (p 7) i = p i ∨ pBring (upd p (p 7).toNatClampNeg (p (p 7).toNatClampNeg + 1)) (p 7) i = p i + 1
    rw [pBring_lo _ _ (show i < 6 by omega), ec, z_cl (n := c) (by omega)]
    by_cases e : i = c
    · right
      subst e
      simp [upd]
    · left
      exact u_ne _ _ e
  | 3, _, hc =>
    left
    show pRoq p (nI b) i = p i
    unfold pRoq
    rw [u_ne _ _ (by omega), u_ne _ _ (by omega), u_ne _ _ (by omega)]
  | 4, _, hc =>
    left
    show pCro p i = p i
    unfold pCro
    rw [u_ne _ _ (by omega), u_ne _ _ (by omega)]
  | 5, _, hc =>
    obtain ⟨h7, _, h6⟩ := hc
    obtain ⟨c, c4, ec⟩ := v7.resolve_left h7
    show pEnd (upd p (p 7).toNatClampNeg 7) i = p i ∨ pEnd (upd p (p 7).toNatClampNeg 7) i = p i + 1
    rw [ec, z_cl (n := c) (by omega)] at h6 ⊢
    rw [pEnd_lo _ (show i < 6 by omega)]
    by_cases e : i = c
    · right
      subst e
      rw [h6]
      simp [upd]
    · left
      exact u_ne _ _ e
  | 6, _, hc =>
    left
    obtain ⟨t, t2, et, et', ets⟩ := s_fl v6
    show pBring (upd (upd p 6 (1 - p 6)) (4 + (1 - p 6).toNatClampNeg) (p (4 + (1 - p 6).toNatClampNeg) - 1)) (p 11) i = p i
    rw [pBring_lo _ _ (show i < 6 by omega), u_ne _ _ (by omega), u_ne _ _ (by omega)]
  | n + 7, h, _ => exact absurd h (by omega)
theorem H_rp {σ : Sg} {S k i : Nat} (G : GO σ S) (hk : k < S) (hi : i < 4) : rp σ (k + 1) i = rp σ k i ∨ rp σ (k + 1) i = rp σ k i + 1 := by
  obtain ⟨d, b, r, h1, h2, h3, _, _, _, h5, h6⟩ := rp_s (GO_P G) (k := k) hk
  rw [h6, pObey_lo _ h3 (by omega)]
  exact H_lead (rp_V (GO_P G) k (by omega)) h1 h5 hi
/-- what a position tells lies within -4 .. 35, the side within 0 .. 1 -/
theorem z_nb {x : Int32} (h : x = -4 ∨ ∃ b, b < 4 ∧ x = nI b) : -4 ≤ x.toInt ∧ x.toInt ≤ 35 := by
  rcases h with h | ⟨b, hb, h⟩
  · rw [h]; decide
  · rw [h, z_nI (by omega)]; omega
theorem W_01 (p : Ps) : -4 ≤ (pWin p).toInt ∧ (pWin p).toInt ≤ 35 := by
  unfold pWin
  by_cases a : p 0 = 7 ∧ p 2 = 7
  · rw [if_pos a]; decide
  · rw [if_neg a]
    by_cases b : p 1 = 7 ∧ p 3 = 7
    · rw [if_pos b]; decide
    · rw [if_neg b]; decide
theorem T_rng {p : Ps} (h : BD p) {q : Nat} (hq : q < 12) : -4 ≤ (pTell p q).toInt ∧ (pTell p q).toInt ≤ 35 := by
  obtain ⟨⟨v7, v6, v11, v0, v1, v2⟩, H, h9, h10⟩ := h
  have lo : ∀ i, i < 4 → -4 ≤ (p i).toInt ∧ (p i).toInt ≤ 35 := fun i hi => by have := H.1 i hi; omega
  have fr : ∀ i, i < 2 → -4 ≤ (p (4 + i)).toInt ∧ (p (4 + i)).toInt ≤ 35 := fun i hi => by have := H.2 i hi; omega
  match q, hq with
  | 0, _ =>
    show -4 ≤ (p 6).toInt ∧ (p 6).toInt ≤ 35
    rcases v6 with e | e <;> rw [e] <;> decide
  | 1, _ => exact z_nb v7
  | 2, _ =>
    show -4 ≤ (p 8).toInt ∧ (p 8).toInt ≤ 35
    by_cases a : p 7 = -4
    · rw [(v0 a).1]; decide
    · by_cases b : p 10 = -4
      · rw [v1 a b]; decide
      · rw [v2 a b]; decide
  | 3, _ =>
    obtain ⟨n, hn, en⟩ := h9
    show -4 ≤ (p 9).toInt ∧ (p 9).toInt ≤ 35
    rw [en, z_nI (by omega)]
    omega
  | 4, _ => exact z_nb h10
  | 5, _ => exact lo 0 (by decide)
  | 6, _ => exact lo 1 (by decide)
  | 7, _ => exact lo 2 (by decide)
  | 8, _ => exact lo 3 (by decide)
  | 9, _ => exact fr 0 (by decide)
  | 10, _ => exact fr 1 (by decide)
  | 11, _ => exact W_01 p
  | n + 12, h => exact absurd h (by omega)
theorem y_bmod {x : Int} (h : -9223372036854775808 ≤ x ∧ x < 9223372036854775808) : x.bmod (2 ^ 64) = x := by
  rw [Int.bmod_def]
  have : ((2 ^ 64 : Nat) : Int) = 18446744073709551616 := by decide
  rw [this]
  omega
theorem y_lits : (41 : Int64).toInt = 41 ∧ (5 : Int64).toInt = 5 ∧ (0 : Int64).toInt = 0 := by decide
theorem y_step {x : Int64} {v : Int32} {B : Int} (h0 : 0 ≤ x.toInt ∧ x.toInt ≤ B) (hB : B ≤ 200000000000000000) (hv : -4 ≤ v.toInt ∧ v.toInt ≤ 35) : 0 ≤ ((((41 : Int64) * x) + v.toInt64) + 5).toInt ∧ ((((41 : Int64) * x) + v.toInt64) + 5).toInt ≤ 41 * B + 40 := by
  obtain ⟨l1, l2, l3⟩ := y_lits
  have e1 : ((41 : Int64) * x).toInt = 41 * x.toInt := by rw [Int64.toInt_mul, l1, y_bmod (by omega)]
  have e2 : (((41 : Int64) * x) + v.toInt64).toInt = 41 * x.toInt + v.toInt := by rw [Int64.toInt_add, e1, Int32.toInt_toInt64, y_bmod (by omega)]
  have e3 : ((((41 : Int64) * x) + v.toInt64) + 5).toInt = 41 * x.toInt + v.toInt + 5 := by rw [Int64.toInt_add, e2, l2, y_bmod (by omega)]
  rw [e3]
  omega
theorem y_first {p : Ps} (h : BD p) : 0 ≤ (Tq p 1).toInt ∧ (Tq p 1).toInt ≤ 6 := by
  show 0 ≤ ((((41 : Int64) * 0) + (p 6).toInt64) + 5).toInt ∧ ((((41 : Int64) * 0) + (p 6).toInt64) + 5).toInt ≤ 6
  rcases h.1.2.1 with e | e <;> rw [e] <;> decide
theorem T_pos {p : Ps} (h : BD p) : 0 ≤ (Tq p 12).toInt := by
  have s : ∀ q, q < 12 → ∀ B : Int, B ≤ 200000000000000000 → 0 ≤ (Tq p q).toInt ∧ (Tq p q).toInt ≤ B → 0 ≤ (Tq p (q + 1)).toInt ∧ (Tq p (q + 1)).toInt ≤ 41 * B + 40 := fun q hq B hB h0 => y_step h0 hB (T_rng h hq)
  have h1 := y_first h
  have h2 := s 1 (by decide) _ (by decide) h1
  have h3 := s 2 (by decide) _ (by decide) h2
  have h4 := s 3 (by decide) _ (by decide) h3
  have h5 := s 4 (by decide) _ (by decide) h4
  have h6 := s 5 (by decide) _ (by decide) h5
  have h7 := s 6 (by decide) _ (by decide) h6
  have h8 := s 7 (by decide) _ (by decide) h7
  have h9 := s 8 (by decide) _ (by decide) h8
  have h10 := s 9 (by decide) _ (by decide) h9
  have h11 := s 10 (by decide) _ (by decide) h10
  exact (s 11 (by decide) _ (by decide) h11).1
theorem cmp_pos {x : Int64} (h : 0 ≤ x.toInt) : 0 ≤ lg_cmp x 0 := by
  unfold lg_cmp
  by_cases a : (0 : Int64) < x
  · rw [if_pos a]; decide
  · rw [if_neg a]
    by_cases b : x = 0
    · rw [if_pos b]; decide
    · exfalso
      rw [Int64.lt_iff_toInt_lt, y_lits.2.2] at a
      apply b
      apply Int64.toInt_inj.mp
      rw [y_lits.2.2]
      omega
theorem cmp_same (x : Int64) : lg_cmp x x = 0 := by simp [lg_cmp]
end
section
/-! the law's own small methods -/
theorem l_some (σ : Sg) (v : Int32) {n : Nat} (hn : 0 < n) (hn2 : n < 100000) : ∃ k, k < n ∧ f_L_some σ v (nI n) = some (σ, nI k) := by
  unfold f_L_some
  rw [if_neg (nI_ne0 hn (by omega))]
  have hx : 0 ≤ (v &&& (2147483647 : Int32)).toInt := by
    have e : (v &&& (2147483647 : Int32)).toInt = (v.toBitVec &&& (2147483647 : Int32).toBitVec).toInt := rfl
    have n1 : (v.toBitVec &&& (2147483647 : Int32).toBitVec).toNat ≤ (2147483647 : Int32).toBitVec.toNat := by
      rw [BitVec.toNat_and]
      exact Nat.and_le_right
    have n2 : (2147483647 : Int32).toBitVec.toNat = 2147483647 := by decide
    rw [e, BitVec.toInt_eq_toNat_cond, if_pos (by omega)]
    omega
  generalize (v &&& (2147483647 : Int32)) = x at hx
  have hr := z_rng x
  have en : (nI n).toInt = (n : Int) := z_nI (by omega)
  have q0 : 0 ≤ x.toInt / (n : Int) := Int.ediv_nonneg hx (by omega)
  have q1 : x.toInt / (n : Int) ≤ x.toInt := Int.ediv_le_self _ hx
  have q2 : x.toInt % (n : Int) + x.toInt / (n : Int) * (n : Int) = x.toInt := Int.emod_add_ediv_mul _ _
  have q3 : 0 ≤ x.toInt % (n : Int) := Int.emod_nonneg _ (by omega)
  have q4 : x.toInt % (n : Int) < (n : Int) := Int.emod_lt_of_pos _ (by omega)
  have e1 : (x / nI n).toInt = x.toInt / (n : Int) := by
    rw [z_div (by rw [en, Int.tdiv_eq_ediv_of_nonneg hx]; omega), en, Int.tdiv_eq_ediv_of_nonneg hx]
  generalize x.toInt / (n : Int) * (n : Int) = y at q2
  generalize hd : x.toInt / (n : Int) = d at *
  have e2 : (x / nI n * nI n).toInt = d * (n : Int) := by
    rw [z_mul (by rw [e1, en]; have : d * (n : Int) = x.toInt - x.toInt % (n : Int) := by rw [← hd]; have := Int.emod_add_ediv_mul x.toInt (n : Int); omega
                  omega), e1, en]
  have e3 : (x - x / nI n * nI n).toInt = x.toInt % (n : Int) := by
    have : d * (n : Int) = x.toInt - x.toInt % (n : Int) := by rw [← hd]; have := Int.emod_add_ediv_mul x.toInt (n : Int); omega
    rw [z_sub (by rw [e2]; omega), e2]
    omega
  refine ⟨(x.toInt % (n : Int)).toNat, by omega, ?_⟩
  have e4 : x - x / nI n * nI n = nI (x.toInt % (n : Int)).toNat := by
    rw [z_eq, e3, z_nI (by omega)]
    omega
  rw [e4]
theorem l_cell {N : Nat} (hN : N ≤ 260) (σ : Sg) {i : Nat} (hi : i < 1000) : ∃ v, f_L_cell 105 N σ (nI i) = some (σ, v) := by
  unfold f_L_cell
  by_cases h : Int32.ofNat N ≤ nI i
  · rw [if_pos h]
    exact ⟨_, rfl⟩
  · rw [if_neg h]
    have h2 : i < N := by
      have h3 : ¬ nI N ≤ nI i := h
      rw [nI_leI (by omega) (by omega)] at h3
      omega
    rw [if_neg (o_in h2 (by omega))]
    exact ⟨_, rfl⟩
end
section
/-! the law types laws: two clauses -/
theorem z_s_id {t : Nat → Int32} {len a : Nat} (h : ¬ (a < len ∧ t a = 32)) : z_s t len a = a := by
  show z_sk t len 31 a = a
  simp only [z_sk]
  rw [if_neg h]
theorem z_d10 : ∀ i, i < 10 → 48 ≤ nI (48 + i) ∧ nI (48 + i) ≤ 57 ∧ (nI (48 + i)).toNatClampNeg = 48 + i ∧ ¬ nI (48 + i) = 32 ∧ 32 ≤ nI (48 + i) ∧ nI (48 + i) ≤ 126 := by decide +kernel
theorem z_dg2 {t : Nat → Int32} {len a i j : Nat} (ha : a + 2 < len) (h1 : t a = nI (48 + i)) (h2 : t (a + 1) = nI (48 + j)) (hi : i < 10) (hj : j < 10) (h3 : ¬ (48 ≤ t (a + 2) ∧ t (a + 2) ≤ 57)) : z_dg t len 31 a 0 = (a + 2, i * 10 + j) := by
  obtain ⟨a1, a2, a3, -⟩ := z_d10 i hi
  obtain ⟨b1, b2, b3, -⟩ := z_d10 j hj
  simp only [z_dg]
  rw [if_pos ⟨by omega, by rw [h1]; exact ⟨a1, a2⟩⟩, if_pos ⟨by omega, by rw [h2]; exact ⟨b1, b2⟩⟩, if_neg (fun z => h3 z.2), h1, h2, a3, b3]
  congr 1
  omega
theorem z_cla_ok {t : Nat → Int32} {len a i j : Nat} (ha : a + 4 ≤ len) (hk : t a = 112 ∨ t a = 114) (h1 : t (a + 1) = nI (48 + i)) (h2 : t (a + 2) = nI (48 + j)) (hi : i < 10) (hj : j < 10) (h3 : t (a + 3) = 82 ∨ t (a + 3) = 78) : ∃ c, z_cla t len a = (a + 4, some c) := by
  have s0 : z_s t len a = a := z_s_id (fun z => by
    rcases hk with e | e <;> (rw [e] at z; exact absurd z.2 (by decide)))
  have s1 : z_s t len (a + 1) = a + 1 := z_s_id (fun z => (z_d10 i hi).2.2.2.1 (by rw [← h1]; exact z.2))
  have s3 : z_s t len (a + 3) = a + 3 := z_s_id (fun z => by
    rcases h3 with e | e <;> (rw [e] at z; exact absurd z.2 (by decide)))
  have d : z_dg t len 31 (a + 1) 0 = (a + 3, i * 10 + j) := z_dg2 (by omega) h1 h2 hi hj (fun z => by
    have z2 : 48 ≤ t (a + 3) ∧ t (a + 3) ≤ 57 := z
    rcases h3 with e | e <;> (rw [e] at z2; exact absurd z2 (by decide)))
  unfold z_cla
  simp only [s0, s1, d, s3]
  rw [if_pos ⟨by omega, hk⟩, if_neg (by omega), if_pos ⟨by omega, h3⟩]
  exact ⟨_, rfl⟩
def zT (p r : Nat) (a b : Bool) (i : Nat) : Int32 := match i with
  | 0 => 112
  | 1 => nI (48 + p / 10)
  | 2 => nI (48 + p % 10)
  | 3 => z_let a
  | 4 => 59
  | 5 => 114
  | 6 => nI (48 + r / 10)
  | 7 => nI (48 + r % 10)
  | 8 => z_let b
  | _ => 0
theorem z_letv (a : Bool) : (z_let a = 82 ∨ z_let a = 78) ∧ 32 ≤ z_let a ∧ z_let a ≤ 126 := by
  cases a <;> decide
theorem zT_b {p r : Nat} (hp : p < 20) (hr : r < 20) (a b : Bool) : ∀ i, i < 9 → 32 ≤ zT p r a b i ∧ zT p r a b i ≤ 126 := by
  intro i hi
  match i, hi with
  | 0, _ => exact (show (32 : Int32) ≤ 112 ∧ (112 : Int32) ≤ 126 by decide)
  | 1, _ => exact (z_d10 (p / 10) (by omega)).2.2.2.2
  | 2, _ => exact (z_d10 (p % 10) (by omega)).2.2.2.2
  | 3, _ => exact (z_letv a).2
  | 4, _ => exact (show (32 : Int32) ≤ 59 ∧ (59 : Int32) ≤ 126 by decide)
  | 5, _ => exact (show (32 : Int32) ≤ 114 ∧ (114 : Int32) ≤ 126 by decide)
  | 6, _ => exact (z_d10 (r / 10) (by omega)).2.2.2.2
  | 7, _ => exact (z_d10 (r % 10) (by omega)).2.2.2.2
  | 8, _ => exact (z_letv b).2
  | n + 9, h => exact absurd h (by omega)
theorem zT_rd {p r : Nat} (hp : p < 20) (hr : r < 20) (a b : Bool) : (z_rd (zT p r a b) 9).1 = 2 := by
  obtain ⟨c, hc⟩ := z_cla_ok (t := zT p r a b) (len := 9) (a := 0) (i := p / 10) (j := p % 10) (by decide) (Or.inl rfl) rfl rfl (by omega) (by omega) (z_letv a).1
  obtain ⟨c', hc'⟩ := z_cla_ok (t := zT p r a b) (len := 9) (a := 5) (i := r / 10) (j := r % 10) (by decide) (Or.inr rfl) rfl rfl (by omega) (by omega) (z_letv b).1
  have hc1 : z_cla (zT p r a b) 9 0 = (4, some c) := hc
  have hc2 : z_cla (zT p r a b) 9 (4 + 1) = (9, some c') := hc'
  have s0 : z_s (zT p r a b) 9 0 = 0 := z_s_id (fun z => absurd z.2 (show ¬ (112 : Int32) = 32 by decide))
  have s4 : z_s (zT p r a b) 9 4 = 4 := z_s_id (fun z => absurd z.2 (show ¬ (59 : Int32) = 32 by decide))
  have s9 : z_s (zT p r a b) 9 9 = 9 := z_s_id (fun z => absurd z.1 (by decide))
  have e4 : zT p r a b 4 = 59 := rfl
  unfold z_rd
  simp only [s0, hc1, s4, hc2, s9, e4]
  rfl
def zW (x : Int32) : Int64 := (((((48 : Int64) + ((x / (10 : Int32)).toInt64)) * (256 : Int64)) + (48 : Int64)) + ((x - x / (10 : Int32) * (10 : Int32)).toInt64))
theorem zW_by : ∀ p, p < 20 → z_by (zW (nI p)) 1 = nI (48 + p / 10) ∧ z_by (zW (nI p)) 0 = nI (48 + p % 10) := by decide +kernel
theorem zL_by (a : Bool) : z_by (z_let a).toInt64 0 = z_let a := by
  cases a <;> decide +kernel
theorem l_type {σ : Sg} {t : Nat → Int32} {len : Nat} {lw : Lw} (h : RLc σ t len lw) {k : Nat} (hk : 1 ≤ k ∧ k ≤ 8) (hl : len + k ≤ 30) (w : Int64) (hw : ∀ i, i < k → z_by w (k - 1 - i) = t (len + i)) (ht : ∀ i, i < k → 32 ≤ t (len + i) ∧ t (len + i) ≤ 126) : ∃ σ1, f_X5_type σ w (nI k) = some (σ1, nI (len + k)) ∧ RLc σ1 t (len + k) lw ∧ ∀ o, o ≠ 15 → o ≠ 16 → σ1 o = σ o := by
  obtain ⟨h1, h2, h3⟩ := h
  have hn : (1 : Int32) ≤ nI k ∧ nI k ≤ 8 := ⟨nI_le (a := 1) hk.1 (by omega), nI_le (b := 8) hk.2 (by omega)⟩
  have hC : f_X5_type σ w (nI k) = q_bnd (f_X0_append_L15 1000 σ w (nI k) (nI 0)) fun s1 r2 => some (s1, r2) := by
    simp only [f_X5_type, f_X0_append, r_within, b_some, if_pos hn]
    rfl
  have g : ∀ i, i < k → z_ok w i := fun i hi => by
    have e := hw (k - 1 - i) (by omega)
    have e2 := ht (k - 1 - i) (by omega)
    rw [show k - 1 - (k - 1 - i) = i by omega] at e
    unfold z_ok
    rw [e]
    exact e2
  have c1 := (c_chk w σ hk.2 k 0 1000 (by omega) (by omega)).1 (fun i _ h2 => g i h2)
  have el : nI len + nI k = nI (len + k) := nI_add len k
  have hle : (nI len + nI k) ≤ 30 := by rw [el]; exact nI_le (b := 30) hl (by omega)
  obtain ⟨σ1, g1, g2, g3, g4⟩ := c_w64 w k 1000 σ len t (by omega) hk.2 hl h1 h2
  refine ⟨σ1, ?_, ⟨g2, fun i hi => ?_, fun x hx => ?_⟩, fun o a b => ?_⟩
  · rw [hC, c1, h1, if_pos hle, g1]
    rfl
  · rw [g3 i hi]
    simp only [z_app]
    by_cases q : i < len
    · rw [if_pos q]
    · rw [if_neg q, hw (i - len) (by omega)]
      congr 1
      omega
  · have := h3 x hx
    rw [g4 17 x (by omega) (by omega), g4 18 x (by omega) (by omega)]
    exact this
  · funext k'
    exact g4 o k' b (fun z => a z.1)
theorem l_laws {σ : Sg} {lw : Lw} {p r : Nat} (hp : p < 20) (hr : r < 20) (a b : Bool) (h : RLc σ (zT p r a b) 0 lw) : ∃ σ1, f_L_laws σ (nI p) (z_let a) (nI r) (z_let b) = some (σ1, 1) ∧ ∀ o, ¬ (15 ≤ o ∧ o ≤ 20) → σ1 o = σ o := by
  have hb := zT_b hp hr a b
  have one : ∀ i, i < 1 → i = 0 := fun i hi => by omega
  obtain ⟨σ1, a1, a2, a3⟩ := l_type h (k := 1) (by decide) (by decide) 112 (fun i hi => by rw [one i hi]; exact (by decide +kernel : z_by 112 (1 - 1 - 0) = 112)) (fun i hi => hb _ (by omega))
  obtain ⟨σ2, b1, b2, b3⟩ := l_type a2 (k := 2) (by decide) (by decide) (zW (nI p)) (fun i hi => by
    match i, hi with
    | 0, _ => exact (zW_by p hp).1
    | 1, _ => exact (zW_by p hp).2
    | n + 2, h => exact absurd h (by omega)) (fun i hi => hb _ (by omega))
  obtain ⟨σ3, c1, c2, c3⟩ := l_type b2 (k := 1) (by decide) (by decide) (z_let a).toInt64 (fun i hi => by rw [one i hi]; exact zL_by a) (fun i hi => hb _ (by omega))
  obtain ⟨σ4, d1, d2, d3⟩ := l_type c2 (k := 1) (by decide) (by decide) 59 (fun i hi => by rw [one i hi]; exact (by decide +kernel : z_by 59 (1 - 1 - 0) = 59)) (fun i hi => hb _ (by omega))
  obtain ⟨σ5, e1, e2, e3⟩ := l_type d2 (k := 1) (by decide) (by decide) 114 (fun i hi => by rw [one i hi]; exact (by decide +kernel : z_by 114 (1 - 1 - 0) = 114)) (fun i hi => hb _ (by omega))
  obtain ⟨σ6, f1, f2, f3⟩ := l_type e2 (k := 2) (by decide) (by decide) (zW (nI r)) (fun i hi => by
    match i, hi with
    | 0, _ => exact (zW_by r hr).1
    | 1, _ => exact (zW_by r hr).2
    | n + 2, h => exact absurd h (by omega)) (fun i hi => hb _ (by omega))
  obtain ⟨σ7, g1, g2, g3⟩ := l_type f2 (k := 1) (by decide) (by decide) (z_let b).toInt64 (fun i hi => by rw [one i hi]; exact zL_by b) (fun i hi => hb _ (by omega))
  obtain ⟨σ8, i1, i2, i3⟩ := c_take (len := 9) (by decide) (fun i hi => hb i hi) g2
  rw [zT_rd hp hr a b] at i1
  refine ⟨σ8, ?_, fun o ho => ?_⟩
  · unfold f_L_laws
    rw [show f_X5_type σ 112 1 = some (σ1, 1) from a1, b_some, if_pos rfl]
    rw [show f_X5_type σ1 (((((48 : Int64) + ((nI p / (10 : Int32)).toInt64)) * (256 : Int64)) + (48 : Int64)) + ((nI p - nI p / (10 : Int32) * (10 : Int32)).toInt64)) 2 = some (σ2, 3) from b1, b_some, if_pos rfl]
    rw [show f_X5_type σ2 (z_let a).toInt64 1 = some (σ3, 4) from c1, b_some, if_pos rfl]
    rw [show f_X5_type σ3 59 1 = some (σ4, 5) from d1, b_some, if_pos rfl]
    unfold f_L_laws_J72
    rw [if_neg (by decide), show f_X5_type σ4 114 1 = some (σ5, 6) from e1, b_some, if_pos rfl]
    rw [show f_X5_type σ5 (((((48 : Int64) + ((nI r / (10 : Int32)).toInt64)) * (256 : Int64)) + (48 : Int64)) + ((nI r - nI r / (10 : Int32) * (10 : Int32)).toInt64)) 2 = some (σ6, 8) from f1, b_some, if_pos rfl]
    rw [show f_X5_type σ6 (z_let b).toInt64 1 = some (σ7, 9) from g1, b_some, if_pos rfl, i1, b_some, if_pos rfl]
  · rw [i3 o ho, g3 o (by omega) (by omega), f3 o (by omega) (by omega), e3 o (by omega) (by omega), d3 o (by omega) (by omega), c3 o (by omega) (by omega), b3 o (by omega) (by omega), a3 o (by omega) (by omega)]
end
section
/-! an index is set, a game begins -/
theorem l_index (σ : Sg) {k : Nat} (hk : k < 2001) : f_X5_index σ 3 (nI k) = some (q_wr σ 22 3 (nI k), σ 22 3) := by
  have n10 : ¬ (1 : Int32) = 0 := by decide
  have hv : (0 : Int32) ≤ nI k ∧ nI k ≤ 2000 := ⟨nI_pos' (by omega), nI_le (b := 2000) (by omega) (by omega)⟩
  unfold f_X5_index f_X4_put
  rw [r_isPlayer, b_some, if_pos (show (0 : Int32) ≤ 3 ∧ (3 : Int32) ≤ 7 by decide), if_neg n10, r_within, b_some, if_pos hv, if_neg n10, show f_X5_at 22 8 σ 3 = some (σ, σ 22 3) from r_at (a := 22) (n := 8) (k := 3) σ (by decide) (by decide), b_some, show f_X5_set 22 8 σ 3 (nI k) = some (q_wr σ 22 3 (nI k), 0) from r_set (a := 22) (n := 8) (k := 3) σ (nI k) (by decide) (by decide), b_some, b_some]
theorem m_rb : ∀ i : Nat, i < 21 → ∀ j : Nat, j < 21 → (-20 : Int32) ≤ m_r (nI i - nI j) ∧ (0 ≤ (m_f0 (nI i - nI j)).toInt ∧ (m_f0 (nI i - nI j)).toInt ≤ 20) ∧ 0 ≤ (m_f1 (nI i - nI j)).toInt ∧ (m_f1 (nI i - nI j)).toInt ≤ 20 := by decide +kernel
theorem l_game {σ : Sg} (h3 : 0 ≤ (σ 22 3).toInt ∧ (σ 22 3).toInt ≤ 2000) (h6 : 0 ≤ (σ 22 6).toInt ∧ (σ 22 6).toInt ≤ 2000) : ∃ σ1 r, f_X5_game σ 3 6 = some (σ1, r) ∧ (-20 : Int32) ≤ r ∧ Fc σ σ1 ∧ GO σ1 0 := by
  have n10 : ¬ (1 : Int32) = 0 := by decide
  obtain ⟨i, hi, ei⟩ := m_hcn h6
  obtain ⟨j, hj, ej⟩ := m_hcn h3
  obtain ⟨w1, w2, w3⟩ := m_rf i hi j hj
  obtain ⟨u1, u2, u3⟩ := m_rb i hi j hj
  have cF := c_turns (σ := σ) (a := 3) (b := 6) (by decide) (by decide) ei ej
  generalize hd : nI i - nI j = d at w1 w2 w3 u1 u2 u3 cF
  unfold f_X5_game
  rw [r_isPlayer, b_some, if_pos (show (0 : Int32) ≤ 3 ∧ (3 : Int32) ≤ 7 by decide), if_neg n10, r_isPlayer, b_some, if_pos (show (0 : Int32) ≤ 6 ∧ (6 : Int32) ≤ 7 by decide), if_neg n10, if_neg (show ¬ (3 : Int32) = 6 by decide), show f_X4_freeTurnsOfOther σ 3 6 = some (σ, m_r d) from cF, b_some, l_eq, l_eq, w1, w2]
  unfold f_X2_begin
  have s80 : f_X5_set 8 2 σ 0 3 = some (q_wr σ 8 0 3, 0) := r_set (a := 8) (n := 2) (k := 0) σ _ (by decide) (by decide)
  have s81 : f_X5_set 8 2 (q_wr σ 8 0 3) 1 6 = some (q_wr (q_wr σ 8 0 3) 8 1 6, 0) := r_set (a := 8) (n := 2) (k := 1) _ _ (by decide) (by decide)
  rw [s80, b_some, s81, b_some, ls_eq, ls_eq, ls_eq, ls_eq]
  have s70 : ∀ τ : Sg, f_X5_set 7 151 τ 0 0 = some (q_wr τ 7 0 0, 0) := fun τ => r_set (a := 7) (n := 151) (k := 0) τ _ (by decide) (by decide)
  rw [s70, b_some]
  have e11 : q_wr (q_wr (q_wr (q_wr (q_wr (q_wr (q_wr σ 8 0 3) 8 1 6) 1 11 (m_f0 d)) 1 12 (m_f1 d)) 1 9 1) 1 10 0) 7 0 0 1 11 = m_f0 d := by simp [w_at]
  have e12 : q_wr (q_wr (q_wr (q_wr (q_wr (q_wr (q_wr σ 8 0 3) 8 1 6) 1 11 (m_f0 d)) 1 12 (m_f1 d)) 1 9 1) 1 10 0) 7 0 0 1 12 = m_f1 d := by simp [w_at]
  have e9 : q_wr (q_wr (q_wr (q_wr (q_wr (q_wr (q_wr σ 8 0 3) 8 1 6) 1 11 (m_f0 d)) 1 12 (m_f1 d)) 1 9 1) 1 10 0) 7 0 0 1 9 = 1 := by simp [w_at]
  have e10 : q_wr (q_wr (q_wr (q_wr (q_wr (q_wr (q_wr σ 8 0 3) 8 1 6) 1 11 (m_f0 d)) 1 12 (m_f1 d)) 1 9 1) 1 10 0) 7 0 0 1 10 = 0 := by simp [w_at]
  have e7 : q_wr (q_wr (q_wr (q_wr (q_wr (q_wr (q_wr σ 8 0 3) 8 1 6) 1 11 (m_f0 d)) 1 12 (m_f1 d)) 1 9 1) 1 10 0) 7 0 0 7 0 = 0 := by simp [w_at]
  have eo : ∀ o, ¬ (1 ≤ o ∧ o ≤ 14) → q_wr (q_wr (q_wr (q_wr (q_wr (q_wr (q_wr σ 8 0 3) 8 1 6) 1 11 (m_f0 d)) 1 12 (m_f1 d)) 1 9 1) 1 10 0) 7 0 0 o = σ o := by
    intro o ho
    rw [w_ne _ _ _ (by omega), w_ne _ _ _ (by omega), w_ne _ _ _ (by omega), w_ne _ _ _ (by omega), w_ne _ _ _ (by omega), w_ne _ _ _ (by omega), w_ne _ _ _ (by omega)]
  generalize q_wr (q_wr (q_wr (q_wr (q_wr (q_wr (q_wr σ 8 0 3) 8 1 6) 1 11 (m_f0 d)) 1 12 (m_f1 d)) 1 9 1) 1 10 0) 7 0 0 = ρ at *
  obtain ⟨σ1, c1, c2, c3⟩ := c_begin 9 ρ (ρ 1 11) (ρ 1 12)
  rw [c1, b_some, b_some]
  have f1 : σ1 1 = ρ 1 := c3 1 (by decide) (by decide) (by decide)
  have f7 : σ1 7 = ρ 7 := c3 7 (by decide) (by decide) (by decide)
  refine ⟨σ1, m_r d, rfl, u1, fun o ho => by rw [c3 o (by omega) (by omega) (by omega), eo o ho], ⟨by decide, ?_, ?_, fun k hk => absurd hk (by omega), fun k hk => ?_, ?_, ?_⟩⟩
  · rw [f1]; exact e9
  · rw [f1]; exact e10
  · have : k = 0 := by omega
    subst this
    exact ⟨0, by decide, by rw [f7]; exact e7⟩
  · rw [c2]
    show _ = pObey (pB (σ1 1 11) (σ1 1 12)) (σ1 7 0).toNatClampNeg
    rw [f1, f7, e7]
    rfl
  · unfold FB
    rw [f1, e11, e12]
    exact ⟨u2, u3⟩
end
section
/-! the first state -/
theorem z_clr {σ : Sg} {o : Nat} (h : ∀ i, σ o i = 0) : q_clr σ o = σ := by
  funext o' i
  rw [c_at]
  by_cases e : o' = o
  · rw [if_pos e, e, h i]
  · rw [if_neg e]
theorem i_class {s : Sg} (hz : ∀ o, o < 100 → ∀ i, s o i = 0) : ∃ σ, f_X5_init_0 s = some (σ, 0) ∧ (∀ o, o ≠ 17 → o ≠ 18 → o ≠ 22 → o ≠ 23 → o ≠ 24 → o ≠ 25 → σ o = s o) ∧ σ 17 0 = 5 ∧ σ 17 1 = 2 ∧ σ 18 0 = 82 ∧ σ 18 1 = 78 ∧ (∀ i, i < 8 → σ 22 i = 1000) ∧ σ 23 2 = 2 ∧ ∀ i, i < 15 → σ 24 i = -4 ∧ σ 25 i = -4 := by
  have z : ∀ o, o < 100 → q_clr s o = s := fun o ho => z_clr (hz o ho)
  have p : f_X2_init_1 s = some (s, 0) := by
    unfold f_X2_init_1 f_X3_init_9 f_X3_init_12
    simp only [ls_eq, z 2 (by decide), z 3 (by decide), z 4 (by decide), z 5 (by decide), z 6 (by decide), z 7 (by decide), z 8 (by decide), z 9 (by decide), z 10 (by decide), z 11 (by decide), z 12 (by decide), z 13 (by decide), z 14 (by decide), b_some]
  have r17 : ∀ (τ : Sg) (v : Int32) {k : Nat}, k < 2 → f_X5_set 17 2 τ (nI k) v = some (q_wr τ 17 k v, 0) := fun τ v k hk => r_set (a := 17) (n := 2) τ v hk (by decide)
  have r18 : ∀ (τ : Sg) (v : Int32) {k : Nat}, k < 2 → f_X5_set 18 2 τ (nI k) v = some (q_wr τ 18 k v, 0) := fun τ v k hk => r_set (a := 18) (n := 2) τ v hk (by decide)
  have l : f_X0_init_15 s = some (q_wr (q_wr (q_wr (q_wr s 17 0 5) 18 0 82) 17 1 2) 18 1 78, 0) := by
    unfold f_X0_init_15
    simp only [ls_eq, z 16 (by decide), z 17 (by decide), z 18 (by decide), z 19 (by decide), z 20 (by decide)]
    rw [show f_X5_set 17 2 s 0 5 = _ from r17 s 5 (k := 0) (by decide), b_some, show f_X5_set 18 2 (q_wr s 17 0 5) 0 82 = _ from r18 _ 82 (k := 0) (by decide), b_some, show f_X5_set 17 2 (q_wr (q_wr s 17 0 5) 18 0 82) 1 2 = _ from r17 _ 2 (k := 1) (by decide), b_some, show f_X5_set 18 2 (q_wr (q_wr (q_wr s 17 0 5) 18 0 82) 17 1 2) 1 78 = _ from r18 _ 78 (k := 1) (by decide), b_some]
  have n1 : ∀ o, o ≠ 17 → o ≠ 18 → q_wr (q_wr (q_wr (q_wr s 17 0 5) 18 0 82) 17 1 2) 18 1 78 o = s o := fun o a b => by rw [w_ne _ _ _ b, w_ne _ _ _ a, w_ne _ _ _ b, w_ne _ _ _ a]
  have v1 : q_wr (q_wr (q_wr (q_wr s 17 0 5) 18 0 82) 17 1 2) 18 1 78 17 0 = 5 := by simp [w_at]
  have v2 : q_wr (q_wr (q_wr (q_wr s 17 0 5) 18 0 82) 17 1 2) 18 1 78 17 1 = 2 := by simp [w_at]
  have v3 : q_wr (q_wr (q_wr (q_wr s 17 0 5) 18 0 82) 17 1 2) 18 1 78 18 0 = 82 := by simp [w_at]
  have v4 : q_wr (q_wr (q_wr (q_wr s 17 0 5) 18 0 82) 17 1 2) 18 1 78 18 1 = 78 := by simp [w_at]
  unfold f_X5_init_0
  rw [ls_eq, z 1 (by decide), p, b_some, ls_eq, z 15 (by decide), l, b_some]
  generalize q_wr (q_wr (q_wr (q_wr s 17 0 5) 18 0 82) 17 1 2) 18 1 78 = a at *
  have za : ∀ o, o < 100 → o ≠ 17 → o ≠ 18 → q_clr a o = a := fun o ho h1 h2 => z_clr (fun i => by rw [n1 o h1 h2]; exact hz o ho i)
  obtain ⟨b, b1, b2, b3⟩ := r_fill (a := 22) (n := 8) (by decide) 1000 a
  have ib : f_X4_init_21 a = some (b, 0) := by
    unfold f_X4_init_21
    rw [ls_eq, za 22 (by decide) (by decide) (by decide), b1, b_some]
  rw [ls_eq, za 21 (by decide) (by decide) (by decide), ib, b_some]
  have n2 : ∀ o, o ≠ 17 → o ≠ 18 → o ≠ 22 → b o = s o := fun o x y w => by rw [b2 o w, n1 o x y]
  have zb : ∀ o, o < 100 → o ≠ 17 → o ≠ 18 → o ≠ 22 → q_clr b o = b := fun o ho h1 h2 h3 => z_clr (fun i => by rw [n2 o h1 h2 h3]; exact hz o ho i)
  obtain ⟨c, c1, c2, c3⟩ := r_fill (a := 24) (n := 15) (by decide) (-4) (q_wr b 23 2 2)
  obtain ⟨d, d1, d2, d3⟩ := r_fill (a := 25) (n := 15) (by decide) (-4) c
  have id : f_X1_init_23 b = some (d, 0) := by
    unfold f_X1_init_23
    rw [ls_eq, zb 24 (by decide) (by decide) (by decide) (by decide), ls_eq, zb 25 (by decide) (by decide) (by decide) (by decide), ls_eq, c1, b_some, d1, b_some]
  rw [ls_eq, zb 23 (by decide) (by decide) (by decide) (by decide), id, b_some]
  have n3 : ∀ o, o ≠ 23 → o ≠ 24 → o ≠ 25 → d o = b o := fun o x y w => by rw [d2 o w, c2 o y, w_ne _ _ _ x]
  refine ⟨d, rfl, fun o h1 h2 h3 h4 h5 h6 => by rw [n3 o h4 h5 h6, n2 o h1 h2 h3], ?_, ?_, ?_, ?_, fun i hi => ?_, ?_, fun i hi => ⟨?_, ?_⟩⟩
  · rw [n3 17 (by decide) (by decide) (by decide), b2 17 (by decide)]; exact v1
  · rw [n3 17 (by decide) (by decide) (by decide), b2 17 (by decide)]; exact v2
  · rw [n3 18 (by decide) (by decide) (by decide), b2 18 (by decide)]; exact v3
  · rw [n3 18 (by decide) (by decide) (by decide), b2 18 (by decide)]; exact v4
  · rw [n3 22 (by decide) (by decide) (by decide), b3, if_pos hi]
  · rw [d2 23 (by decide), c2 23 (by decide), w_at, if_pos ⟨rfl, rfl⟩]
  · rw [d2 24 (by decide), c3, if_pos hi]
  · rw [d3, if_pos hi]
end
section
/-! THE LAW's LOOPS -/
/-- all that was told stands -/
def LK (σ : Sg) (S : Nat) : Prop := GO σ S ∧ ∀ k, k ≤ S → q_lg σ 26 k = Tq (rp σ k) 12
def LJ (σ : Sg) (S : Nat) : Prop := GO σ S ∧ ∀ k, k < S → q_lg σ 26 k = Tq (rp σ k) 12
theorem LJ_of {σ : Sg} {S : Nat} (h : LK σ S) : LJ σ S := ⟨h.1, fun k hk => h.2 k (by omega)⟩
theorem LK_a {σ τ : Sg} (h : Fa σ τ) {S : Nat} (H : LK σ S) : LK τ S := ⟨GO_a h H.1, fun k hk => by rw [q_lg_o (h 26 (by decide)), rp_a h]; exact H.2 k hk⟩
theorem LJ_a {σ τ : Sg} (h : Fa σ τ) {S : Nat} (H : LJ σ S) : LJ τ S := ⟨GO_a h H.1, fun k hk => by rw [q_lg_o (h 26 (by decide)), rp_a h]; exact H.2 k hk⟩
/-- a number is told and kept -/
theorem l_keep {σ : Sg} {S : Nat} (H : LJ σ S) : ∃ σ1, f_L_told σ (nI S) = some (σ1, 0) ∧ LK (q_wrl σ1 26 S (q_lg σ1 200 0)) S := by
  obtain ⟨σ1, a1, a2, a3⟩ := k_tell H.1 (Nat.le_refl S)
  have hw : ∀ o, o ≤ 11 → q_wrl σ1 26 S (q_lg σ1 200 0) o = σ1 o := fun o ho => q_wrl_ne (by omega)
  have R : ∀ n, rp (q_wrl σ1 26 S (q_lg σ1 200 0)) n = rp σ n := fun n => (rp_cc hw n).trans (rp_a a2 n)
  refine ⟨σ1, a1, GO_c hw (GO_a a2 H.1), fun k hk => ?_⟩
  rw [R]
  by_cases e : k = S
  · rw [e, q_lg_wrl, a3]
  · rw [q_lg_wrl_ne _ _ _ _ _ e, q_lg_o (a2 26 (by decide))]
    exact H.2 k (by omega)
theorem l_443 (N : Nat) (rec : Sg → Int32 → Int32 → Rs) (x5 : Int32) {S : Nat} (hS : S ≤ 60) : ∀ (d k q : Nat) (σ : Sg), k + d = S + 1 → d < q → LK σ S → ∃ τ, f_L_law_L443 N rec q σ (nI S) x5 (nI k) = rec τ (nI S) (x5 + 1) ∧ LK τ S := by
  intro d
  induction d with
  | zero =>
    intro k q σ hk hq H
    obtain ⟨q, rfl⟩ : ∃ p, q = p + 1 := ⟨q - 1, by omega⟩
    refine ⟨σ, ?_, H⟩
    show s_L_law_L443 N rec (f_L_law_L443 N rec q) σ (nI S) x5 (nI k) = _
    unfold s_L_law_L443
    rw [if_pos (nI_lt (by omega) (by omega)), l_eq]
  | succ d ih =>
    intro k q σ hk hq H
    obtain ⟨q, rfl⟩ : ∃ p, q = p + 1 := ⟨q - 1, by omega⟩
    obtain ⟨σ1, a1, a2, a3⟩ := k_tell H.1 (show k ≤ S by omega)
    obtain ⟨τ, b1, b2⟩ := ih (k + 1) q σ1 (by omega) (by omega) (LK_a a2 H)
    refine ⟨τ, ?_, b2⟩
    show s_L_law_L443 N rec (f_L_law_L443 N rec q) σ (nI S) x5 (nI k) = _
    unfold s_L_law_L443
    rw [if_neg (nI_nlt (by omega) (by omega)), a1, b_some, if_neg (o_in (k := k) (n := 64) (by omega) (by decide)), z_cl (n := k) (by omega), a3, q_lg_o (a2 26 (by decide)), H.2 k (by omega), if_pos (cmp_same _), l_eq, nI_1]
    exact b1
theorem l_428 (N : Nat) (rec : Sg → Int32 → Int32 → Rs) (x5 : Int32) {S : Nat} (hS : S ≤ 60) {σ : Sg} (H : LK σ S) : ∃ τ, f_L_law_J428 N rec σ (nI S) x5 = rec τ (nI S) (x5 + 1) ∧ LK τ S := by
  have c := k_count H.1 (j := 0) (by decide)
  rw [cn_0] at c
  obtain ⟨τ, b1, b2⟩ := l_443 N rec x5 hS (S + 1) 0 1000 σ (by omega) (by omega) H
  refine ⟨τ, ?_, b2⟩
  unfold f_L_law_J428
  rw [show f_X5_count σ 0 = some (σ, nI S) from c, b_some, if_pos rfl]
  exact b1
theorem l_418 (N : Nat) (rec : Sg → Int32 → Int32 → Rs) (x5 : Int32) {S : Nat} (hS : S ≤ 60) {σ : Sg} (H : LJ σ S) : ∃ τ, f_L_law_J418 N rec σ (nI S) x5 = rec τ (nI S) (x5 + 1) ∧ LK τ S := by
  obtain ⟨σ1, a1, a2⟩ := l_keep H
  obtain ⟨τ, b1, b2⟩ := l_428 N rec x5 hS a2
  refine ⟨τ, ?_, b2⟩
  unfold f_L_law_J418
  rw [a1, b_some, if_neg (o_in (k := S) (n := 64) (by omega) (by decide)), ls_eq, z_cl (n := S) (by omega)]
  exact b1
theorem l_303 (N : Nat) (rec : Sg → Int32 → Int32 → Rs) (x5 : Int32) {S k : Nat} (hS : S ≤ 60) (hk : k < S) {σ : Sg} (H : LK σ S) (y : Int32) (hy : σ 6 k = 1 → ¬ y = 0) : ∃ τ S', S' ≤ S ∧ f_L_law_J303 N rec σ (nI S) x5 (nI k) y = rec τ (nI S') (x5 + 1) ∧ LK τ S' := by
  have G := H.1
  unfold f_L_law_J303
  rw [k_told0 G hk, b_some]
  rcases k_found G hk with h | ⟨w, σ1, h, F, G1, R, e7, e8⟩ | ⟨w, σ1, h, F, G1, R, e7, e6, e2⟩
  · obtain ⟨τ, b1, b2⟩ := l_418 N rec x5 hS (LJ_of H)
    refine ⟨τ, S, Nat.le_refl _, ?_, b2⟩
    rw [h, b_some, if_pos rfl]
    unfold f_L_law_J334 f_L_law_J376
    rw [if_neg (show ¬ (-2 : Int32) = -1 by decide), if_neg (show ¬ (-2 : Int32) = 1 by decide), if_neg (show ¬ (-2 : Int32) = 2 by decide)]
    exact b1
  · have J : LJ σ1 k := ⟨G1, fun n hn => by rw [q_lg_o (F 26 (by decide)), R n hn]; exact H.2 n (by omega)⟩
    obtain ⟨σ2, c1, c2⟩ := k_state G1 (Nat.le_refl k) (q := 1) (by decide)
    obtain ⟨σ3, d1, d2⟩ := k_state (GO_a c2 G1) (Nat.le_refl k) (q := 2) (by decide)
    have t1 : pTell (rp σ1 k) 1 = -4 := e7
    have t2 : pTell (rp σ2 k) 2 = 0 := by rw [rp_a c2]; exact e8
    rw [t1] at c1
    rw [t2] at d1
    obtain ⟨τ, b1, b2⟩ := l_418 N rec x5 (show k ≤ 60 by omega) (LJ_a d2 (LJ_a c2 J))
    refine ⟨τ, k, by omega, ?_, b2⟩
    rw [h, b_some, if_neg (show ¬ (1 : Int32) = -2 by decide), if_neg (hy w)]
    unfold f_L_law_J334 f_L_law_J376
    rw [if_neg (show ¬ (1 : Int32) = -1 by decide), if_pos rfl, show f_X5_state σ1 (nI k) 1 = some (σ2, -4) from c1, b_some, if_pos rfl, show f_X5_state σ2 (nI k) 2 = some (σ3, 0) from d1, b_some, if_pos rfl, if_neg (show ¬ (1 : Int32) = 2 by decide)]
    exact b1
  · have J : LJ σ1 S := ⟨G1, fun n hn => by rw [q_lg_o (F 26 (by decide)), R n hn]; exact H.2 n (by omega)⟩
    obtain ⟨σ2, c1, c2⟩ := k_state G1 (Nat.le_refl S) (q := 1) (by decide)
    have t1 : pTell (rp σ1 S) 1 = -4 := e7
    rw [t1] at c1
    obtain ⟨τ, b1, b2⟩ := l_418 N rec x5 hS (LJ_a c2 J)
    refine ⟨τ, S, Nat.le_refl _, ?_, b2⟩
    rw [h, b_some, if_neg (show ¬ (2 : Int32) = -2 by decide), if_neg (hy w)]
    unfold f_L_law_J334 f_L_law_J376
    rw [if_neg (show ¬ (2 : Int32) = -1 by decide), if_neg (show ¬ (2 : Int32) = 1 by decide), if_pos rfl, k_told3 G1 hk, b_some, e6, if_pos rfl, k_told0 G1 hk, b_some, e2, if_pos rfl, show f_X5_state σ1 (nI S) 1 = some (σ2, -4) from c1, b_some, if_pos rfl]
    exact b1
theorem l_258 (N : Nat) (rec : Sg → Int32 → Int32 → Rs) (x5 x6 : Int32) {S : Nat} (hS : S ≤ 60) {σ : Sg} (H : LK σ S) : ∃ τ S', S' ≤ S ∧ f_L_law_J258 N rec σ (nI S) x5 x6 = rec τ (nI S') (x5 + 1) ∧ LK τ S' := by
  obtain ⟨τ, b1, b2⟩ := l_428 N rec x5 hS H
  obtain ⟨k1, h1, e1⟩ := l_some σ (x6 >>> ((6 : Int32) &&& 31)) (n := 4) (by decide) (by decide)
  unfold f_L_law_J258
  rw [show f_L_some σ (x6 >>> ((6 : Int32) &&& 31)) 4 = some (σ, nI k1) from e1, b_some]
  by_cases c : nI k1 = 0
  · rw [if_pos c]
    by_cases s0 : nI S ≤ 0
    · rw [if_pos s0]
      exact ⟨τ, S, Nat.le_refl _, b1, b2⟩
    · rw [if_neg s0]
      have hS0 : 0 < S := by
        rcases Nat.eq_zero_or_pos S with e | e
        · exfalso
          apply s0
          rw [e]
          decide
        · exact e
      obtain ⟨k, hk, e2⟩ := l_some σ (x6 >>> ((8 : Int32) &&& 31)) (n := S) hS0 (by omega)
      rw [e2, b_some, k_told3 H.1 hk, b_some]
      by_cases w : σ 6 k = 1
      · rw [if_pos w]
        exact l_303 N rec x5 hS hk H 1 (fun _ => by decide)
      · rw [if_neg w]
        exact l_303 N rec x5 hS hk H 0 (fun z => absurd z w)
  · rw [if_neg c]
    exact ⟨τ, S, Nat.le_refl _, b1, b2⟩
theorem l_187 (N : Nat) (rec : Sg → Int32 → Int32 → Rs) (x5 x6 : Int32) {S kd : Nat} (hS : S ≤ 55) (hkd : kd ≤ 6) {σ : Sg} (H : LK σ S) : ∃ τ S', S' ≤ S + 1 ∧ f_L_law_J187 N rec σ (nI S) x5 x6 (nI kd) = rec τ (nI S') (x5 + 1) ∧ LK τ S' := by
  obtain ⟨b, hb, e1⟩ := l_some σ (x6 >>> ((3 : Int32) &&& 31)) (n := 4) (by decide) (by decide)
  unfold f_L_law_J187
  rw [show f_L_some σ (x6 >>> ((3 : Int32) &&& 31)) 4 = some (σ, nI b) from e1, b_some]
  rcases k_stroke H.1 (show S < 150 by omega) hkd hb with h | ⟨σ1, h, F, G1, R⟩
  · obtain ⟨τ, S', s1, s2, s3⟩ := l_258 N rec x5 x6 (show S ≤ 60 by omega) H
    refine ⟨τ, S', by omega, ?_, s3⟩
    rw [h, b_some, if_pos (by decide)]
    exact s2
  · have J : LJ σ1 (S + 1) := ⟨G1, fun n hn => by rw [q_lg_o (F 26 (by decide)), R n (by omega)]; exact H.2 n (by omega)⟩
    have c := k_count G1 (j := 0) (by decide)
    rw [cn_0] at c
    obtain ⟨σ2, a1, a2⟩ := l_keep J
    obtain ⟨τ, S', s1, s2, s3⟩ := l_258 N rec x5 x6 (show S + 1 ≤ 60 by omega) a2
    refine ⟨τ, S', s1, ?_, s3⟩
    have o64 : ¬ q_oob (nI (S + 1)) 64 := o_in (k := S + 1) (n := 64) (by omega) (by decide)
    have pos := T_pos (B_rp a2.1 (S + 1) (Nat.le_refl _))
    rw [h, b_some, if_neg (nI_pos (by omega)), if_pos rfl, show f_X5_count σ1 0 = some (σ1, nI (S + 1)) from c, b_some, nI_1, if_pos rfl, l_eq, a1, b_some, if_neg o64, ls_eq, if_neg o64, z_cl (n := S + 1) (by omega), a2.2 (S + 1) (Nat.le_refl _), if_pos (cmp_pos pos)]
    exact s2
theorem pT_h (p : Ps) {j : Nat} (hj : j < 4) : pTell p (5 + j) = p j := by
  match j, hj with
  | 0, _ => rfl
  | 1, _ => rfl
  | 2, _ => rfl
  | 3, _ => rfl
  | n + 4, h => exact absurd h (by omega)
theorem l_506 (N : Nat) (rec : Sg → Int32 → Int32 → Int32 → Rs) (x5 : Int32) {S k : Nat} (hS : S ≤ 60) (hk : k < S) : ∀ (d j q : Nat) (σ : Sg), j + d = 4 → d < q → GO σ S → ∃ τ, f_L_law_L506 N rec q σ (nI S) x5 (nI k) (nI j) = rec τ (nI S) x5 (nI (k + 1)) ∧ Fa σ τ := by
  intro d
  induction d with
  | zero =>
    intro j q σ hj hq G
    obtain ⟨q, rfl⟩ : ∃ p, q = p + 1 := ⟨q - 1, by omega⟩
    have : j = 4 := by omega
    subst this
    refine ⟨σ, ?_, Fa_r _⟩
    show s_L_law_L506 N rec (f_L_law_L506 N rec q) σ (nI S) x5 (nI k) (nI 4) = _
    unfold s_L_law_L506
    rw [if_pos (by decide), l_eq, nI_1]
  | succ d ih =>
    intro j q σ hj hq G
    obtain ⟨q, rfl⟩ : ∃ p, q = p + 1 := ⟨q - 1, by omega⟩
    obtain ⟨σ1, a1, a2⟩ := k_state G (show k ≤ S by omega) (q := 5 + j) (by omega)
    obtain ⟨σ2, b1, b2⟩ := k_state (GO_a a2 G) (show k + 1 ≤ S by omega) (q := 5 + j) (by omega)
    obtain ⟨τ, c1, c2⟩ := ih (j + 1) q σ2 (by omega) (by omega) (GO_a b2 (GO_a a2 G))
    refine ⟨τ, ?_, Fa_t a2 (Fa_t b2 c2)⟩
    have e5 : (5 : Int32) + nI j = nI (5 + j) := nI_add 5 j
    rw [pT_h _ (show j < 4 by omega)] at a1
    rw [pT_h _ (show j < 4 by omega), rp_a a2] at b1
    show s_L_law_L506 N rec (f_L_law_L506 N rec q) σ (nI S) x5 (nI k) (nI j) = _
    unfold s_L_law_L506
    rw [if_neg (show ¬ (4 : Int32) ≤ nI j from nI_ge (b := 4) (by omega) (by decide)), e5, a1, b_some, nI_1, b1, b_some, l_eq, nI_1, c1]
    by_cases x : rp σ (k + 1) j = rp σ k j
    · rw [if_pos x]
    · rw [if_neg x, if_pos ((H_rp G hk (show j < 4 by omega)).resolve_left x)]
theorem cn_c {σ τ : Sg} (h : τ 6 = σ 6) (j : Nat) : ∀ k, cn τ j k = cn σ j k := by
  intro k
  induction k with
  | zero => rfl
  | succ k ih =>
    show cn τ j k + (if j = 0 then 1 else τ 6 k) = cn σ j k + (if j = 0 then 1 else σ 6 k)
    rw [ih, h]
theorem l_484 (N : Nat) {S : Nat} (hS : S ≤ 60) : ∀ (d k q : Nat) (σ : Sg), k + d = S → d < q → GO σ S → ∃ τ, f_L_law_L484 N q σ (nI S) (cn σ 1 k) (nI k) = some (τ, 1) := by
  intro d
  induction d with
  | zero =>
    intro k q σ hk hq G
    obtain ⟨q, rfl⟩ : ∃ p, q = p + 1 := ⟨q - 1, by omega⟩
    have : k = S := by omega
    subst this
    refine ⟨σ, ?_⟩
    show s_L_law_L484 N (f_L_law_L484 N q) σ (nI k) (cn σ 1 k) (nI k) = _
    unfold s_L_law_L484
    rw [if_pos (nI_le (Nat.le_refl _) (by omega)), show f_X5_count σ 1 = some (σ, cn σ 1 k) from k_count G (j := 1) (by decide), b_some, if_pos rfl]
  | succ d ih =>
    intro k q σ hk hq G
    obtain ⟨q, rfl⟩ : ∃ p, q = p + 1 := ⟨q - 1, by omega⟩
    obtain ⟨σ1, a1, a2⟩ := l_506 N (f_L_law_L484 N q) (cn σ 1 (k + 1)) hS (show k < S by omega) 4 0 1000 σ (by omega) (by omega) G
    obtain ⟨τ, b1⟩ := ih (k + 1) q σ1 (by omega) (by omega) (GO_a a2 G)
    rw [cn_c (a2 6 (by decide))] at b1
    refine ⟨τ, ?_⟩
    show s_L_law_L484 N (f_L_law_L484 N q) σ (nI S) (cn σ 1 k) (nI k) = _
    unfold s_L_law_L484
    have e : cn σ 1 k + σ 6 k = cn σ 1 (k + 1) := by
      show _ = cn σ 1 k + (if (1 : Nat) = 0 then 1 else σ 6 k)
      rw [if_neg (by decide)]
    rw [if_neg (nI_ge (by omega) (by omega)), k_told3 G (show k < S by omega), b_some, l_eq, e]
    exact a1.trans b1
theorem l_122 (N : Nat) (hN : N ≤ 260) : ∀ (d t q : Nat) (σ : Sg) (S : Nat), t + d = 55 → d < q → S ≤ t → LK σ S → ∃ τ, f_L_law_L122 N q σ (nI S) (nI t) = some (τ, 1) := by
  intro d
  induction d with
  | zero =>
    intro t q σ S ht hq hS H
    obtain ⟨q, rfl⟩ : ∃ p, q = p + 1 := ⟨q - 1, by omega⟩
    have : t = 55 := by omega
    subst this
    obtain ⟨τ, b⟩ := l_484 N (show S ≤ 60 by omega) S 0 1000 σ (by omega) (by omega) H.1
    refine ⟨τ, ?_⟩
    show s_L_law_L122 N (f_L_law_L122 N q) σ (nI S) (nI 55) = _
    unfold s_L_law_L122
    rw [if_pos (by decide)]
    exact b
  | succ d ih =>
    intro t q σ S ht hq hS H
    obtain ⟨q, rfl⟩ : ∃ p, q = p + 1 := ⟨q - 1, by omega⟩
    obtain ⟨v, ev⟩ := l_cell hN σ (i := t) (by omega)
    obtain ⟨kd, hkd, ek⟩ := l_some σ v (n := 7) (by decide) (by decide)
    obtain ⟨σ1, a1, a2⟩ := k_state H.1 (Nat.le_refl S) (q := 1) (by decide)
    obtain ⟨σ2, b1, b2⟩ := k_state (GO_a a2 H.1) (Nat.le_refl S) (q := 4) (by decide)
    have H2 : LK σ2 S := LK_a b2 (LK_a a2 H)
    have go : ∀ k, k ≤ 6 → ∃ τ, f_L_law_J187 N (f_L_law_L122 N q) σ2 (nI S) (nI t) v (nI k) = some (τ, 1) := fun k hk => by
      obtain ⟨τ, S', s1, s2, s3⟩ := l_187 N (f_L_law_L122 N q) (nI t) v (show S ≤ 55 by omega) hk H2
      obtain ⟨τ', e⟩ := ih (t + 1) q τ S' (by omega) (by omega) (by omega) s3
      exact ⟨τ', by rw [s2, nI_1]; exact e⟩
    show ∃ τ, s_L_law_L122 N (f_L_law_L122 N q) σ (nI S) (nI t) = some (τ, 1)
    unfold s_L_law_L122
    rw [if_neg (show ¬ (55 : Int32) ≤ nI t from nI_ge (b := 55) (by omega) (by decide)), ev, b_some, show f_L_some σ v 7 = some (σ, nI kd) from ek, b_some, show f_X5_state σ (nI S) 1 = some (σ1, pTell (rp σ S) 1) from a1, b_some, show f_X5_state σ1 (nI S) 4 = some (σ2, pTell (rp σ1 S) 4) from b1, b_some]
    unfold f_L_law_J185
    by_cases c1 : pTell (rp σ1 S) 4 < 0
    · rw [if_pos c1]
      by_cases c2 : 0 ≤ pTell (rp σ S) 1
      · rw [if_pos c2]
        exact go kd (by omega)
      · rw [if_neg c2]
        by_cases c3 : nI kd = 6
        · rw [if_pos c3]
          exact go kd (by omega)
        · rw [if_neg c3]
          exact go 0 (by decide)
    · rw [if_neg c1]
      exact go 4 (by decide)
end
section
/-! THE LAW ANSWERS 1 -/
/-- the state at the law's entry: the script -/
def q_s0 (xs : Nat → Int32) : Sg := fun o i => if o = 105 then xs i else 0
theorem l_62 {N : Nat} (hN : N ≤ 260) {σ : Sg} {p r : Nat} (hp : p < 20) (hr : r < 20) (a b : Bool) {lw : Lw} (h : RLc σ (zT p r a b) 0 lw) (h3 : σ 22 3 = 1000) (h6 : σ 22 6 = 1000) (v : Int32) : ∃ τ, f_L_law_J62 N σ v (nI p) (z_let a) (nI r) (z_let b) = some (τ, 1) := by
  obtain ⟨σ1, a1, a2⟩ := l_laws hp hr a b h
  obtain ⟨k, hk, ek⟩ := l_some σ1 (v >>> ((10 : Int32) &&& 31)) (n := 2001) (by decide) (by decide)
  have ei := l_index σ1 hk
  rw [a2 22 (by decide), h3] at ei
  have x3 : q_wr σ1 22 3 (nI k) 22 3 = nI k := by rw [w_at, if_pos ⟨rfl, rfl⟩]
  have x6 : q_wr σ1 22 3 (nI k) 22 6 = 1000 := by rw [w_at, if_neg (by decide), a2 22 (by decide), h6]
  obtain ⟨σ2, g, g1, g2, g3, g4⟩ := l_game (σ := q_wr σ1 22 3 (nI k)) (by rw [x3, z_nI (by omega)]; omega) (by rw [x6]; decide)
  have F : ∀ o, o ≤ 11 → q_clr σ2 26 o = σ2 o := fun o ho => by
    funext i
    rw [c_at, if_neg (by omega)]
  have G : GO (q_clr σ2 26) 0 := GO_c F g4
  obtain ⟨σ3, b1, b2⟩ := l_keep (σ := q_clr σ2 26) (S := 0) ⟨G, fun k hk => absurd hk (by omega)⟩
  obtain ⟨τ, e⟩ := l_122 N hN 55 0 1000 _ 0 (by omega) (by decide) (Nat.le_refl _) b2
  refine ⟨τ, ?_⟩
  unfold f_L_law_J62
  rw [a1, b_some, if_neg (by decide), show f_L_some σ1 (v >>> ((10 : Int32) &&& 31)) 2001 = some (σ1, nI k) from ek, b_some, ei, b_some, if_pos rfl, g1, b_some, if_pos g2, ls_eq, show f_L_told (q_clr σ2 26) 0 = some (σ3, 0) from b1, b_some, if_neg (show ¬ q_oob (0 : Int32) 64 by decide), ls_eq]
  exact e
theorem q_main (xs : Nat → Int32) {L : Nat} (hL : L ≤ 260) : ∃ σ', f_L_law L (q_s0 xs) = some (σ', 1) := by
  have hz : ∀ o, o < 100 → ∀ i, q_s0 xs o i = 0 := by
    intro o ho i
    unfold q_s0
    rw [if_neg (by omega)]
  obtain ⟨c, c1, c2, c17, c17', c18, c18', c22, c23, c24⟩ := i_class (s := q_s0 xs) hz
  have R : ∀ T : Nat → Int32, RLc c T 0 (fun k => if k = 0 then some (5, true) else if k = 1 then some (2, false) else none) := fun T => by
    refine ⟨?_, fun i h => absurd h (by omega), fun k hk => ?_⟩
    · rw [c2 15 (by decide) (by decide) (by decide) (by decide) (by decide) (by decide)]
      exact hz 15 (by decide) 1
    · match k, hk with
      | 0, _ => exact ⟨c17, c18⟩
      | 1, _ => exact ⟨c17', c18'⟩
      | n + 2, h => exact absurd h (by omega)
  obtain ⟨v, ev⟩ := l_cell hL c (i := 63) (by decide)
  obtain ⟨p, hp, ep⟩ := l_some c v (n := 20) (by decide) (by decide)
  obtain ⟨r, hr, er⟩ := l_some c (v >>> ((4 : Int32) &&& 31)) (n := 20) (by decide) (by decide)
  have go : ∀ a b : Bool, ∃ τ, f_L_law_J62 L c v (nI p) (z_let a) (nI r) (z_let b) = some (τ, 1) := fun a b => l_62 hL hp hr a b (R _) (c22 3 (by decide)) (c22 6 (by decide)) v
  have go2 : ∀ a : Bool, ∃ τ, f_L_law_J38 L c v (nI p) (z_let a) = some (τ, 1) := fun a => by
    unfold f_L_law_J38
    rw [show f_L_some c (v >>> ((4 : Int32) &&& 31)) 20 = some (c, nI r) from er, b_some]
    by_cases e : ((v >>> ((9 : Int32) &&& 31)) &&& (1 : Int32)) = 0
    · rw [if_pos e]
      exact go a true
    · rw [if_neg e]
      exact go a false
  unfold f_L_law
  rw [ls_eq, z_clr (hz 0 (by decide)), c1, b_some, show f_L_cell 105 L c 63 = some (c, v) from ev, b_some, show f_L_some c v 20 = some (c, nI p) from ep, b_some]
  by_cases e : ((v >>> ((8 : Int32) &&& 31)) &&& (1 : Int32)) = 0
  · rw [if_pos e]
    exact go2 true
  · rw [if_neg e]
    exact go2 false
end
section
/-! the law's entry, out of the mathematics (q_main) -/
/-! THE CLAIM OUT OF ONE WALK OF THE LAW'S BODY. Your part is whole_start (and what it stands on); all else here is the same for every law, but numbers. -/
def R_law : String := "CroquetLawnLaw"
def lw_P (b : Addr) (xs : List Int32) (args : Array Value) (s : State) : Prop := args = #[.ref b] ∧ s.IntsAt b xs ∧ xs.length ≤ 260 ∧ (Jvm.Cond.and given_1 narrow_1).before args s = true
def lw_Q (_ : Array Value) (s : State) (o : Outcome) (t : State) : Prop := o = .returned (some (.int 1)) ∧ Framed s o t [] 27 1099
def lw_Z (below : List Frame) (a : Array Value) (s : State) : State → Prop := fun t => ∃ o, t.status = .running ∧ Ended t below o ∧ lw_Q a s o t
/-- the law's own end, with 1 on the stack, nothing written that was there before, its room as the claim has it -/
theorem lw_ret {p : Program} {l : Launch} {e : Env} {s : State} {m : MethodId} {below : List Frame} {meth : Method} {c : Code} {b : Nat} (hx : p.tables.exec = Jvm.exec) (hb : c.code = code) (hr : meth.sig.returnType = ret) (hlocks : meth.locks = false) {pc : Nat} {H : Heap} {ls : Array Slot} (hdg : decode code pc = .ok (.ireturn, 1)) : W p l e room_1 s m #[Value.ref b] below meth c H [] 27 1099 (lw_Z below #[Value.ref b] s) (F0 m pc ls [.int 1]) := by
  intro T hT X
  obtain ⟨fs, hret, hrun, hended, hW, hframe⟩ := X.leave (v := some (.int 1)) (hlocks := hlocks) (fun h => by rw [hr] at h; cases h)
  have hmeth' : T.vm.method? m = some meth := X.method'
  refine ⟨T.setFrames fs, ?_, .returned (some (.int 1)), hrun, hended, rfl, ⟨_, rfl⟩, hW, hframe⟩
  jvm_step X.here [X.here.top, hx, hb, hdg, hmeth', hr, ret, narrow_b1]
  (try refine ⟨rfl, ?_⟩); (try refine ⟨rfl, ?_⟩)
  first | (intro acts; rw [hret _ acts rfl rfl rfl]) | rw [hret _ _ rfl rfl rfl]
  exact Steps.refl _
/-- what holds at the law's entry: the machine, the code, the tables' words (any of lw_tbl by 'hts w (by decide +kernel)'), the script of L ints xs at the cell b, what the Statement gives of the start (any of its parts by flat_of_before) -/
def lw_At (p : Program) (s : State) (m : MethodId) (meth : Method) (c : Code) (b L : Nat) (xs : Nat → Int32) : Prop :=
  p.tables.exec = Jvm.exec ∧ c.code = code ∧ meth.sig.returnType = ret ∧ c.maxLocals = 14 ∧ s.vm.findClass R_law = some m.cls ∧ (∀ w ∈ lw_tbl, w.before #[Value.ref b] s = true) ∧ va_X b L xs s s.heap ∧ b < s.heap.size ∧ meth.locks = false ∧ (Jvm.Cond.and given_1 narrow_1).before #[Value.ref b] s = true
theorem q_known {b : Nat} {s : State} (hts : ∀ w ∈ lw_tbl, w.before #[Value.ref b] s = true) : ∃ (dC : Nat → ClassId) (dI : Nat → Nat → Nat), ∀ (k : Nat) (q : vw_C), vwCl[k]? = some q → u_Kn s q.1 q.2.1 q.2.2 (dC k) (dI k) := by
  obtain ⟨c0, i0, k0⟩ := u_known (C := RX0) (T := TX0) (N := 7) (n := 7) hts (fun w h => (List.mem_filter.mp (iwX0 w h)).1) (hts (.instantiable RX0 7) (by decide +kernel))
  obtain ⟨c1, i1, k1⟩ := u_known (C := RX1) (T := TX1) (N := 3) (n := 3) hts (fun w h => (List.mem_filter.mp (iwX1 w h)).1) (hts (.instantiable RX1 3) (by decide +kernel))
  obtain ⟨c2, i2, k2⟩ := u_known (C := RX2) (T := TX2) (N := 13) (n := 13) hts (fun w h => (List.mem_filter.mp (iwX2 w h)).1) (hts (.instantiable RX2 13) (by decide +kernel))
  obtain ⟨c3, i3, k3⟩ := u_known (C := RX3) (T := TX3) (N := 8) (n := 8) hts (fun w h => (List.mem_filter.mp (iwX3 w h)).1) (hts (.instantiable RX3 8) (by decide +kernel))
  obtain ⟨c4, i4, k4⟩ := u_known (C := RX4) (T := TX4) (N := 1) (n := 1) hts (fun w h => (List.mem_filter.mp (iwX4 w h)).1) (hts (.instantiable RX4 1) (by decide +kernel))
  obtain ⟨c5, i5, k5⟩ := u_known (C := RX5) (T := TX5) (N := 4) (n := 4) hts (fun w h => (List.mem_filter.mp (iwX5 w h)).1) (hts (.instantiable RX5 4) (by decide +kernel))
  refine ⟨fun k => if k = 0 then c0 else if k = 1 then c1 else if k = 2 then c2 else if k = 3 then c3 else if k = 4 then c4 else c5, fun k => if k = 0 then i0 else if k = 1 then i1 else if k = 2 then i2 else if k = 3 then i3 else if k = 4 then i4 else i5, ?_⟩
  intro k q hq
  match k, hq with
  | 0, hq => cases hq; exact k0
  | 1, hq => cases hq; exact k1
  | 2, hq => cases hq; exact k2
  | 3, hq => cases hq; exact k3
  | 4, hq => cases hq; exact k4
  | 5, hq => cases hq; exact k5
  | k + 6, hq => simp [vwCl] at hq
theorem q_arr {b : Nat} {s : State} {ty : FieldType} (hty : ∀ C, ty ≠ .object C) (h : (Cond.arrayClass ty).before #[Value.ref b] s = true) : ∃ cA : ClassId, ArrOfT s cA ty ∧ va_RA s cA ty := by
  obtain ⟨c, k, comp, h1, h2, h3⟩ := Cond.arrayClass_spec h
  refine ⟨c, fun n z => ⟨fun k h => (by cases h), k, h2, comp, h3⟩, ?_⟩
  cases ty with
  | object C => exact absurd rfl (hty C)
  | _ => exact h1
set_option maxHeartbeats 4000000 in
set_option maxRecDepth 100000 in
theorem whole_start {p : Program} {e : Env} {s : State} {m : MethodId} {below : List Frame} {meth : Method} {c : Code} (l : Launch) (hflags : l.flags = flags0) {b L : Nat} {xs : Nat → Int32} (hL : L ≤ 260) (C0 : lw_At p s m meth c b L xs) : W p l e room_1 s m #[Value.ref b] below meth c s.heap [] 0 0 (lw_Z below #[Value.ref b] s) (entryFrame m ([Value.ref b] : List Value).toArray 14) := by
  obtain ⟨hx, hb, hr, hml, hown, hts, hX, hbl, hlocks, hgv⟩ := C0
  obtain ⟨dC, dI, hKn⟩ := q_known hts
  obtain ⟨cI, hcI⟩ := q_arr (ty := .int) (fun C h => by cases h) (hts (.arrayClass .int) (by decide +kernel))
  obtain ⟨cZ, hcZ⟩ := q_arr (ty := .long) (fun C h => by cases h) (hts (.arrayClass .long) (by decide +kernel))
  let ad : Nat → Nat := fun o => if o < 64 then s.heap.size + o else b
  let X : q_Cx := (l, (dC, dI), (cI, cZ), ad, s.heap.size, L)
  have hFX : q_FX X s := by
    refine ⟨⟨hKn, fun k q hk => ?_⟩, fun q hq => ?_, fun o ho => ?_⟩
    · match k, hk with
      | 0, hk => cases hk; exact hcI
      | 1, hk => cases hk; exact hcZ
      | k + 2, hk => simp at hk
    · have h1 : ∀ q ∈ q_nests, Cond.methodLinkNest q.1 q.2.1 q.2.2 "CroquetLawn" ∈ lw_tbl := by decide +kernel
      exact va_Nw.of rfl (hts _ (h1 q hq))
    · show (if o < 64 then s.heap.size + o else _) = _
      rw [if_pos ho]
  have hST : q_ST X (q_s0 xs) s s.heap := by
    obtain ⟨scr, h1, h2, h3, h4, h5⟩ := hX
    exact ⟨scr, h1, h2, h3, by rw [h4]; exact Nat.le_refl _, by rw [h4] <;> rfl, h5, Nat.not_le.mpr hbl⟩
  obtain ⟨σ', hm⟩ := q_main xs hL
  have hG := t_law (X := X) (q_s0 xs)
  have hV : q_MC X mL_law p s m #[Value.ref b] meth c := ⟨hx, hb, hr, hml, hown, fun w h => hts w (List.mem_filter.mp h).1, hlocks, fun h => absurd h (by decide), hFX⟩
  have hP : va_P (xD X) vwCl (q_W X [] (q_s0 xs)) s.heap := fun k q h => by simp [q_W] at h
  have hl := lv_entry ([.ref b]) (n := 14) (Nat.le_of_ble_eq_true rfl)
  rw [lg_entry_eq]
  refine q_Wmono (hG ⟨_, hm⟩ p e s m _ below meth c s.heap [] _ hV hP rfl (by decide) hST va_S.rf hl) ?_
  intro t ht
  obtain ⟨σ'', r, e1, e2, e3, e4⟩ := ht (Nat.le_refl _)
  rw [show xn X = L from rfl, hm] at e1
  cases e1
  exact ⟨_, e2, e3, rfl, e4⟩
-- ===== YOUR PART ENDS =====
set_option maxHeartbeats 4000000 in
theorem lw_walk (l : Launch) (hflags : l.flags = flags0) (b : Addr) (xs : List Int32) : MetFree l x (headSpec (Jvm.Cond.code x code maxLocals ret :: tables_1) room_1) (lw_P b xs) (fun _ _ _ _ _ => True) lw_Q := by
  refine MetFree.of_bodyS (code := code) (maxLocals := maxLocals) (ret := ret) (by decide) ?_ ?_
  · intro args s m h hn
    obtain ⟨meth, c, h1, h2, h3, h4, h5, h6, -, -⟩ := Cond.code_spec hn (atoms_spec (ws := Jvm.Cond.code x code maxLocals ret :: tables_1) h _ List.mem_cons_self)
    exact ⟨meth, c, h1, h2, h3, h4, h5, h6⟩
  · intro p e s m args below meth c s₁ B hml0 hP _
    obtain ⟨rfl, hx, hbd, hgv⟩ := hP
    obtain ⟨scr, harrAt, hlist, hof, hsmall⟩ := hx
    obtain ⟨hcb, hkn, -, -⟩ := State.arrayAt?_spec harrAt
    have hown : s.vm.findClass R_law = some m.cls := findClass_of_methodNamed B.named
    have hts0 : ∀ c ∈ (Jvm.Cond.code x code maxLocals ret :: tables_1), c.before #[Value.ref b] s = true := atoms_spec (ws := Jvm.Cond.code x code maxLocals ret :: tables_1) B.pre
    have hts : ∀ w ∈ lw_tbl, w.before #[Value.ref b] s = true := k2_hts_sels lw_privs (fun w hw => hts0 w (List.mem_cons_of_mem _ hw)) lw_privs_ok
    have hml : c.maxLocals = 14 := B.maxLocals_eq (hts0 _ List.mem_cons_self)
    have X₀ : Stand p l e room_1 s m #[Value.ref b] below meth c s₁ [] 0 0 := Stand.of_body B
    have hh0 : s₁.heap = s.heap := by rw [B.state]; rfl
    have hsz : scr.slots.size = xs.length := by rw [← Array.length_toList, hlist, List.length_map]
    have hval : ∀ j : Nat, j < xs.length → scr.slots[j]? = some (.int (xs.getD j 0)) := fun j hj => by
      rw [← Array.getElem?_toList, hlist]
      simp [hj]
    have hbl : b < s.heap.size := (Array.getElem?_eq_some_iff.mp hcb).1
    have hX : va_X b xs.length (fun j => xs.getD j 0) s s.heap := ⟨scr, hcb, hof, hkn, hsz, hval⟩
    have K : W p l e room_1 s m #[Value.ref b] below meth c s₁.heap [] 0 0 (lw_Z below #[Value.ref b] s) (entryFrame m ([Value.ref b] : List Value).toArray 14) := by
      rw [hh0]
      exact whole_start l hflags hbd ⟨B.exec, B.bytes, B.returns, hml, hown, hts, hX, hbl, B.notSynchronized, hgv⟩
    obtain ⟨t, a1, o, b1, b2, b3⟩ := K s₁ rfl X₀
    exact ⟨t, o, a1, b1, b2, b3⟩
theorem lw_pre_spec {args : Array Value} {s : State} (h : (Jvm.Cond.and given_1 narrow_1).before args s = true) (hr : rest_1_c.before args s = true) : ∃ (b : Addr) (xs : List Int32), lw_P b xs args s := by
  have hs := flat_of_before _ h
  have hq := flat_of_before _ hr
  have hc : (Cond.count 1).before args s = true := hs _ (by decide +kernel)
  have harr : (Cond.arrayOf (.arg 0) .int).before args s = true := hs _ (by decide +kernel)
  have hle : (Cond.le (.length (.arg 0)) (.int 260)).before args s = true := hs _ (by decide +kernel)
  have hlen : (Cond.isInt (.length (.arg 0))).before args s = true := hq _ (by decide +kernel)
  have hall : (Cond.all (.arg 0) (.isInt (.elem (.arg 0) (.index 0)))).before args s = true := hq _ (by decide +kernel)
  obtain ⟨b, xs, hb, hx⟩ := State.ints_of_pre rfl harr hlen hall
  have hsm : xs.length < 2 ^ 31 := hx.choose_spec.2.2.2
  have hev : (Term.length (.arg 0)).eval args s none [] s = some (.int xs.length.toInt32) := hx.length_eval hb
  have hv := Cond.le_ints hev (show (Term.int 260).eval args s none [] s = some (.int 260) from rfl)
  have hd : xs.length.toInt32 ≤ 260 := by
    simpa [Cond.before, Cond.holds, hv] using hle
  have hN : xs.length ≤ 260 := (Int32.ofNat_le_ofNat hsm (by decide)).mp (show Int32.ofNat xs.length ≤ Int32.ofNat 260 from hd)
  exact ⟨b, xs, Cond.one_arg hc (show args[0]? = some (.ref b) from hb), hx, hN, h⟩
theorem lw_comes (l : Launch) (hflags : l.flags = flags0) : Comes l x (Jvm.Cond.code x code maxLocals ret :: tables_1) room_1 (fun tb e args s => Calls_1 tb e args s ∧ rest_1 tb e args s ∧ Pre_1 tb e args s)
    (fun _ _ args s o t => lw_Q args s o t) := by
  intro p e ha hc hk s m args below hf hfit hheap happ hpre
  obtain ⟨b, xs, hP⟩ := lw_pre_spec hpre.2.2 hpre.2.1
  obtain ⟨k, o, h1, h2, h3, hQ⟩ := lw_walk l hflags b xs p e ha hc hk s m args below hf ((Spec.applies_iff_loose hf).mp happ).1 hP trivial
  exact ⟨k, o, h1, h2, h3, hQ⟩
theorem lw_frame {s t : State} {o : Outcome} {args : Array Value} (h : Framed s o t [] 27 1099) :
    Framed s o t (fieldLocs frame_1_writes args s ++ arrayLocs frame_1_arrays args s ++ staticLocs frame_1_statics s) 27 1099 := h
theorem lw_limb (L : Cond) (hL : ∀ (args : Array Value) (s t : State), L.after args s (.returned (some (.int 1))) t = true) :
    ArmFor flags0 classFile x code maxLocals ret World_1 tables_1 room_1 Calls_1 rest_1 Pre_1
      (fun tb e a s o t => postC L tb e a s o t ∧ Framed s o t (fieldLocs frame_1_writes a s ++ arrayLocs frame_1_arrays a s ++ staticLocs frame_1_statics s) 27 1099) := by
  intro l hflags _ _ p e ha hc hk s m args below hf hfit hheap happ hpre
  obtain ⟨k, o, h1, h2, h3, rfl, hF⟩ := lw_comes l hflags p e ha hc hk s m args below hf hfit hheap happ hpre
  exact ⟨k, _, h1, h2, h3, hL args s _, lw_frame hF⟩
theorem i_vc : Claimed_1_1 ∧ Claimed_1_2 := ⟨lw_limb limb_1_1 (fun args s t => by simp [limb_1_1, Cond.after, Cond.holds, Cond.value]), lw_limb limb_1_2 (fun args s t => Cond.after_iff.mpr (by
  first | (rw [show limb_1_2 = Cond.eq .result (.int 1) from rfl, Cond.eq_ints (x := 1) (y := 1) rfl rfl]; simp; done) | (simp [limb_1_2, Cond.value, Term.eval]; done)))⟩
end
