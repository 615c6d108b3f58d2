section
-- names of the classes, fields, methods; decode rows: out of the claim's own printed NAMES text, by wip/gen/names.py
-- ===== PART A: goes FIRST, ahead of the names: the tables' words, and 'selects' of the private methods out of them =====
/-- a private method of a class that the tables say can be made, by its rows of tables_1 -/
def lw_okq (q : MethodName × Nat) : Prop := (q.1.cls ≠ "java/lang/invoke/MethodHandle" ∧ q.1.cls ≠ "java/lang/invoke/VarHandle") ∧ Cond.instantiable q.1.cls q.2 ∈ tables_1 ∧ Cond.privateMethod q.1 ∈ tables_1 ∧ Cond.instanceMethod q.1 ∈ tables_1
theorem lw_p0 : lw_okq (⟨"CroquetLawn$Position", "allowsFree", "()Z"⟩, 8) := ⟨⟨by decide +kernel, by decide +kernel⟩, List.mem_of_getElem? (i := 24) (by decide +kernel), List.mem_of_getElem? (i := 233) (by decide +kernel), List.mem_of_getElem? (i := 234) (by decide +kernel)⟩
theorem lw_p1 : lw_okq (⟨"CroquetLawn$Position", "allowsFresh", "(II)Z"⟩, 8) := ⟨⟨by decide +kernel, by decide +kernel⟩, List.mem_of_getElem? (i := 24) (by decide +kernel), List.mem_of_getElem? (i := 237) (by decide +kernel), List.mem_of_getElem? (i := 238) (by decide +kernel)⟩
theorem lw_p2 : lw_okq (⟨"CroquetLawn$Play", "noteStriker", "(I)V"⟩, 13) := ⟨⟨by decide +kernel, by decide +kernel⟩, List.mem_of_getElem? (i := 18) (by decide +kernel), List.mem_of_getElem? (i := 248) (by decide +kernel), List.mem_of_getElem? (i := 249) (by decide +kernel)⟩
theorem lw_p3 : lw_okq (⟨"CroquetLawn$Position", "bringIn", "(I)V"⟩, 8) := ⟨⟨by decide +kernel, by decide +kernel⟩, List.mem_of_getElem? (i := 24) (by decide +kernel), List.mem_of_getElem? (i := 264) (by decide +kernel), List.mem_of_getElem? (i := 265) (by decide +kernel)⟩
theorem lw_p4 : lw_okq (⟨"CroquetLawn$Position", "roquet", "(I)V"⟩, 8) := ⟨⟨by decide +kernel, by decide +kernel⟩, List.mem_of_getElem? (i := 24) (by decide +kernel), List.mem_of_getElem? (i := 272) (by decide +kernel), List.mem_of_getElem? (i := 273) (by decide +kernel)⟩
theorem lw_p5 : lw_okq (⟨"CroquetLawn$Position", "croquet", "()V"⟩, 8) := ⟨⟨by decide +kernel, by decide +kernel⟩, List.mem_of_getElem? (i := 24) (by decide +kernel), List.mem_of_getElem? (i := 276) (by decide +kernel), List.mem_of_getElem? (i := 277) (by decide +kernel)⟩
theorem lw_p6 : lw_okq (⟨"CroquetLawn$Position", "spendFree", "()V"⟩, 8) := ⟨⟨by decide +kernel, by decide +kernel⟩, List.mem_of_getElem? (i := 24) (by decide +kernel), List.mem_of_getElem? (i := 280) (by decide +kernel), List.mem_of_getElem? (i := 281) (by decide +kernel)⟩
theorem lw_p7 : lw_okq (⟨"CroquetLawn$Play", "has", "(I)Z"⟩, 13) := ⟨⟨by decide +kernel, by decide +kernel⟩, List.mem_of_getElem? (i := 18) (by decide +kernel), List.mem_of_getElem? (i := 292) (by decide +kernel), List.mem_of_getElem? (i := 293) (by decide +kernel)⟩
theorem lw_p8 : lw_okq (⟨"CroquetLawn$Play", "leadTo", "(LCroquetLawn$Position;I)V"⟩, 13) := ⟨⟨by decide +kernel, by decide +kernel⟩, List.mem_of_getElem? (i := 18) (by decide +kernel), List.mem_of_getElem? (i := 305) (by decide +kernel), List.mem_of_getElem? (i := 306) (by decide +kernel)⟩
theorem lw_p9 : lw_okq (⟨"CroquetLawn$Play", "takeAway", "(I)I"⟩, 13) := ⟨⟨by decide +kernel, by decide +kernel⟩, List.mem_of_getElem? (i := 18) (by decide +kernel), List.mem_of_getElem? (i := 331) (by decide +kernel), List.mem_of_getElem? (i := 332) (by decide +kernel)⟩
theorem lw_p10 : lw_okq (⟨"CroquetLawn$Play", "stopTurn", "(I)I"⟩, 13) := ⟨⟨by decide +kernel, by decide +kernel⟩, List.mem_of_getElem? (i := 18) (by decide +kernel), List.mem_of_getElem? (i := 335) (by decide +kernel), List.mem_of_getElem? (i := 336) (by decide +kernel)⟩
theorem lw_p11 : lw_okq (⟨"CroquetLawn$Play", "counts", "(II)Z"⟩, 13) := ⟨⟨by decide +kernel, by decide +kernel⟩, List.mem_of_getElem? (i := 18) (by decide +kernel), List.mem_of_getElem? (i := 347) (by decide +kernel), List.mem_of_getElem? (i := 348) (by decide +kernel)⟩
theorem lw_p12 : lw_okq (⟨"CroquetLawn$Laws", "read", "()I"⟩, 7) := ⟨⟨by decide +kernel, by decide +kernel⟩, List.mem_of_getElem? (i := 96) (by decide +kernel), List.mem_of_getElem? (i := 403) (by decide +kernel), List.mem_of_getElem? (i := 404) (by decide +kernel)⟩
theorem lw_p13 : lw_okq (⟨"CroquetLawn$Laws", "atEnd", "()Z"⟩, 7) := ⟨⟨by decide +kernel, by decide +kernel⟩, List.mem_of_getElem? (i := 96) (by decide +kernel), List.mem_of_getElem? (i := 407) (by decide +kernel), List.mem_of_getElem? (i := 408) (by decide +kernel)⟩
theorem lw_p14 : lw_okq (⟨"CroquetLawn$Laws", "skipBlanks", "()V"⟩, 7) := ⟨⟨by decide +kernel, by decide +kernel⟩, List.mem_of_getElem? (i := 96) (by decide +kernel), List.mem_of_getElem? (i := 411) (by decide +kernel), List.mem_of_getElem? (i := 412) (by decide +kernel)⟩
theorem lw_p15 : lw_okq (⟨"CroquetLawn$Laws", "here", "()I"⟩, 7) := ⟨⟨by decide +kernel, by decide +kernel⟩, List.mem_of_getElem? (i := 96) (by decide +kernel), List.mem_of_getElem? (i := 415) (by decide +kernel), List.mem_of_getElem? (i := 416) (by decide +kernel)⟩
def lw_privs_1 : List (MethodName × Nat) := [(⟨"CroquetLawn$Position", "allowsFree", "()Z"⟩, 8), (⟨"CroquetLawn$Position", "allowsFresh", "(II)Z"⟩, 8), (⟨"CroquetLawn$Play", "noteStriker", "(I)V"⟩, 13), (⟨"CroquetLawn$Position", "bringIn", "(I)V"⟩, 8), (⟨"CroquetLawn$Position", "roquet", "(I)V"⟩, 8), (⟨"CroquetLawn$Position", "croquet", "()V"⟩, 8), (⟨"CroquetLawn$Position", "spendFree", "()V"⟩, 8), (⟨"CroquetLawn$Play", "has", "(I)Z"⟩, 13), (⟨"CroquetLawn$Play", "leadTo", "(LCroquetLawn$Position;I)V"⟩, 13), (⟨"CroquetLawn$Play", "takeAway", "(I)I"⟩, 13), (⟨"CroquetLawn$Play", "stopTurn", "(I)I"⟩, 13), (⟨"CroquetLawn$Play", "counts", "(II)Z"⟩, 13), (⟨"CroquetLawn$Laws", "read", "()I"⟩, 7), (⟨"CroquetLawn$Laws", "atEnd", "()Z"⟩, 7), (⟨"CroquetLawn$Laws", "skipBlanks", "()V"⟩, 7), (⟨"CroquetLawn$Laws", "here", "()I"⟩, 7)]
theorem lw_r1 : ∀ q ∈ lw_privs_1, lw_okq q := List.forall_mem_cons.mpr ⟨lw_p0, List.forall_mem_cons.mpr ⟨lw_p1, List.forall_mem_cons.mpr ⟨lw_p2, List.forall_mem_cons.mpr ⟨lw_p3, List.forall_mem_cons.mpr ⟨lw_p4, List.forall_mem_cons.mpr ⟨lw_p5, List.forall_mem_cons.mpr ⟨lw_p6, List.forall_mem_cons.mpr ⟨lw_p7, List.forall_mem_cons.mpr ⟨lw_p8, List.forall_mem_cons.mpr ⟨lw_p9, List.forall_mem_cons.mpr ⟨lw_p10, List.forall_mem_cons.mpr ⟨lw_p11, List.forall_mem_cons.mpr ⟨lw_p12, List.forall_mem_cons.mpr ⟨lw_p13, List.forall_mem_cons.mpr ⟨lw_p14, List.forall_mem_cons.mpr ⟨lw_p15, fun _ h => absurd h List.not_mem_nil⟩⟩⟩⟩⟩⟩⟩⟩⟩⟩⟩⟩⟩⟩⟩⟩
theorem lw_p16 : lw_okq (⟨"CroquetLawn$Laws", "readClause", "()Z"⟩, 7) := ⟨⟨by decide +kernel, by decide +kernel⟩, List.mem_of_getElem? (i := 96) (by decide +kernel), List.mem_of_getElem? (i := 419) (by decide +kernel), List.mem_of_getElem? (i := 420) (by decide +kernel)⟩
theorem lw_p17 : lw_okq (⟨"CroquetLawn$Laws", "readNumber", "()I"⟩, 7) := ⟨⟨by decide +kernel, by decide +kernel⟩, List.mem_of_getElem? (i := 96) (by decide +kernel), List.mem_of_getElem? (i := 423) (by decide +kernel), List.mem_of_getElem? (i := 424) (by decide +kernel)⟩
theorem lw_p18 : lw_okq (⟨"CroquetLawn$Laws", "adoptDraft", "()V"⟩, 7) := ⟨⟨by decide +kernel, by decide +kernel⟩, List.mem_of_getElem? (i := 96) (by decide +kernel), List.mem_of_getElem? (i := 430) (by decide +kernel), List.mem_of_getElem? (i := 431) (by decide +kernel)⟩
def lw_privs_2 : List (MethodName × Nat) := [(⟨"CroquetLawn$Laws", "readClause", "()Z"⟩, 7), (⟨"CroquetLawn$Laws", "readNumber", "()I"⟩, 7), (⟨"CroquetLawn$Laws", "adoptDraft", "()V"⟩, 7)]
theorem lw_r2 : ∀ q ∈ lw_privs_2, lw_okq q := List.forall_mem_cons.mpr ⟨lw_p16, List.forall_mem_cons.mpr ⟨lw_p17, List.forall_mem_cons.mpr ⟨lw_p18, fun _ h => absurd h List.not_mem_nil⟩⟩⟩
def lw_privs : List (MethodName × Nat) := lw_privs_1 ++ (lw_privs_2)
def lw_tbl : List Cond := k2_sels lw_privs ++ tables_1
theorem lw_privs_ok : ∀ q ∈ lw_privs, lw_okq q := by
  show ∀ q ∈ lw_privs_1 ++ (lw_privs_2), lw_okq q
  exact List.forall_mem_append.mpr ⟨lw_r1, lw_r2⟩

def RX0 : String := "CroquetLawn$Laws"
def TX0 : u_T := fun k => match k with
  | 0 => ("CroquetLawn$Laws", "tape", "[I", true)
  | 1 => ("CroquetLawn$Laws", "length", "I", false)
  | 2 => ("CroquetLawn$Laws", "place", "I", false)
  | 3 => ("CroquetLawn$Laws", "limits", "[I", true)
  | 4 => ("CroquetLawn$Laws", "letters", "[I", true)
  | 5 => ("CroquetLawn$Laws", "draftLimits", "[I", true)
  | _ => ("CroquetLawn$Laws", "draftLetters", "[I", true)
def tyX0 : Nat → FieldType := fun k => match k with
  | 0 => .array .int
  | 1 => .int
  | 2 => .int
  | 3 => .array .int
  | 4 => .array .int
  | 5 => .array .int
  | _ => .array .int
abbrev wsX00 : List Cond := u_ws RX0 TX0 7
theorem nmX0 : ∀ a, a < 7 → ∀ b, b < 7 → a ≠ b → (TX0 a).2.1 ≠ (TX0 b).2.1 := by decide +kernel
theorem tyX0_ok : ∀ k, k < 7 → parseFieldDescriptor (TX0 k).2.2.1 = some (tyX0 k) := by decide +kernel
abbrev cX0_init : ByteArray := prog_2_method_1_code
def yX0_init : MethodName := ⟨RX0, "<init>", "()V"⟩
abbrev cX0_letterFor : ByteArray := prog_2_method_2_code
def yX0_letterFor : MethodName := ⟨RX0, "letterFor", "(II)I"⟩
abbrev cX0_append : ByteArray := prog_2_method_3_code
def yX0_append : MethodName := ⟨RX0, "append", "(JI)I"⟩
abbrev cX0_byteOf : ByteArray := prog_2_method_4_code
def yX0_byteOf : MethodName := ⟨RX0, "byteOf", "(JI)I"⟩
abbrev cX0_takeTape : ByteArray := prog_2_method_5_code
def yX0_takeTape : MethodName := ⟨RX0, "takeTape", "()I"⟩
abbrev cX0_adoptDraft : ByteArray := prog_2_method_6_code
def yX0_adoptDraft : MethodName := ⟨RX0, "adoptDraft", "()V"⟩
abbrev cX0_read : ByteArray := prog_2_method_7_code
def yX0_read : MethodName := ⟨RX0, "read", "()I"⟩
abbrev cX0_readClause : ByteArray := prog_2_method_8_code
def yX0_readClause : MethodName := ⟨RX0, "readClause", "()Z"⟩
abbrev cX0_readNumber : ByteArray := prog_2_method_9_code
def yX0_readNumber : MethodName := ⟨RX0, "readNumber", "()I"⟩
abbrev cX0_skipBlanks : ByteArray := prog_2_method_10_code
def yX0_skipBlanks : MethodName := ⟨RX0, "skipBlanks", "()V"⟩
abbrev cX0_atEnd : ByteArray := prog_2_method_11_code
def yX0_atEnd : MethodName := ⟨RX0, "atEnd", "()Z"⟩
abbrev cX0_here : ByteArray := prog_2_method_12_code
def yX0_here : MethodName := ⟨RX0, "here", "()I"⟩
def RX1 : String := "CroquetLawn$Meeting"
def TX1 : u_T := fun k => match k with
  | 0 => ("CroquetLawn$Meeting", "winners", "[I", true)
  | 1 => ("CroquetLawn$Meeting", "hours", "[I", true)
  | _ => ("CroquetLawn$Meeting", "lawnCount", "I", false)
def tyX1 : Nat → FieldType := fun k => match k with
  | 0 => .array .int
  | 1 => .array .int
  | _ => .int
abbrev wsX10 : List Cond := u_ws RX1 TX1 3
theorem nmX1 : ∀ a, a < 3 → ∀ b, b < 3 → a ≠ b → (TX1 a).2.1 ≠ (TX1 b).2.1 := by decide +kernel
theorem tyX1_ok : ∀ k, k < 3 → parseFieldDescriptor (TX1 k).2.2.1 = some (tyX1 k) := by decide +kernel
abbrev cX1_init : ByteArray := prog_3_method_1_code
def yX1_init : MethodName := ⟨RX1, "<init>", "()V"⟩
def RX2 : String := "CroquetLawn$Play"
def TX2 : u_T := fun k => match k with
  | 0 => ("CroquetLawn$Play", "kinds", "[I", true)
  | 1 => ("CroquetLawn$Play", "aims", "[I", true)
  | 2 => ("CroquetLawn$Play", "strikers", "[I", true)
  | 3 => ("CroquetLawn$Play", "sides", "[I", true)
  | 4 => ("CroquetLawn$Play", "wrongs", "[I", true)
  | 5 => ("CroquetLawn$Play", "rulings", "[I", true)
  | 6 => ("CroquetLawn$Play", "players", "[I", true)
  | 7 => ("CroquetLawn$Play", "now", "LCroquetLawn$Position;", true)
  | 8 => ("CroquetLawn$Play", "past", "LCroquetLawn$Position;", true)
  | 9 => ("CroquetLawn$Play", "on", "Z", false)
  | 10 => ("CroquetLawn$Play", "size", "I", false)
  | 11 => ("CroquetLawn$Play", "free0", "I", false)
  | _ => ("CroquetLawn$Play", "free1", "I", false)
def tyX2 : Nat → FieldType := fun k => match k with
  | 0 => .array .int
  | 1 => .array .int
  | 2 => .array .int
  | 3 => .array .int
  | 4 => .array .int
  | 5 => .array .int
  | 6 => .array .int
  | 7 => .object "CroquetLawn$Position"
  | 8 => .object "CroquetLawn$Position"
  | 9 => .boolean
  | 10 => .int
  | 11 => .int
  | _ => .int
abbrev wsX20 : List Cond := u_ws RX2 TX2 13
theorem nmX2 : ∀ a, a < 13 → ∀ b, b < 13 → a ≠ b → (TX2 a).2.1 ≠ (TX2 b).2.1 := by decide +kernel
theorem tyX2_ok : ∀ k, k < 13 → parseFieldDescriptor (TX2 k).2.2.1 = some (tyX2 k) := by decide +kernel
abbrev cX2_init : ByteArray := prog_4_method_1_code
def yX2_init : MethodName := ⟨RX2, "<init>", "()V"⟩
abbrev cX2_begin : ByteArray := prog_4_method_2_code
def yX2_begin : MethodName := ⟨RX2, "begin", "(IIII)V"⟩
abbrev cX2_take : ByteArray := prog_4_method_6_code
def yX2_take : MethodName := ⟨RX2, "take", "(II)I"⟩
abbrev cX2_begins : ByteArray := prog_4_method_7_code
def yX2_begins : MethodName := ⟨RX2, "begins", "(I)Z"⟩
abbrev cX2_noteStriker : ByteArray := prog_4_method_8_code
def yX2_noteStriker : MethodName := ⟨RX2, "noteStriker", "(I)V"⟩
abbrev cX2_has : ByteArray := prog_4_method_9_code
def yX2_has : MethodName := ⟨RX2, "has", "(I)Z"⟩
abbrev cX2_tell : ByteArray := prog_4_method_10_code
def yX2_tell : MethodName := ⟨RX2, "tell", "(II)I"⟩
abbrev cX2_asOf : ByteArray := prog_4_method_12_code
def yX2_asOf : MethodName := ⟨RX2, "asOf", "(II)I"⟩
abbrev cX2_leadTo : ByteArray := prog_4_method_13_code
def yX2_leadTo : MethodName := ⟨RX2, "leadTo", "(LCroquetLawn$Position;I)V"⟩
abbrev cX2_obey : ByteArray := prog_4_method_14_code
def yX2_obey : MethodName := ⟨RX2, "obey", "(LCroquetLawn$Position;I)V"⟩
abbrev cX2_find : ByteArray := prog_4_method_15_code
def yX2_find : MethodName := ⟨RX2, "find", "(ILCroquetLawn$Laws;)I"⟩
abbrev cX2_takeAway : ByteArray := prog_4_method_16_code
def yX2_takeAway : MethodName := ⟨RX2, "takeAway", "(I)I"⟩
abbrev cX2_stopTurn : ByteArray := prog_4_method_17_code
def yX2_stopTurn : MethodName := ⟨RX2, "stopTurn", "(I)I"⟩
abbrev cX2_total : ByteArray := prog_4_method_18_code
def yX2_total : MethodName := ⟨RX2, "total", "(I)I"⟩
abbrev cX2_counts : ByteArray := prog_4_method_19_code
def yX2_counts : MethodName := ⟨RX2, "counts", "(II)Z"⟩
def RX3 : String := "CroquetLawn$Position"
def TX3 : u_T := fun k => match k with
  | 0 => ("CroquetLawn$Position", "run", "[I", true)
  | 1 => ("CroquetLawn$Position", "freeLeft", "[I", true)
  | 2 => ("CroquetLawn$Position", "side", "I", false)
  | 3 => ("CroquetLawn$Position", "inPlay", "I", false)
  | 4 => ("CroquetLawn$Position", "toGo", "I", false)
  | 5 => ("CroquetLawn$Position", "live", "I", false)
  | 6 => ("CroquetLawn$Position", "mustCroquet", "I", false)
  | _ => ("CroquetLawn$Position", "freeBall", "I", false)
def tyX3 : Nat → FieldType := fun k => match k with
  | 0 => .array .int
  | 1 => .array .int
  | 2 => .int
  | 3 => .int
  | 4 => .int
  | 5 => .int
  | 6 => .int
  | _ => .int
abbrev wsX30 : List Cond := u_ws RX3 TX3 8
theorem nmX3 : ∀ a, a < 8 → ∀ b, b < 8 → a ≠ b → (TX3 a).2.1 ≠ (TX3 b).2.1 := by decide +kernel
theorem tyX3_ok : ∀ k, k < 8 → parseFieldDescriptor (TX3 k).2.2.1 = some (tyX3 k) := by decide +kernel
abbrev cX3_init : ByteArray := prog_5_method_1_code
def yX3_init : MethodName := ⟨RX3, "<init>", "()V"⟩
abbrev cX3_begin : ByteArray := prog_5_method_2_code
def yX3_begin : MethodName := ⟨RX3, "begin", "(II)V"⟩
abbrev cX3_allows : ByteArray := prog_5_method_3_code
def yX3_allows : MethodName := ⟨RX3, "allows", "(II)Z"⟩
abbrev cX3_allowsFree : ByteArray := prog_5_method_4_code
def yX3_allowsFree : MethodName := ⟨RX3, "allowsFree", "()Z"⟩
abbrev cX3_allowsFresh : ByteArray := prog_5_method_5_code
def yX3_allowsFresh : MethodName := ⟨RX3, "allowsFresh", "(II)Z"⟩
abbrev cX3_isWrong : ByteArray := prog_5_method_6_code
def yX3_isWrong : MethodName := ⟨RX3, "isWrong", "(II)Z"⟩
abbrev cX3_lead : ByteArray := prog_5_method_7_code
def yX3_lead : MethodName := ⟨RX3, "lead", "(II)V"⟩
abbrev cX3_bringIn : ByteArray := prog_5_method_8_code
def yX3_bringIn : MethodName := ⟨RX3, "bringIn", "(I)V"⟩
abbrev cX3_roquet : ByteArray := prog_5_method_9_code
def yX3_roquet : MethodName := ⟨RX3, "roquet", "(I)V"⟩
abbrev cX3_croquet : ByteArray := prog_5_method_10_code
def yX3_croquet : MethodName := ⟨RX3, "croquet", "()V"⟩
abbrev cX3_spendFree : ByteArray := prog_5_method_11_code
def yX3_spendFree : MethodName := ⟨RX3, "spendFree", "()V"⟩
abbrev cX3_endTurn : ByteArray := prog_5_method_12_code
def yX3_endTurn : MethodName := ⟨RX3, "endTurn", "()V"⟩
abbrev cX3_stopFor : ByteArray := prog_5_method_13_code
def yX3_stopFor : MethodName := ⟨RX3, "stopFor", "(I)V"⟩
abbrev cX3_isOut : ByteArray := prog_5_method_14_code
def yX3_isOut : MethodName := ⟨RX3, "isOut", "(I)Z"⟩
abbrev cX3_winner : ByteArray := prog_5_method_15_code
def yX3_winner : MethodName := ⟨RX3, "winner", "()I"⟩
abbrev cX3_side : ByteArray := prog_5_method_16_code
def yX3_side : MethodName := ⟨RX3, "side", "()I"⟩
abbrev cX3_inPlay : ByteArray := prog_5_method_17_code
def yX3_inPlay : MethodName := ⟨RX3, "inPlay", "()I"⟩
abbrev cX3_tell : ByteArray := prog_5_method_18_code
def yX3_tell : MethodName := ⟨RX3, "tell", "(I)I"⟩
def RX4 : String := "CroquetLawn$Roster"
def TX4 : u_T := fun k => match k with
  | _ => ("CroquetLawn$Roster", "indexes", "[I", true)
def tyX4 : Nat → FieldType := fun k => match k with
  | _ => .array .int
abbrev wsX40 : List Cond := u_ws RX4 TX4 1
theorem nmX4 : ∀ a, a < 1 → ∀ b, b < 1 → a ≠ b → (TX4 a).2.1 ≠ (TX4 b).2.1 := by decide +kernel
theorem tyX4_ok : ∀ k, k < 1 → parseFieldDescriptor (TX4 k).2.2.1 = some (tyX4 k) := by decide +kernel
abbrev cX4_init : ByteArray := prog_6_method_1_code
def yX4_init : MethodName := ⟨RX4, "<init>", "()V"⟩
abbrev cX4_put : ByteArray := prog_6_method_2_code
def yX4_put : MethodName := ⟨RX4, "put", "(II)I"⟩
abbrev cX4_handicapOf : ByteArray := prog_6_method_3_code
def yX4_handicapOf : MethodName := ⟨RX4, "handicapOf", "(I)I"⟩
abbrev cX4_freeTurnsOfOther : ByteArray := prog_6_method_4_code
def yX4_freeTurnsOfOther : MethodName := ⟨RX4, "freeTurnsOfOther", "(II)I"⟩
def RX5 : String := "CroquetLawn"
def TX5 : u_T := fun k => match k with
  | 0 => ("CroquetLawn", "play", "LCroquetLawn$Play;", true)
  | 1 => ("CroquetLawn", "book", "LCroquetLawn$Laws;", true)
  | 2 => ("CroquetLawn", "roster", "LCroquetLawn$Roster;", true)
  | _ => ("CroquetLawn", "meeting", "LCroquetLawn$Meeting;", true)
def tyX5 : Nat → FieldType := fun k => match k with
  | 0 => .object "CroquetLawn$Play"
  | 1 => .object "CroquetLawn$Laws"
  | 2 => .object "CroquetLawn$Roster"
  | _ => .object "CroquetLawn$Meeting"
abbrev wsX50 : List Cond := u_ws RX5 TX5 4
theorem nmX5 : ∀ a, a < 4 → ∀ b, b < 4 → a ≠ b → (TX5 a).2.1 ≠ (TX5 b).2.1 := by decide +kernel
theorem tyX5_ok : ∀ k, k < 4 → parseFieldDescriptor (TX5 k).2.2.1 = some (tyX5 k) := by decide +kernel
abbrev cX5_init : ByteArray := prog_1_method_1_code
def yX5_init : MethodName := ⟨RX5, "<init>", "()V"⟩
abbrev cX5_game : ByteArray := prog_1_method_2_code
def yX5_game : MethodName := ⟨RX5, "game", "(II)I"⟩
abbrev cX5_stroke : ByteArray := prog_1_method_3_code
def yX5_stroke : MethodName := ⟨RX5, "stroke", "(II)I"⟩
abbrev cX5_told : ByteArray := prog_1_method_4_code
def yX5_told : MethodName := ⟨RX5, "told", "(II)I"⟩
abbrev cX5_state : ByteArray := prog_1_method_6_code
def yX5_state : MethodName := ⟨RX5, "state", "(II)I"⟩
abbrev cX5_found : ByteArray := prog_1_method_7_code
def yX5_found : MethodName := ⟨RX5, "found", "(I)I"⟩
abbrev cX5_type : ByteArray := prog_1_method_8_code
def yX5_type : MethodName := ⟨RX5, "type", "(JI)I"⟩
abbrev cX5_laws : ByteArray := prog_1_method_9_code
def yX5_laws : MethodName := ⟨RX5, "laws", "()I"⟩
abbrev cX5_count : ByteArray := prog_1_method_10_code
def yX5_count : MethodName := ⟨RX5, "count", "(I)I"⟩
abbrev cX5_index : ByteArray := prog_1_method_11_code
def yX5_index : MethodName := ⟨RX5, "index", "(II)I"⟩
abbrev cX5_within : ByteArray := prog_1_method_22_code
def yX5_within : MethodName := ⟨RX5, "within", "(III)Z"⟩
abbrev cX5_isPlayer : ByteArray := prog_1_method_23_code
def yX5_isPlayer : MethodName := ⟨RX5, "isPlayer", "(I)Z"⟩
abbrev cX5_at : ByteArray := prog_1_method_24_code
def yX5_at : MethodName := ⟨RX5, "at", "([II)I"⟩
abbrev cX5_set : ByteArray := prog_1_method_25_code
def yX5_set : MethodName := ⟨RX5, "set", "([III)V"⟩
def RX6 : String := "CroquetLawnModel"
def TX6 : u_T := fun k => match k with
  | _ => ("", "", "", false)
def tyX6 : Nat → FieldType := fun k => match k with
  | _ => .int
abbrev wsX60 : List Cond := u_ws RX6 TX6 0
theorem nmX6 : ∀ a, a < 0 → ∀ b, b < 0 → a ≠ b → (TX6 a).2.1 ≠ (TX6 b).2.1 := by decide +kernel
theorem tyX6_ok : ∀ k, k < 0 → parseFieldDescriptor (TX6 k).2.2.1 = some (tyX6 k) := by decide +kernel
def RJ9 : String := "java/lang/Math"
def TJ9 : u_T := fun k => match k with
  | _ => ("", "", "", false)
def tyJ9 : Nat → FieldType := fun k => match k with
  | _ => .int
abbrev wsJ90 : List Cond := u_ws RJ9 TJ9 0
theorem nmJ9 : ∀ a, a < 0 → ∀ b, b < 0 → a ≠ b → (TJ9 a).2.1 ≠ (TJ9 b).2.1 := by decide +kernel
theorem tyJ9_ok : ∀ k, k < 0 → parseFieldDescriptor (TJ9 k).2.2.1 = some (tyJ9 k) := by decide +kernel
abbrev cJ9_abs_0f7a4 : ByteArray := prog_9_method_59_code
def yJ9_abs_0f7a4 : MethodName := ⟨RJ9, "abs", "(I)I"⟩
abbrev cJ9_max_7cf53 : ByteArray := prog_9_method_65_code
def yJ9_max_7cf53 : MethodName := ⟨RJ9, "max", "(II)I"⟩
abbrev cJ9_min_7cf53 : ByteArray := prog_9_method_69_code
def yJ9_min_7cf53 : MethodName := ⟨RJ9, "min", "(II)I"⟩
def RJ7 : String := "java/util/Arrays"
def TJ7 : u_T := fun k => match k with
  | _ => ("", "", "", false)
def tyJ7 : Nat → FieldType := fun k => match k with
  | _ => .int
abbrev wsJ70 : List Cond := u_ws RJ7 TJ7 0
theorem nmJ7 : ∀ a, a < 0 → ∀ b, b < 0 → a ≠ b → (TJ7 a).2.1 ≠ (TJ7 b).2.1 := by decide +kernel
theorem tyJ7_ok : ∀ k, k < 0 → parseFieldDescriptor (TJ7 k).2.2.1 = some (tyJ7 k) := by decide +kernel
abbrev cJ7_fill_53178 : ByteArray := prog_10_method_103_code
def yJ7_fill_53178 : MethodName := ⟨RJ7, "fill", "([II)V"⟩
def RL : String := "CroquetLawnLaw"
abbrev cL_cell : ByteArray := method_2_code
def yL_cell : MethodName := ⟨RL, "cell", "([II)I"⟩
abbrev cL_some : ByteArray := method_3_code
def yL_some : MethodName := ⟨RL, "some", "(II)I"⟩
abbrev cL_told : ByteArray := method_4_code
def yL_told : MethodName := ⟨RL, "told", "(LCroquetLawn;I)J"⟩
abbrev cL_laws : ByteArray := method_5_code
def yL_laws : MethodName := ⟨RL, "laws", "(LCroquetLawn;IIII)Z"⟩
abbrev cL_law : ByteArray := code
def yL_law : MethodName := ⟨RL, "law", "([I)Z"⟩
abbrev vwCl : List vw_C := [(RX0, TX0, 7), (RX1, TX1, 3), (RX2, TX2, 13), (RX3, TX3, 8), (RX4, TX4, 1), (RX5, TX5, 4)]
end
section
-- names of the classes, fields, methods; decode rows: out of the claim's own printed NAMES text, by wip/gen/names.py
theorem dX0_init_0 : decode cX0_init 0 = .ok (.aload_n 0, 1) := by decide +kernel
theorem dX0_init_1 : decode cX0_init 1 = .ok (.invokespecial 3, 3) := by decide +kernel
theorem dX0_init_4 : decode cX0_init 4 = .ok (.aload_n 0, 1) := by decide +kernel
theorem dX0_init_5 : decode cX0_init 5 = .ok (.bipush 30, 2) := by decide +kernel
theorem dX0_init_7 : decode cX0_init 7 = .ok (.newarray .int, 2) := by decide +kernel
theorem dX0_init_9 : decode cX0_init 9 = .ok (.putfield 11, 3) := by decide +kernel
theorem dX0_init_12 : decode cX0_init 12 = .ok (.aload_n 0, 1) := by decide +kernel
theorem dX0_init_13 : decode cX0_init 13 = .ok (.iconst 2, 1) := by decide +kernel
theorem dX0_init_14 : decode cX0_init 14 = .ok (.newarray .int, 2) := by decide +kernel
theorem dX0_init_16 : decode cX0_init 16 = .ok (.putfield 15, 3) := by decide +kernel
theorem dX0_init_19 : decode cX0_init 19 = .ok (.aload_n 0, 1) := by decide +kernel
theorem dX0_init_20 : decode cX0_init 20 = .ok (.iconst 2, 1) := by decide +kernel
theorem dX0_init_21 : decode cX0_init 21 = .ok (.newarray .int, 2) := by decide +kernel
theorem dX0_init_23 : decode cX0_init 23 = .ok (.putfield 18, 3) := by decide +kernel
theorem dX0_init_26 : decode cX0_init 26 = .ok (.aload_n 0, 1) := by decide +kernel
theorem dX0_init_27 : decode cX0_init 27 = .ok (.iconst 2, 1) := by decide +kernel
theorem dX0_init_28 : decode cX0_init 28 = .ok (.newarray .int, 2) := by decide +kernel
theorem dX0_init_30 : decode cX0_init 30 = .ok (.putfield 21, 3) := by decide +kernel
theorem dX0_init_33 : decode cX0_init 33 = .ok (.aload_n 0, 1) := by decide +kernel
theorem dX0_init_34 : decode cX0_init 34 = .ok (.iconst 2, 1) := by decide +kernel
theorem dX0_init_35 : decode cX0_init 35 = .ok (.newarray .int, 2) := by decide +kernel
theorem dX0_init_37 : decode cX0_init 37 = .ok (.putfield 24, 3) := by decide +kernel
theorem dX0_init_40 : decode cX0_init 40 = .ok (.aload_n 0, 1) := by decide +kernel
theorem dX0_init_41 : decode cX0_init 41 = .ok (.getfield 15, 3) := by decide +kernel
theorem dX0_init_44 : decode cX0_init 44 = .ok (.iconst 0, 1) := by decide +kernel
theorem dX0_init_45 : decode cX0_init 45 = .ok (.iconst 5, 1) := by decide +kernel
theorem dX0_init_46 : decode cX0_init 46 = .ok (.invokestatic 27, 3) := by decide +kernel
theorem dX0_init_49 : decode cX0_init 49 = .ok (.aload_n 0, 1) := by decide +kernel
theorem dX0_init_50 : decode cX0_init 50 = .ok (.getfield 18, 3) := by decide +kernel
theorem dX0_init_53 : decode cX0_init 53 = .ok (.iconst 0, 1) := by decide +kernel
theorem dX0_init_54 : decode cX0_init 54 = .ok (.bipush 82, 2) := by decide +kernel
theorem dX0_init_56 : decode cX0_init 56 = .ok (.invokestatic 27, 3) := by decide +kernel
theorem dX0_init_59 : decode cX0_init 59 = .ok (.aload_n 0, 1) := by decide +kernel
theorem dX0_init_60 : decode cX0_init 60 = .ok (.getfield 15, 3) := by decide +kernel
theorem dX0_init_63 : decode cX0_init 63 = .ok (.iconst 1, 1) := by decide +kernel
theorem dX0_init_64 : decode cX0_init 64 = .ok (.iconst 2, 1) := by decide +kernel
theorem dX0_init_65 : decode cX0_init 65 = .ok (.invokestatic 27, 3) := by decide +kernel
theorem dX0_init_68 : decode cX0_init 68 = .ok (.aload_n 0, 1) := by decide +kernel
theorem dX0_init_69 : decode cX0_init 69 = .ok (.getfield 18, 3) := by decide +kernel
theorem dX0_init_72 : decode cX0_init 72 = .ok (.iconst 1, 1) := by decide +kernel
theorem dX0_init_73 : decode cX0_init 73 = .ok (.bipush 78, 2) := by decide +kernel
theorem dX0_init_75 : decode cX0_init 75 = .ok (.invokestatic 27, 3) := by decide +kernel
theorem dX0_init_78 : decode cX0_init 78 = .ok (.return_, 1) := by decide +kernel
theorem dX0_letterFor_0 : decode cX0_letterFor 0 = .ok (.iload_n 1, 1) := by decide +kernel
theorem dX0_letterFor_1 : decode cX0_letterFor 1 = .ok (.ifCond .ne 7, 3) := by decide +kernel
theorem dX0_letterFor_4 : decode cX0_letterFor 4 = .ok (.iconst 0, 1) := by decide +kernel
theorem dX0_letterFor_5 : decode cX0_letterFor 5 = .ok (.goto 4, 3) := by decide +kernel
theorem dX0_letterFor_8 : decode cX0_letterFor 8 = .ok (.iconst 1, 1) := by decide +kernel
theorem dX0_letterFor_9 : decode cX0_letterFor 9 = .ok (.istore_n 3, 1) := by decide +kernel
theorem dX0_letterFor_10 : decode cX0_letterFor 10 = .ok (.iload_n 2, 1) := by decide +kernel
theorem dX0_letterFor_11 : decode cX0_letterFor 11 = .ok (.aload_n 0, 1) := by decide +kernel
theorem dX0_letterFor_12 : decode cX0_letterFor 12 = .ok (.getfield 15, 3) := by decide +kernel
theorem dX0_letterFor_15 : decode cX0_letterFor 15 = .ok (.iload_n 3, 1) := by decide +kernel
theorem dX0_letterFor_16 : decode cX0_letterFor 16 = .ok (.invokestatic 31, 3) := by decide +kernel
theorem dX0_letterFor_19 : decode cX0_letterFor 19 = .ok (.if_icmp .gt 14, 3) := by decide +kernel
theorem dX0_letterFor_22 : decode cX0_letterFor 22 = .ok (.aload_n 0, 1) := by decide +kernel
theorem dX0_letterFor_23 : decode cX0_letterFor 23 = .ok (.getfield 18, 3) := by decide +kernel
theorem dX0_letterFor_26 : decode cX0_letterFor 26 = .ok (.iload_n 3, 1) := by decide +kernel
theorem dX0_letterFor_27 : decode cX0_letterFor 27 = .ok (.invokestatic 31, 3) := by decide +kernel
theorem dX0_letterFor_30 : decode cX0_letterFor 30 = .ok (.goto 5, 3) := by decide +kernel
theorem dX0_letterFor_33 : decode cX0_letterFor 33 = .ok (.bipush (-4), 2) := by decide +kernel
theorem dX0_letterFor_35 : decode cX0_letterFor 35 = .ok (.ireturn, 1) := by decide +kernel
theorem dX0_append_0 : decode cX0_append 0 = .ok (.iload_n 3, 1) := by decide +kernel
theorem dX0_append_1 : decode cX0_append 1 = .ok (.iconst 1, 1) := by decide +kernel
theorem dX0_append_2 : decode cX0_append 2 = .ok (.bipush 8, 2) := by decide +kernel
theorem dX0_append_4 : decode cX0_append 4 = .ok (.invokestatic 35, 3) := by decide +kernel
theorem dX0_append_7 : decode cX0_append 7 = .ok (.ifCond .ne 5, 3) := by decide +kernel
theorem dX0_append_10 : decode cX0_append 10 = .ok (.iconst (-1), 1) := by decide +kernel
theorem dX0_append_11 : decode cX0_append 11 = .ok (.ireturn, 1) := by decide +kernel
theorem dX0_append_12 : decode cX0_append 12 = .ok (.iconst 0, 1) := by decide +kernel
theorem dX0_append_13 : decode cX0_append 13 = .ok (.istore 4, 2) := by decide +kernel
theorem dX0_append_15 : decode cX0_append 15 = .ok (.iload 4, 2) := by decide +kernel
theorem dX0_append_17 : decode cX0_append 17 = .ok (.iload_n 3, 1) := by decide +kernel
theorem dX0_append_18 : decode cX0_append 18 = .ok (.if_icmp .ge 27, 3) := by decide +kernel
theorem dX0_append_21 : decode cX0_append 21 = .ok (.lload_n 1, 1) := by decide +kernel
theorem dX0_append_22 : decode cX0_append 22 = .ok (.iload 4, 2) := by decide +kernel
theorem dX0_append_24 : decode cX0_append 24 = .ok (.invokestatic 39, 3) := by decide +kernel
theorem dX0_append_27 : decode cX0_append 27 = .ok (.bipush 32, 2) := by decide +kernel
theorem dX0_append_29 : decode cX0_append 29 = .ok (.bipush 126, 2) := by decide +kernel
theorem dX0_append_31 : decode cX0_append 31 = .ok (.invokestatic 35, 3) := by decide +kernel
theorem dX0_append_34 : decode cX0_append 34 = .ok (.ifCond .ne 5, 3) := by decide +kernel
theorem dX0_append_37 : decode cX0_append 37 = .ok (.iconst (-1), 1) := by decide +kernel
theorem dX0_append_38 : decode cX0_append 38 = .ok (.ireturn, 1) := by decide +kernel
theorem dX0_append_39 : decode cX0_append 39 = .ok (.iinc 4 1, 3) := by decide +kernel
theorem dX0_append_42 : decode cX0_append 42 = .ok (.goto (-27), 3) := by decide +kernel
theorem dX0_append_45 : decode cX0_append 45 = .ok (.aload_n 0, 1) := by decide +kernel
theorem dX0_append_46 : decode cX0_append 46 = .ok (.getfield 43, 3) := by decide +kernel
theorem dX0_append_49 : decode cX0_append 49 = .ok (.iload_n 3, 1) := by decide +kernel
theorem dX0_append_50 : decode cX0_append 50 = .ok (.iadd, 1) := by decide +kernel
theorem dX0_append_51 : decode cX0_append 51 = .ok (.bipush 30, 2) := by decide +kernel
theorem dX0_append_53 : decode cX0_append 53 = .ok (.if_icmp .le 6, 3) := by decide +kernel
theorem dX0_append_56 : decode cX0_append 56 = .ok (.bipush (-3), 2) := by decide +kernel
theorem dX0_append_58 : decode cX0_append 58 = .ok (.ireturn, 1) := by decide +kernel
theorem dX0_append_59 : decode cX0_append 59 = .ok (.iload_n 3, 1) := by decide +kernel
theorem dX0_append_60 : decode cX0_append 60 = .ok (.iconst 1, 1) := by decide +kernel
theorem dX0_append_61 : decode cX0_append 61 = .ok (.isub, 1) := by decide +kernel
theorem dX0_append_62 : decode cX0_append 62 = .ok (.istore 4, 2) := by decide +kernel
theorem dX0_append_64 : decode cX0_append 64 = .ok (.iload 4, 2) := by decide +kernel
theorem dX0_append_66 : decode cX0_append 66 = .ok (.ifCond .lt 36, 3) := by decide +kernel
theorem dX0_append_69 : decode cX0_append 69 = .ok (.aload_n 0, 1) := by decide +kernel
theorem dX0_append_70 : decode cX0_append 70 = .ok (.getfield 11, 3) := by decide +kernel
theorem dX0_append_73 : decode cX0_append 73 = .ok (.aload_n 0, 1) := by decide +kernel
theorem dX0_append_74 : decode cX0_append 74 = .ok (.getfield 43, 3) := by decide +kernel
theorem dX0_append_77 : decode cX0_append 77 = .ok (.lload_n 1, 1) := by decide +kernel
theorem dX0_append_78 : decode cX0_append 78 = .ok (.iload 4, 2) := by decide +kernel
theorem dX0_append_80 : decode cX0_append 80 = .ok (.invokestatic 39, 3) := by decide +kernel
theorem dX0_append_83 : decode cX0_append 83 = .ok (.invokestatic 27, 3) := by decide +kernel
theorem dX0_append_86 : decode cX0_append 86 = .ok (.aload_n 0, 1) := by decide +kernel
theorem dX0_append_87 : decode cX0_append 87 = .ok (.dup, 1) := by decide +kernel
theorem dX0_append_88 : decode cX0_append 88 = .ok (.getfield 43, 3) := by decide +kernel
theorem dX0_append_91 : decode cX0_append 91 = .ok (.iconst 1, 1) := by decide +kernel
theorem dX0_append_92 : decode cX0_append 92 = .ok (.iadd, 1) := by decide +kernel
theorem dX0_append_93 : decode cX0_append 93 = .ok (.putfield 43, 3) := by decide +kernel
theorem dX0_append_96 : decode cX0_append 96 = .ok (.iinc 4 (-1), 3) := by decide +kernel
theorem dX0_append_99 : decode cX0_append 99 = .ok (.goto (-35), 3) := by decide +kernel
theorem dX0_append_102 : decode cX0_append 102 = .ok (.aload_n 0, 1) := by decide +kernel
theorem dX0_append_103 : decode cX0_append 103 = .ok (.getfield 43, 3) := by decide +kernel
theorem dX0_append_106 : decode cX0_append 106 = .ok (.ireturn, 1) := by decide +kernel
theorem dX0_byteOf_0 : decode cX0_byteOf 0 = .ok (.lload_n 0, 1) := by decide +kernel
theorem dX0_byteOf_1 : decode cX0_byteOf 1 = .ok (.bipush 8, 2) := by decide +kernel
theorem dX0_byteOf_3 : decode cX0_byteOf 3 = .ok (.iload_n 2, 1) := by decide +kernel
theorem dX0_byteOf_4 : decode cX0_byteOf 4 = .ok (.imul, 1) := by decide +kernel
theorem dX0_byteOf_5 : decode cX0_byteOf 5 = .ok (.lushr, 1) := by decide +kernel
theorem dX0_byteOf_6 : decode cX0_byteOf 6 = .ok (.ldc2_w 47, 3) := by decide +kernel
theorem dX0_byteOf_9 : decode cX0_byteOf 9 = .ok (.land, 1) := by decide +kernel
theorem dX0_byteOf_10 : decode cX0_byteOf 10 = .ok (.l2i, 1) := by decide +kernel
theorem dX0_byteOf_11 : decode cX0_byteOf 11 = .ok (.ireturn, 1) := by decide +kernel
theorem dX0_takeTape_0 : decode cX0_takeTape 0 = .ok (.aload_n 0, 1) := by decide +kernel
theorem dX0_takeTape_1 : decode cX0_takeTape 1 = .ok (.iconst 0, 1) := by decide +kernel
theorem dX0_takeTape_2 : decode cX0_takeTape 2 = .ok (.putfield 49, 3) := by decide +kernel
theorem dX0_takeTape_5 : decode cX0_takeTape 5 = .ok (.aload_n 0, 1) := by decide +kernel
theorem dX0_takeTape_6 : decode cX0_takeTape 6 = .ok (.getfield 24, 3) := by decide +kernel
theorem dX0_takeTape_9 : decode cX0_takeTape 9 = .ok (.bipush (-4), 2) := by decide +kernel
theorem dX0_takeTape_11 : decode cX0_takeTape 11 = .ok (.invokestatic 52, 3) := by decide +kernel
theorem dX0_takeTape_14 : decode cX0_takeTape 14 = .ok (.aload_n 0, 1) := by decide +kernel
theorem dX0_takeTape_15 : decode cX0_takeTape 15 = .ok (.invokevirtual 58, 3) := by decide +kernel
theorem dX0_takeTape_18 : decode cX0_takeTape 18 = .ok (.istore_n 1, 1) := by decide +kernel
theorem dX0_takeTape_19 : decode cX0_takeTape 19 = .ok (.iload_n 1, 1) := by decide +kernel
theorem dX0_takeTape_20 : decode cX0_takeTape 20 = .ok (.ifCond .lt 7, 3) := by decide +kernel
theorem dX0_takeTape_23 : decode cX0_takeTape 23 = .ok (.aload_n 0, 1) := by decide +kernel
theorem dX0_takeTape_24 : decode cX0_takeTape 24 = .ok (.invokevirtual 62, 3) := by decide +kernel
theorem dX0_takeTape_27 : decode cX0_takeTape 27 = .ok (.aload_n 0, 1) := by decide +kernel
theorem dX0_takeTape_28 : decode cX0_takeTape 28 = .ok (.iconst 0, 1) := by decide +kernel
theorem dX0_takeTape_29 : decode cX0_takeTape 29 = .ok (.putfield 43, 3) := by decide +kernel
theorem dX0_takeTape_32 : decode cX0_takeTape 32 = .ok (.iload_n 1, 1) := by decide +kernel
theorem dX0_takeTape_33 : decode cX0_takeTape 33 = .ok (.ireturn, 1) := by decide +kernel
theorem dX0_adoptDraft_0 : decode cX0_adoptDraft 0 = .ok (.iconst 0, 1) := by decide +kernel
theorem dX0_adoptDraft_1 : decode cX0_adoptDraft 1 = .ok (.istore_n 1, 1) := by decide +kernel
theorem dX0_adoptDraft_2 : decode cX0_adoptDraft 2 = .ok (.iload_n 1, 1) := by decide +kernel
theorem dX0_adoptDraft_3 : decode cX0_adoptDraft 3 = .ok (.iconst 2, 1) := by decide +kernel
theorem dX0_adoptDraft_4 : decode cX0_adoptDraft 4 = .ok (.if_icmp .ge 41, 3) := by decide +kernel
theorem dX0_adoptDraft_7 : decode cX0_adoptDraft 7 = .ok (.aload_n 0, 1) := by decide +kernel
theorem dX0_adoptDraft_8 : decode cX0_adoptDraft 8 = .ok (.getfield 15, 3) := by decide +kernel
theorem dX0_adoptDraft_11 : decode cX0_adoptDraft 11 = .ok (.iload_n 1, 1) := by decide +kernel
theorem dX0_adoptDraft_12 : decode cX0_adoptDraft 12 = .ok (.aload_n 0, 1) := by decide +kernel
theorem dX0_adoptDraft_13 : decode cX0_adoptDraft 13 = .ok (.getfield 21, 3) := by decide +kernel
theorem dX0_adoptDraft_16 : decode cX0_adoptDraft 16 = .ok (.iload_n 1, 1) := by decide +kernel
theorem dX0_adoptDraft_17 : decode cX0_adoptDraft 17 = .ok (.invokestatic 31, 3) := by decide +kernel
theorem dX0_adoptDraft_20 : decode cX0_adoptDraft 20 = .ok (.invokestatic 27, 3) := by decide +kernel
theorem dX0_adoptDraft_23 : decode cX0_adoptDraft 23 = .ok (.aload_n 0, 1) := by decide +kernel
theorem dX0_adoptDraft_24 : decode cX0_adoptDraft 24 = .ok (.getfield 18, 3) := by decide +kernel
theorem dX0_adoptDraft_27 : decode cX0_adoptDraft 27 = .ok (.iload_n 1, 1) := by decide +kernel
theorem dX0_adoptDraft_28 : decode cX0_adoptDraft 28 = .ok (.aload_n 0, 1) := by decide +kernel
theorem dX0_adoptDraft_29 : decode cX0_adoptDraft 29 = .ok (.getfield 24, 3) := by decide +kernel
theorem dX0_adoptDraft_32 : decode cX0_adoptDraft 32 = .ok (.iload_n 1, 1) := by decide +kernel
theorem dX0_adoptDraft_33 : decode cX0_adoptDraft 33 = .ok (.invokestatic 31, 3) := by decide +kernel
theorem dX0_adoptDraft_36 : decode cX0_adoptDraft 36 = .ok (.invokestatic 27, 3) := by decide +kernel
theorem dX0_adoptDraft_39 : decode cX0_adoptDraft 39 = .ok (.iinc 1 1, 3) := by decide +kernel
theorem dX0_adoptDraft_42 : decode cX0_adoptDraft 42 = .ok (.goto (-40), 3) := by decide +kernel
theorem dX0_adoptDraft_45 : decode cX0_adoptDraft 45 = .ok (.return_, 1) := by decide +kernel
theorem dX0_read_0 : decode cX0_read 0 = .ok (.aload_n 0, 1) := by decide +kernel
theorem dX0_read_1 : decode cX0_read 1 = .ok (.invokevirtual 65, 3) := by decide +kernel
theorem dX0_read_4 : decode cX0_read 4 = .ok (.ifCond .eq 5, 3) := by decide +kernel
theorem dX0_read_7 : decode cX0_read 7 = .ok (.iconst 0, 1) := by decide +kernel
theorem dX0_read_8 : decode cX0_read 8 = .ok (.ireturn, 1) := by decide +kernel
theorem dX0_read_9 : decode cX0_read 9 = .ok (.aload_n 0, 1) := by decide +kernel
theorem dX0_read_10 : decode cX0_read 10 = .ok (.invokevirtual 69, 3) := by decide +kernel
theorem dX0_read_13 : decode cX0_read 13 = .ok (.ifCond .ne 11, 3) := by decide +kernel
theorem dX0_read_16 : decode cX0_read 16 = .ok (.bipush (-20), 2) := by decide +kernel
theorem dX0_read_18 : decode cX0_read 18 = .ok (.aload_n 0, 1) := by decide +kernel
theorem dX0_read_19 : decode cX0_read 19 = .ok (.getfield 49, 3) := by decide +kernel
theorem dX0_read_22 : decode cX0_read 22 = .ok (.isub, 1) := by decide +kernel
theorem dX0_read_23 : decode cX0_read 23 = .ok (.ireturn, 1) := by decide +kernel
theorem dX0_read_24 : decode cX0_read 24 = .ok (.aload_n 0, 1) := by decide +kernel
theorem dX0_read_25 : decode cX0_read 25 = .ok (.invokevirtual 65, 3) := by decide +kernel
theorem dX0_read_28 : decode cX0_read 28 = .ok (.ifCond .eq 5, 3) := by decide +kernel
theorem dX0_read_31 : decode cX0_read 31 = .ok (.iconst 1, 1) := by decide +kernel
theorem dX0_read_32 : decode cX0_read 32 = .ok (.ireturn, 1) := by decide +kernel
theorem dX0_read_33 : decode cX0_read 33 = .ok (.aload_n 0, 1) := by decide +kernel
theorem dX0_read_34 : decode cX0_read 34 = .ok (.invokevirtual 72, 3) := by decide +kernel
theorem dX0_read_37 : decode cX0_read 37 = .ok (.bipush 59, 2) := by decide +kernel
theorem dX0_read_39 : decode cX0_read 39 = .ok (.if_icmp .eq 11, 3) := by decide +kernel
theorem dX0_read_42 : decode cX0_read 42 = .ok (.bipush (-20), 2) := by decide +kernel
theorem dX0_read_44 : decode cX0_read 44 = .ok (.aload_n 0, 1) := by decide +kernel
theorem dX0_read_45 : decode cX0_read 45 = .ok (.getfield 49, 3) := by decide +kernel
theorem dX0_read_48 : decode cX0_read 48 = .ok (.isub, 1) := by decide +kernel
theorem dX0_read_49 : decode cX0_read 49 = .ok (.ireturn, 1) := by decide +kernel
theorem dX0_read_50 : decode cX0_read 50 = .ok (.aload_n 0, 1) := by decide +kernel
theorem dX0_read_51 : decode cX0_read 51 = .ok (.dup, 1) := by decide +kernel
theorem dX0_read_52 : decode cX0_read 52 = .ok (.getfield 49, 3) := by decide +kernel
theorem dX0_read_55 : decode cX0_read 55 = .ok (.iconst 1, 1) := by decide +kernel
theorem dX0_read_56 : decode cX0_read 56 = .ok (.iadd, 1) := by decide +kernel
theorem dX0_read_57 : decode cX0_read 57 = .ok (.putfield 49, 3) := by decide +kernel
theorem dX0_read_60 : decode cX0_read 60 = .ok (.aload_n 0, 1) := by decide +kernel
theorem dX0_read_61 : decode cX0_read 61 = .ok (.invokevirtual 69, 3) := by decide +kernel
theorem dX0_read_64 : decode cX0_read 64 = .ok (.ifCond .eq 14, 3) := by decide +kernel
theorem dX0_read_67 : decode cX0_read 67 = .ok (.aload_n 0, 1) := by decide +kernel
theorem dX0_read_68 : decode cX0_read 68 = .ok (.invokevirtual 65, 3) := by decide +kernel
theorem dX0_read_71 : decode cX0_read 71 = .ok (.ifCond .eq 7, 3) := by decide +kernel
theorem dX0_read_74 : decode cX0_read 74 = .ok (.iconst 2, 1) := by decide +kernel
theorem dX0_read_75 : decode cX0_read 75 = .ok (.goto 10, 3) := by decide +kernel
theorem dX0_read_78 : decode cX0_read 78 = .ok (.bipush (-20), 2) := by decide +kernel
theorem dX0_read_80 : decode cX0_read 80 = .ok (.aload_n 0, 1) := by decide +kernel
theorem dX0_read_81 : decode cX0_read 81 = .ok (.getfield 49, 3) := by decide +kernel
theorem dX0_read_84 : decode cX0_read 84 = .ok (.isub, 1) := by decide +kernel
theorem dX0_read_85 : decode cX0_read 85 = .ok (.ireturn, 1) := by decide +kernel
theorem dX0_readClause_0 : decode cX0_readClause 0 = .ok (.aload_n 0, 1) := by decide +kernel
theorem dX0_readClause_1 : decode cX0_readClause 1 = .ok (.invokevirtual 75, 3) := by decide +kernel
theorem dX0_readClause_4 : decode cX0_readClause 4 = .ok (.aload_n 0, 1) := by decide +kernel
theorem dX0_readClause_5 : decode cX0_readClause 5 = .ok (.invokevirtual 72, 3) := by decide +kernel
theorem dX0_readClause_8 : decode cX0_readClause 8 = .ok (.istore_n 1, 1) := by decide +kernel
theorem dX0_readClause_9 : decode cX0_readClause 9 = .ok (.iload_n 1, 1) := by decide +kernel
theorem dX0_readClause_10 : decode cX0_readClause 10 = .ok (.bipush 112, 2) := by decide +kernel
theorem dX0_readClause_12 : decode cX0_readClause 12 = .ok (.if_icmp .eq 11, 3) := by decide +kernel
theorem dX0_readClause_15 : decode cX0_readClause 15 = .ok (.iload_n 1, 1) := by decide +kernel
theorem dX0_readClause_16 : decode cX0_readClause 16 = .ok (.bipush 114, 2) := by decide +kernel
theorem dX0_readClause_18 : decode cX0_readClause 18 = .ok (.if_icmp .eq 5, 3) := by decide +kernel
theorem dX0_readClause_21 : decode cX0_readClause 21 = .ok (.iconst 0, 1) := by decide +kernel
theorem dX0_readClause_22 : decode cX0_readClause 22 = .ok (.ireturn, 1) := by decide +kernel
theorem dX0_readClause_23 : decode cX0_readClause 23 = .ok (.aload_n 0, 1) := by decide +kernel
theorem dX0_readClause_24 : decode cX0_readClause 24 = .ok (.dup, 1) := by decide +kernel
theorem dX0_readClause_25 : decode cX0_readClause 25 = .ok (.getfield 49, 3) := by decide +kernel
theorem dX0_readClause_28 : decode cX0_readClause 28 = .ok (.iconst 1, 1) := by decide +kernel
theorem dX0_readClause_29 : decode cX0_readClause 29 = .ok (.iadd, 1) := by decide +kernel
theorem dX0_readClause_30 : decode cX0_readClause 30 = .ok (.putfield 49, 3) := by decide +kernel
theorem dX0_readClause_33 : decode cX0_readClause 33 = .ok (.aload_n 0, 1) := by decide +kernel
theorem dX0_readClause_34 : decode cX0_readClause 34 = .ok (.invokevirtual 75, 3) := by decide +kernel
theorem dX0_readClause_37 : decode cX0_readClause 37 = .ok (.aload_n 0, 1) := by decide +kernel
theorem dX0_readClause_38 : decode cX0_readClause 38 = .ok (.invokevirtual 78, 3) := by decide +kernel
theorem dX0_readClause_41 : decode cX0_readClause 41 = .ok (.istore_n 2, 1) := by decide +kernel
theorem dX0_readClause_42 : decode cX0_readClause 42 = .ok (.iload_n 2, 1) := by decide +kernel
theorem dX0_readClause_43 : decode cX0_readClause 43 = .ok (.bipush (-4), 2) := by decide +kernel
theorem dX0_readClause_45 : decode cX0_readClause 45 = .ok (.if_icmp .ne 5, 3) := by decide +kernel
theorem dX0_readClause_48 : decode cX0_readClause 48 = .ok (.iconst 0, 1) := by decide +kernel
theorem dX0_readClause_49 : decode cX0_readClause 49 = .ok (.ireturn, 1) := by decide +kernel
theorem dX0_readClause_50 : decode cX0_readClause 50 = .ok (.aload_n 0, 1) := by decide +kernel
theorem dX0_readClause_51 : decode cX0_readClause 51 = .ok (.invokevirtual 75, 3) := by decide +kernel
theorem dX0_readClause_54 : decode cX0_readClause 54 = .ok (.aload_n 0, 1) := by decide +kernel
theorem dX0_readClause_55 : decode cX0_readClause 55 = .ok (.invokevirtual 72, 3) := by decide +kernel
theorem dX0_readClause_58 : decode cX0_readClause 58 = .ok (.istore_n 3, 1) := by decide +kernel
theorem dX0_readClause_59 : decode cX0_readClause 59 = .ok (.iload_n 3, 1) := by decide +kernel
theorem dX0_readClause_60 : decode cX0_readClause 60 = .ok (.bipush 82, 2) := by decide +kernel
theorem dX0_readClause_62 : decode cX0_readClause 62 = .ok (.if_icmp .eq 11, 3) := by decide +kernel
theorem dX0_readClause_65 : decode cX0_readClause 65 = .ok (.iload_n 3, 1) := by decide +kernel
theorem dX0_readClause_66 : decode cX0_readClause 66 = .ok (.bipush 78, 2) := by decide +kernel
theorem dX0_readClause_68 : decode cX0_readClause 68 = .ok (.if_icmp .eq 5, 3) := by decide +kernel
theorem dX0_readClause_71 : decode cX0_readClause 71 = .ok (.iconst 0, 1) := by decide +kernel
theorem dX0_readClause_72 : decode cX0_readClause 72 = .ok (.ireturn, 1) := by decide +kernel
theorem dX0_readClause_73 : decode cX0_readClause 73 = .ok (.aload_n 0, 1) := by decide +kernel
theorem dX0_readClause_74 : decode cX0_readClause 74 = .ok (.dup, 1) := by decide +kernel
theorem dX0_readClause_75 : decode cX0_readClause 75 = .ok (.getfield 49, 3) := by decide +kernel
theorem dX0_readClause_78 : decode cX0_readClause 78 = .ok (.iconst 1, 1) := by decide +kernel
theorem dX0_readClause_79 : decode cX0_readClause 79 = .ok (.iadd, 1) := by decide +kernel
theorem dX0_readClause_80 : decode cX0_readClause 80 = .ok (.putfield 49, 3) := by decide +kernel
theorem dX0_readClause_83 : decode cX0_readClause 83 = .ok (.aload_n 0, 1) := by decide +kernel
theorem dX0_readClause_84 : decode cX0_readClause 84 = .ok (.getfield 21, 3) := by decide +kernel
theorem dX0_readClause_87 : decode cX0_readClause 87 = .ok (.iload_n 1, 1) := by decide +kernel
theorem dX0_readClause_88 : decode cX0_readClause 88 = .ok (.bipush 112, 2) := by decide +kernel
theorem dX0_readClause_90 : decode cX0_readClause 90 = .ok (.if_icmp .ne 7, 3) := by decide +kernel
theorem dX0_readClause_93 : decode cX0_readClause 93 = .ok (.iconst 0, 1) := by decide +kernel
theorem dX0_readClause_94 : decode cX0_readClause 94 = .ok (.goto 4, 3) := by decide +kernel
theorem dX0_readClause_97 : decode cX0_readClause 97 = .ok (.iconst 1, 1) := by decide +kernel
theorem dX0_readClause_98 : decode cX0_readClause 98 = .ok (.iload_n 2, 1) := by decide +kernel
theorem dX0_readClause_99 : decode cX0_readClause 99 = .ok (.invokestatic 27, 3) := by decide +kernel
theorem dX0_readClause_102 : decode cX0_readClause 102 = .ok (.aload_n 0, 1) := by decide +kernel
theorem dX0_readClause_103 : decode cX0_readClause 103 = .ok (.getfield 24, 3) := by decide +kernel
theorem dX0_readClause_106 : decode cX0_readClause 106 = .ok (.iload_n 1, 1) := by decide +kernel
theorem dX0_readClause_107 : decode cX0_readClause 107 = .ok (.bipush 112, 2) := by decide +kernel
theorem dX0_readClause_109 : decode cX0_readClause 109 = .ok (.if_icmp .ne 7, 3) := by decide +kernel
theorem dX0_readClause_112 : decode cX0_readClause 112 = .ok (.iconst 0, 1) := by decide +kernel
theorem dX0_readClause_113 : decode cX0_readClause 113 = .ok (.goto 4, 3) := by decide +kernel
theorem dX0_readClause_116 : decode cX0_readClause 116 = .ok (.iconst 1, 1) := by decide +kernel
theorem dX0_readClause_117 : decode cX0_readClause 117 = .ok (.iload_n 3, 1) := by decide +kernel
theorem dX0_readClause_118 : decode cX0_readClause 118 = .ok (.invokestatic 27, 3) := by decide +kernel
theorem dX0_readClause_121 : decode cX0_readClause 121 = .ok (.iconst 1, 1) := by decide +kernel
theorem dX0_readClause_122 : decode cX0_readClause 122 = .ok (.ireturn, 1) := by decide +kernel
theorem dX0_readNumber_0 : decode cX0_readNumber 0 = .ok (.aload_n 0, 1) := by decide +kernel
theorem dX0_readNumber_1 : decode cX0_readNumber 1 = .ok (.getfield 49, 3) := by decide +kernel
theorem dX0_readNumber_4 : decode cX0_readNumber 4 = .ok (.istore_n 1, 1) := by decide +kernel
theorem dX0_readNumber_5 : decode cX0_readNumber 5 = .ok (.iconst 0, 1) := by decide +kernel
theorem dX0_readNumber_6 : decode cX0_readNumber 6 = .ok (.istore_n 2, 1) := by decide +kernel
theorem dX0_readNumber_7 : decode cX0_readNumber 7 = .ok (.aload_n 0, 1) := by decide +kernel
theorem dX0_readNumber_8 : decode cX0_readNumber 8 = .ok (.getfield 49, 3) := by decide +kernel
theorem dX0_readNumber_11 : decode cX0_readNumber 11 = .ok (.aload_n 0, 1) := by decide +kernel
theorem dX0_readNumber_12 : decode cX0_readNumber 12 = .ok (.getfield 43, 3) := by decide +kernel
theorem dX0_readNumber_15 : decode cX0_readNumber 15 = .ok (.if_icmp .ge 48, 3) := by decide +kernel
theorem dX0_readNumber_18 : decode cX0_readNumber 18 = .ok (.aload_n 0, 1) := by decide +kernel
theorem dX0_readNumber_19 : decode cX0_readNumber 19 = .ok (.invokevirtual 72, 3) := by decide +kernel
theorem dX0_readNumber_22 : decode cX0_readNumber 22 = .ok (.bipush 48, 2) := by decide +kernel
theorem dX0_readNumber_24 : decode cX0_readNumber 24 = .ok (.bipush 57, 2) := by decide +kernel
theorem dX0_readNumber_26 : decode cX0_readNumber 26 = .ok (.invokestatic 35, 3) := by decide +kernel
theorem dX0_readNumber_29 : decode cX0_readNumber 29 = .ok (.ifCond .eq 34, 3) := by decide +kernel
theorem dX0_readNumber_32 : decode cX0_readNumber 32 = .ok (.bipush 100, 2) := by decide +kernel
theorem dX0_readNumber_34 : decode cX0_readNumber 34 = .ok (.iload_n 2, 1) := by decide +kernel
theorem dX0_readNumber_35 : decode cX0_readNumber 35 = .ok (.bipush 10, 2) := by decide +kernel
theorem dX0_readNumber_37 : decode cX0_readNumber 37 = .ok (.imul, 1) := by decide +kernel
theorem dX0_readNumber_38 : decode cX0_readNumber 38 = .ok (.aload_n 0, 1) := by decide +kernel
theorem dX0_readNumber_39 : decode cX0_readNumber 39 = .ok (.invokevirtual 72, 3) := by decide +kernel
theorem dX0_readNumber_42 : decode cX0_readNumber 42 = .ok (.iadd, 1) := by decide +kernel
theorem dX0_readNumber_43 : decode cX0_readNumber 43 = .ok (.bipush 48, 2) := by decide +kernel
theorem dX0_readNumber_45 : decode cX0_readNumber 45 = .ok (.isub, 1) := by decide +kernel
theorem dX0_readNumber_46 : decode cX0_readNumber 46 = .ok (.invokestatic 81, 3) := by decide +kernel
theorem dX0_readNumber_49 : decode cX0_readNumber 49 = .ok (.istore_n 2, 1) := by decide +kernel
theorem dX0_readNumber_50 : decode cX0_readNumber 50 = .ok (.aload_n 0, 1) := by decide +kernel
theorem dX0_readNumber_51 : decode cX0_readNumber 51 = .ok (.dup, 1) := by decide +kernel
theorem dX0_readNumber_52 : decode cX0_readNumber 52 = .ok (.getfield 49, 3) := by decide +kernel
theorem dX0_readNumber_55 : decode cX0_readNumber 55 = .ok (.iconst 1, 1) := by decide +kernel
theorem dX0_readNumber_56 : decode cX0_readNumber 56 = .ok (.iadd, 1) := by decide +kernel
theorem dX0_readNumber_57 : decode cX0_readNumber 57 = .ok (.putfield 49, 3) := by decide +kernel
theorem dX0_readNumber_60 : decode cX0_readNumber 60 = .ok (.goto (-53), 3) := by decide +kernel
theorem dX0_readNumber_63 : decode cX0_readNumber 63 = .ok (.aload_n 0, 1) := by decide +kernel
theorem dX0_readNumber_64 : decode cX0_readNumber 64 = .ok (.getfield 49, 3) := by decide +kernel
theorem dX0_readNumber_67 : decode cX0_readNumber 67 = .ok (.iload_n 1, 1) := by decide +kernel
theorem dX0_readNumber_68 : decode cX0_readNumber 68 = .ok (.if_icmp .ne 6, 3) := by decide +kernel
theorem dX0_readNumber_71 : decode cX0_readNumber 71 = .ok (.bipush (-4), 2) := by decide +kernel
theorem dX0_readNumber_73 : decode cX0_readNumber 73 = .ok (.ireturn, 1) := by decide +kernel
theorem dX0_readNumber_74 : decode cX0_readNumber 74 = .ok (.iload_n 2, 1) := by decide +kernel
theorem dX0_readNumber_75 : decode cX0_readNumber 75 = .ok (.bipush 99, 2) := by decide +kernel
theorem dX0_readNumber_77 : decode cX0_readNumber 77 = .ok (.if_icmp .le 11, 3) := by decide +kernel
theorem dX0_readNumber_80 : decode cX0_readNumber 80 = .ok (.aload_n 0, 1) := by decide +kernel
theorem dX0_readNumber_81 : decode cX0_readNumber 81 = .ok (.iload_n 1, 1) := by decide +kernel
theorem dX0_readNumber_82 : decode cX0_readNumber 82 = .ok (.putfield 49, 3) := by decide +kernel
theorem dX0_readNumber_85 : decode cX0_readNumber 85 = .ok (.bipush (-4), 2) := by decide +kernel
theorem dX0_readNumber_87 : decode cX0_readNumber 87 = .ok (.ireturn, 1) := by decide +kernel
theorem dX0_readNumber_88 : decode cX0_readNumber 88 = .ok (.iload_n 2, 1) := by decide +kernel
theorem dX0_readNumber_89 : decode cX0_readNumber 89 = .ok (.ireturn, 1) := by decide +kernel
theorem dX0_skipBlanks_0 : decode cX0_skipBlanks 0 = .ok (.aload_n 0, 1) := by decide +kernel
theorem dX0_skipBlanks_1 : decode cX0_skipBlanks 1 = .ok (.getfield 49, 3) := by decide +kernel
theorem dX0_skipBlanks_4 : decode cX0_skipBlanks 4 = .ok (.aload_n 0, 1) := by decide +kernel
theorem dX0_skipBlanks_5 : decode cX0_skipBlanks 5 = .ok (.getfield 43, 3) := by decide +kernel
theorem dX0_skipBlanks_8 : decode cX0_skipBlanks 8 = .ok (.if_icmp .ge 25, 3) := by decide +kernel
theorem dX0_skipBlanks_11 : decode cX0_skipBlanks 11 = .ok (.aload_n 0, 1) := by decide +kernel
theorem dX0_skipBlanks_12 : decode cX0_skipBlanks 12 = .ok (.invokevirtual 72, 3) := by decide +kernel
theorem dX0_skipBlanks_15 : decode cX0_skipBlanks 15 = .ok (.bipush 32, 2) := by decide +kernel
theorem dX0_skipBlanks_17 : decode cX0_skipBlanks 17 = .ok (.if_icmp .ne 16, 3) := by decide +kernel
theorem dX0_skipBlanks_20 : decode cX0_skipBlanks 20 = .ok (.aload_n 0, 1) := by decide +kernel
theorem dX0_skipBlanks_21 : decode cX0_skipBlanks 21 = .ok (.dup, 1) := by decide +kernel
theorem dX0_skipBlanks_22 : decode cX0_skipBlanks 22 = .ok (.getfield 49, 3) := by decide +kernel
theorem dX0_skipBlanks_25 : decode cX0_skipBlanks 25 = .ok (.iconst 1, 1) := by decide +kernel
theorem dX0_skipBlanks_26 : decode cX0_skipBlanks 26 = .ok (.iadd, 1) := by decide +kernel
theorem dX0_skipBlanks_27 : decode cX0_skipBlanks 27 = .ok (.putfield 49, 3) := by decide +kernel
theorem dX0_skipBlanks_30 : decode cX0_skipBlanks 30 = .ok (.goto (-30), 3) := by decide +kernel
theorem dX0_skipBlanks_33 : decode cX0_skipBlanks 33 = .ok (.return_, 1) := by decide +kernel
theorem dX0_atEnd_0 : decode cX0_atEnd 0 = .ok (.aload_n 0, 1) := by decide +kernel
theorem dX0_atEnd_1 : decode cX0_atEnd 1 = .ok (.invokevirtual 75, 3) := by decide +kernel
theorem dX0_atEnd_4 : decode cX0_atEnd 4 = .ok (.aload_n 0, 1) := by decide +kernel
theorem dX0_atEnd_5 : decode cX0_atEnd 5 = .ok (.getfield 49, 3) := by decide +kernel
theorem dX0_atEnd_8 : decode cX0_atEnd 8 = .ok (.aload_n 0, 1) := by decide +kernel
theorem dX0_atEnd_9 : decode cX0_atEnd 9 = .ok (.getfield 43, 3) := by decide +kernel
theorem dX0_atEnd_12 : decode cX0_atEnd 12 = .ok (.if_icmp .lt 7, 3) := by decide +kernel
theorem dX0_atEnd_15 : decode cX0_atEnd 15 = .ok (.iconst 1, 1) := by decide +kernel
theorem dX0_atEnd_16 : decode cX0_atEnd 16 = .ok (.goto 4, 3) := by decide +kernel
theorem dX0_atEnd_19 : decode cX0_atEnd 19 = .ok (.iconst 0, 1) := by decide +kernel
theorem dX0_atEnd_20 : decode cX0_atEnd 20 = .ok (.ireturn, 1) := by decide +kernel
theorem dX0_here_0 : decode cX0_here 0 = .ok (.aload_n 0, 1) := by decide +kernel
theorem dX0_here_1 : decode cX0_here 1 = .ok (.getfield 49, 3) := by decide +kernel
theorem dX0_here_4 : decode cX0_here 4 = .ok (.aload_n 0, 1) := by decide +kernel
theorem dX0_here_5 : decode cX0_here 5 = .ok (.getfield 43, 3) := by decide +kernel
theorem dX0_here_8 : decode cX0_here 8 = .ok (.if_icmp .ge 17, 3) := by decide +kernel
theorem dX0_here_11 : decode cX0_here 11 = .ok (.aload_n 0, 1) := by decide +kernel
theorem dX0_here_12 : decode cX0_here 12 = .ok (.getfield 11, 3) := by decide +kernel
theorem dX0_here_15 : decode cX0_here 15 = .ok (.aload_n 0, 1) := by decide +kernel
theorem dX0_here_16 : decode cX0_here 16 = .ok (.getfield 49, 3) := by decide +kernel
theorem dX0_here_19 : decode cX0_here 19 = .ok (.invokestatic 31, 3) := by decide +kernel
theorem dX0_here_22 : decode cX0_here 22 = .ok (.goto 5, 3) := by decide +kernel
theorem dX0_here_25 : decode cX0_here 25 = .ok (.bipush (-4), 2) := by decide +kernel
theorem dX0_here_27 : decode cX0_here 27 = .ok (.ireturn, 1) := by decide +kernel
theorem dX1_init_0 : decode cX1_init 0 = .ok (.aload_n 0, 1) := by decide +kernel
theorem dX1_init_1 : decode cX1_init 1 = .ok (.invokespecial 3, 3) := by decide +kernel
theorem dX1_init_4 : decode cX1_init 4 = .ok (.aload_n 0, 1) := by decide +kernel
theorem dX1_init_5 : decode cX1_init 5 = .ok (.bipush 15, 2) := by decide +kernel
theorem dX1_init_7 : decode cX1_init 7 = .ok (.newarray .int, 2) := by decide +kernel
theorem dX1_init_9 : decode cX1_init 9 = .ok (.putfield 11, 3) := by decide +kernel
theorem dX1_init_12 : decode cX1_init 12 = .ok (.aload_n 0, 1) := by decide +kernel
theorem dX1_init_13 : decode cX1_init 13 = .ok (.bipush 15, 2) := by decide +kernel
theorem dX1_init_15 : decode cX1_init 15 = .ok (.newarray .int, 2) := by decide +kernel
theorem dX1_init_17 : decode cX1_init 17 = .ok (.putfield 15, 3) := by decide +kernel
theorem dX1_init_20 : decode cX1_init 20 = .ok (.aload_n 0, 1) := by decide +kernel
theorem dX1_init_21 : decode cX1_init 21 = .ok (.iconst 2, 1) := by decide +kernel
theorem dX1_init_22 : decode cX1_init 22 = .ok (.putfield 18, 3) := by decide +kernel
theorem dX1_init_25 : decode cX1_init 25 = .ok (.aload_n 0, 1) := by decide +kernel
theorem dX1_init_26 : decode cX1_init 26 = .ok (.getfield 11, 3) := by decide +kernel
theorem dX1_init_29 : decode cX1_init 29 = .ok (.bipush (-4), 2) := by decide +kernel
theorem dX1_init_31 : decode cX1_init 31 = .ok (.invokestatic 22, 3) := by decide +kernel
theorem dX1_init_34 : decode cX1_init 34 = .ok (.aload_n 0, 1) := by decide +kernel
theorem dX1_init_35 : decode cX1_init 35 = .ok (.getfield 15, 3) := by decide +kernel
theorem dX1_init_38 : decode cX1_init 38 = .ok (.bipush (-4), 2) := by decide +kernel
theorem dX1_init_40 : decode cX1_init 40 = .ok (.invokestatic 22, 3) := by decide +kernel
theorem dX1_init_43 : decode cX1_init 43 = .ok (.return_, 1) := by decide +kernel
theorem dX2_init_0 : decode cX2_init 0 = .ok (.aload_n 0, 1) := by decide +kernel
theorem dX2_init_1 : decode cX2_init 1 = .ok (.invokespecial 3, 3) := by decide +kernel
theorem dX2_init_4 : decode cX2_init 4 = .ok (.aload_n 0, 1) := by decide +kernel
theorem dX2_init_5 : decode cX2_init 5 = .ok (.sipush 150, 3) := by decide +kernel
theorem dX2_init_8 : decode cX2_init 8 = .ok (.newarray .int, 2) := by decide +kernel
theorem dX2_init_10 : decode cX2_init 10 = .ok (.putfield 9, 3) := by decide +kernel
theorem dX2_init_13 : decode cX2_init 13 = .ok (.aload_n 0, 1) := by decide +kernel
theorem dX2_init_14 : decode cX2_init 14 = .ok (.sipush 150, 3) := by decide +kernel
theorem dX2_init_17 : decode cX2_init 17 = .ok (.newarray .int, 2) := by decide +kernel
theorem dX2_init_19 : decode cX2_init 19 = .ok (.putfield 15, 3) := by decide +kernel
theorem dX2_init_22 : decode cX2_init 22 = .ok (.aload_n 0, 1) := by decide +kernel
theorem dX2_init_23 : decode cX2_init 23 = .ok (.sipush 150, 3) := by decide +kernel
theorem dX2_init_26 : decode cX2_init 26 = .ok (.newarray .int, 2) := by decide +kernel
theorem dX2_init_28 : decode cX2_init 28 = .ok (.putfield 18, 3) := by decide +kernel
theorem dX2_init_31 : decode cX2_init 31 = .ok (.aload_n 0, 1) := by decide +kernel
theorem dX2_init_32 : decode cX2_init 32 = .ok (.sipush 150, 3) := by decide +kernel
theorem dX2_init_35 : decode cX2_init 35 = .ok (.newarray .int, 2) := by decide +kernel
theorem dX2_init_37 : decode cX2_init 37 = .ok (.putfield 21, 3) := by decide +kernel
theorem dX2_init_40 : decode cX2_init 40 = .ok (.aload_n 0, 1) := by decide +kernel
theorem dX2_init_41 : decode cX2_init 41 = .ok (.sipush 150, 3) := by decide +kernel
theorem dX2_init_44 : decode cX2_init 44 = .ok (.newarray .int, 2) := by decide +kernel
theorem dX2_init_46 : decode cX2_init 46 = .ok (.putfield 24, 3) := by decide +kernel
theorem dX2_init_49 : decode cX2_init 49 = .ok (.aload_n 0, 1) := by decide +kernel
theorem dX2_init_50 : decode cX2_init 50 = .ok (.sipush 151, 3) := by decide +kernel
theorem dX2_init_53 : decode cX2_init 53 = .ok (.newarray .int, 2) := by decide +kernel
theorem dX2_init_55 : decode cX2_init 55 = .ok (.putfield 27, 3) := by decide +kernel
theorem dX2_init_58 : decode cX2_init 58 = .ok (.aload_n 0, 1) := by decide +kernel
theorem dX2_init_59 : decode cX2_init 59 = .ok (.iconst 2, 1) := by decide +kernel
theorem dX2_init_60 : decode cX2_init 60 = .ok (.newarray .int, 2) := by decide +kernel
theorem dX2_init_62 : decode cX2_init 62 = .ok (.putfield 30, 3) := by decide +kernel
theorem dX2_init_65 : decode cX2_init 65 = .ok (.aload_n 0, 1) := by decide +kernel
theorem dX2_init_66 : decode cX2_init 66 = .ok (.new 33, 3) := by decide +kernel
theorem dX2_init_69 : decode cX2_init 69 = .ok (.dup, 1) := by decide +kernel
theorem dX2_init_70 : decode cX2_init 70 = .ok (.invokespecial 35, 3) := by decide +kernel
theorem dX2_init_73 : decode cX2_init 73 = .ok (.putfield 36, 3) := by decide +kernel
theorem dX2_init_76 : decode cX2_init 76 = .ok (.aload_n 0, 1) := by decide +kernel
theorem dX2_init_77 : decode cX2_init 77 = .ok (.new 33, 3) := by decide +kernel
theorem dX2_init_80 : decode cX2_init 80 = .ok (.dup, 1) := by decide +kernel
theorem dX2_init_81 : decode cX2_init 81 = .ok (.invokespecial 35, 3) := by decide +kernel
theorem dX2_init_84 : decode cX2_init 84 = .ok (.putfield 40, 3) := by decide +kernel
theorem dX2_init_87 : decode cX2_init 87 = .ok (.return_, 1) := by decide +kernel
theorem dX2_begin_0 : decode cX2_begin 0 = .ok (.aload_n 0, 1) := by decide +kernel
theorem dX2_begin_1 : decode cX2_begin 1 = .ok (.getfield 30, 3) := by decide +kernel
theorem dX2_begin_4 : decode cX2_begin 4 = .ok (.iconst 0, 1) := by decide +kernel
theorem dX2_begin_5 : decode cX2_begin 5 = .ok (.iload_n 1, 1) := by decide +kernel
theorem dX2_begin_6 : decode cX2_begin 6 = .ok (.invokestatic 43, 3) := by decide +kernel
theorem dX2_begin_9 : decode cX2_begin 9 = .ok (.aload_n 0, 1) := by decide +kernel
theorem dX2_begin_10 : decode cX2_begin 10 = .ok (.getfield 30, 3) := by decide +kernel
theorem dX2_begin_13 : decode cX2_begin 13 = .ok (.iconst 1, 1) := by decide +kernel
theorem dX2_begin_14 : decode cX2_begin 14 = .ok (.iload_n 2, 1) := by decide +kernel
theorem dX2_begin_15 : decode cX2_begin 15 = .ok (.invokestatic 43, 3) := by decide +kernel
theorem dX2_begin_18 : decode cX2_begin 18 = .ok (.aload_n 0, 1) := by decide +kernel
theorem dX2_begin_19 : decode cX2_begin 19 = .ok (.iload_n 3, 1) := by decide +kernel
theorem dX2_begin_20 : decode cX2_begin 20 = .ok (.putfield 47, 3) := by decide +kernel
theorem dX2_begin_23 : decode cX2_begin 23 = .ok (.aload_n 0, 1) := by decide +kernel
theorem dX2_begin_24 : decode cX2_begin 24 = .ok (.iload 4, 2) := by decide +kernel
theorem dX2_begin_26 : decode cX2_begin 26 = .ok (.putfield 51, 3) := by decide +kernel
theorem dX2_begin_29 : decode cX2_begin 29 = .ok (.aload_n 0, 1) := by decide +kernel
theorem dX2_begin_30 : decode cX2_begin 30 = .ok (.iconst 1, 1) := by decide +kernel
theorem dX2_begin_31 : decode cX2_begin 31 = .ok (.putfield 54, 3) := by decide +kernel
theorem dX2_begin_34 : decode cX2_begin 34 = .ok (.aload_n 0, 1) := by decide +kernel
theorem dX2_begin_35 : decode cX2_begin 35 = .ok (.iconst 0, 1) := by decide +kernel
theorem dX2_begin_36 : decode cX2_begin 36 = .ok (.putfield 58, 3) := by decide +kernel
theorem dX2_begin_39 : decode cX2_begin 39 = .ok (.aload_n 0, 1) := by decide +kernel
theorem dX2_begin_40 : decode cX2_begin 40 = .ok (.getfield 27, 3) := by decide +kernel
theorem dX2_begin_43 : decode cX2_begin 43 = .ok (.iconst 0, 1) := by decide +kernel
theorem dX2_begin_44 : decode cX2_begin 44 = .ok (.iconst 0, 1) := by decide +kernel
theorem dX2_begin_45 : decode cX2_begin 45 = .ok (.invokestatic 43, 3) := by decide +kernel
theorem dX2_begin_48 : decode cX2_begin 48 = .ok (.aload_n 0, 1) := by decide +kernel
theorem dX2_begin_49 : decode cX2_begin 49 = .ok (.getfield 36, 3) := by decide +kernel
theorem dX2_begin_52 : decode cX2_begin 52 = .ok (.aload_n 0, 1) := by decide +kernel
theorem dX2_begin_53 : decode cX2_begin 53 = .ok (.getfield 47, 3) := by decide +kernel
theorem dX2_begin_56 : decode cX2_begin 56 = .ok (.aload_n 0, 1) := by decide +kernel
theorem dX2_begin_57 : decode cX2_begin 57 = .ok (.getfield 51, 3) := by decide +kernel
theorem dX2_begin_60 : decode cX2_begin 60 = .ok (.invokevirtual 61, 3) := by decide +kernel
theorem dX2_begin_63 : decode cX2_begin 63 = .ok (.return_, 1) := by decide +kernel
theorem dX2_take_0 : decode cX2_take 0 = .ok (.aload_n 0, 1) := by decide +kernel
theorem dX2_take_1 : decode cX2_take 1 = .ok (.getfield 54, 3) := by decide +kernel
theorem dX2_take_4 : decode cX2_take 4 = .ok (.ifCond .eq 15, 3) := by decide +kernel
theorem dX2_take_7 : decode cX2_take 7 = .ok (.aload_n 0, 1) := by decide +kernel
theorem dX2_take_8 : decode cX2_take 8 = .ok (.getfield 36, 3) := by decide +kernel
theorem dX2_take_11 : decode cX2_take 11 = .ok (.iload_n 1, 1) := by decide +kernel
theorem dX2_take_12 : decode cX2_take 12 = .ok (.iload_n 2, 1) := by decide +kernel
theorem dX2_take_13 : decode cX2_take 13 = .ok (.invokevirtual 73, 3) := by decide +kernel
theorem dX2_take_16 : decode cX2_take 16 = .ok (.ifCond .ne 6, 3) := by decide +kernel
theorem dX2_take_19 : decode cX2_take 19 = .ok (.bipush (-2), 2) := by decide +kernel
theorem dX2_take_21 : decode cX2_take 21 = .ok (.ireturn, 1) := by decide +kernel
theorem dX2_take_22 : decode cX2_take 22 = .ok (.aload_n 0, 1) := by decide +kernel
theorem dX2_take_23 : decode cX2_take 23 = .ok (.getfield 58, 3) := by decide +kernel
theorem dX2_take_26 : decode cX2_take 26 = .ok (.sipush 150, 3) := by decide +kernel
theorem dX2_take_29 : decode cX2_take 29 = .ok (.if_icmp .lt 6, 3) := by decide +kernel
theorem dX2_take_32 : decode cX2_take 32 = .ok (.bipush (-3), 2) := by decide +kernel
theorem dX2_take_34 : decode cX2_take 34 = .ok (.ireturn, 1) := by decide +kernel
theorem dX2_take_35 : decode cX2_take 35 = .ok (.aload_n 0, 1) := by decide +kernel
theorem dX2_take_36 : decode cX2_take 36 = .ok (.getfield 58, 3) := by decide +kernel
theorem dX2_take_39 : decode cX2_take 39 = .ok (.istore_n 3, 1) := by decide +kernel
theorem dX2_take_40 : decode cX2_take 40 = .ok (.aload_n 0, 1) := by decide +kernel
theorem dX2_take_41 : decode cX2_take 41 = .ok (.getfield 9, 3) := by decide +kernel
theorem dX2_take_44 : decode cX2_take 44 = .ok (.iload_n 3, 1) := by decide +kernel
theorem dX2_take_45 : decode cX2_take 45 = .ok (.iload_n 1, 1) := by decide +kernel
theorem dX2_take_46 : decode cX2_take 46 = .ok (.invokestatic 43, 3) := by decide +kernel
theorem dX2_take_49 : decode cX2_take 49 = .ok (.aload_n 0, 1) := by decide +kernel
theorem dX2_take_50 : decode cX2_take 50 = .ok (.getfield 15, 3) := by decide +kernel
theorem dX2_take_53 : decode cX2_take 53 = .ok (.iload_n 3, 1) := by decide +kernel
theorem dX2_take_54 : decode cX2_take 54 = .ok (.iload_n 2, 1) := by decide +kernel
theorem dX2_take_55 : decode cX2_take 55 = .ok (.invokestatic 43, 3) := by decide +kernel
theorem dX2_take_58 : decode cX2_take 58 = .ok (.aload_n 0, 1) := by decide +kernel
theorem dX2_take_59 : decode cX2_take 59 = .ok (.getfield 24, 3) := by decide +kernel
theorem dX2_take_62 : decode cX2_take 62 = .ok (.iload_n 3, 1) := by decide +kernel
theorem dX2_take_63 : decode cX2_take 63 = .ok (.aload_n 0, 1) := by decide +kernel
theorem dX2_take_64 : decode cX2_take 64 = .ok (.getfield 36, 3) := by decide +kernel
theorem dX2_take_67 : decode cX2_take 67 = .ok (.iload_n 1, 1) := by decide +kernel
theorem dX2_take_68 : decode cX2_take 68 = .ok (.iload_n 2, 1) := by decide +kernel
theorem dX2_take_69 : decode cX2_take 69 = .ok (.invokevirtual 77, 3) := by decide +kernel
theorem dX2_take_72 : decode cX2_take 72 = .ok (.ifCond .eq 7, 3) := by decide +kernel
theorem dX2_take_75 : decode cX2_take 75 = .ok (.iconst 1, 1) := by decide +kernel
theorem dX2_take_76 : decode cX2_take 76 = .ok (.goto 4, 3) := by decide +kernel
theorem dX2_take_79 : decode cX2_take 79 = .ok (.iconst 0, 1) := by decide +kernel
theorem dX2_take_80 : decode cX2_take 80 = .ok (.invokestatic 43, 3) := by decide +kernel
theorem dX2_take_83 : decode cX2_take 83 = .ok (.iload_n 1, 1) := by decide +kernel
theorem dX2_take_84 : decode cX2_take 84 = .ok (.invokestatic 80, 3) := by decide +kernel
theorem dX2_take_87 : decode cX2_take 87 = .ok (.ifCond .ne 8, 3) := by decide +kernel
theorem dX2_take_90 : decode cX2_take 90 = .ok (.aload_n 0, 1) := by decide +kernel
theorem dX2_take_91 : decode cX2_take 91 = .ok (.iload_n 3, 1) := by decide +kernel
theorem dX2_take_92 : decode cX2_take 92 = .ok (.invokevirtual 84, 3) := by decide +kernel
theorem dX2_take_95 : decode cX2_take 95 = .ok (.aload_n 0, 1) := by decide +kernel
theorem dX2_take_96 : decode cX2_take 96 = .ok (.getfield 36, 3) := by decide +kernel
theorem dX2_take_99 : decode cX2_take 99 = .ok (.iload_n 1, 1) := by decide +kernel
theorem dX2_take_100 : decode cX2_take 100 = .ok (.iload_n 2, 1) := by decide +kernel
theorem dX2_take_101 : decode cX2_take 101 = .ok (.invokevirtual 88, 3) := by decide +kernel
theorem dX2_take_104 : decode cX2_take 104 = .ok (.iload_n 1, 1) := by decide +kernel
theorem dX2_take_105 : decode cX2_take 105 = .ok (.invokestatic 80, 3) := by decide +kernel
theorem dX2_take_108 : decode cX2_take 108 = .ok (.ifCond .eq 8, 3) := by decide +kernel
theorem dX2_take_111 : decode cX2_take 111 = .ok (.aload_n 0, 1) := by decide +kernel
theorem dX2_take_112 : decode cX2_take 112 = .ok (.iload_n 3, 1) := by decide +kernel
theorem dX2_take_113 : decode cX2_take 113 = .ok (.invokevirtual 84, 3) := by decide +kernel
theorem dX2_take_116 : decode cX2_take 116 = .ok (.aload_n 0, 1) := by decide +kernel
theorem dX2_take_117 : decode cX2_take 117 = .ok (.iload_n 3, 1) := by decide +kernel
theorem dX2_take_118 : decode cX2_take 118 = .ok (.iconst 1, 1) := by decide +kernel
theorem dX2_take_119 : decode cX2_take 119 = .ok (.iadd, 1) := by decide +kernel
theorem dX2_take_120 : decode cX2_take 120 = .ok (.putfield 58, 3) := by decide +kernel
theorem dX2_take_123 : decode cX2_take 123 = .ok (.aload_n 0, 1) := by decide +kernel
theorem dX2_take_124 : decode cX2_take 124 = .ok (.getfield 27, 3) := by decide +kernel
theorem dX2_take_127 : decode cX2_take 127 = .ok (.aload_n 0, 1) := by decide +kernel
theorem dX2_take_128 : decode cX2_take 128 = .ok (.getfield 58, 3) := by decide +kernel
theorem dX2_take_131 : decode cX2_take 131 = .ok (.iconst 0, 1) := by decide +kernel
theorem dX2_take_132 : decode cX2_take 132 = .ok (.invokestatic 43, 3) := by decide +kernel
theorem dX2_take_135 : decode cX2_take 135 = .ok (.iload_n 3, 1) := by decide +kernel
theorem dX2_take_136 : decode cX2_take 136 = .ok (.ireturn, 1) := by decide +kernel
theorem dX2_begins_0 : decode cX2_begins 0 = .ok (.iload_n 0, 1) := by decide +kernel
theorem dX2_begins_1 : decode cX2_begins 1 = .ok (.ifCond .eq 9, 3) := by decide +kernel
theorem dX2_begins_4 : decode cX2_begins 4 = .ok (.iload_n 0, 1) := by decide +kernel
theorem dX2_begins_5 : decode cX2_begins 5 = .ok (.bipush 6, 2) := by decide +kernel
theorem dX2_begins_7 : decode cX2_begins 7 = .ok (.if_icmp .ne 7, 3) := by decide +kernel
theorem dX2_begins_10 : decode cX2_begins 10 = .ok (.iconst 1, 1) := by decide +kernel
theorem dX2_begins_11 : decode cX2_begins 11 = .ok (.goto 4, 3) := by decide +kernel
theorem dX2_begins_14 : decode cX2_begins 14 = .ok (.iconst 0, 1) := by decide +kernel
theorem dX2_begins_15 : decode cX2_begins 15 = .ok (.ireturn, 1) := by decide +kernel
theorem dX2_noteStriker_0 : decode cX2_noteStriker 0 = .ok (.aload_n 0, 1) := by decide +kernel
theorem dX2_noteStriker_1 : decode cX2_noteStriker 1 = .ok (.getfield 18, 3) := by decide +kernel
theorem dX2_noteStriker_4 : decode cX2_noteStriker 4 = .ok (.iload_n 1, 1) := by decide +kernel
theorem dX2_noteStriker_5 : decode cX2_noteStriker 5 = .ok (.aload_n 0, 1) := by decide +kernel
theorem dX2_noteStriker_6 : decode cX2_noteStriker 6 = .ok (.getfield 36, 3) := by decide +kernel
theorem dX2_noteStriker_9 : decode cX2_noteStriker 9 = .ok (.invokevirtual 91, 3) := by decide +kernel
theorem dX2_noteStriker_12 : decode cX2_noteStriker 12 = .ok (.invokestatic 43, 3) := by decide +kernel
theorem dX2_noteStriker_15 : decode cX2_noteStriker 15 = .ok (.aload_n 0, 1) := by decide +kernel
theorem dX2_noteStriker_16 : decode cX2_noteStriker 16 = .ok (.getfield 21, 3) := by decide +kernel
theorem dX2_noteStriker_19 : decode cX2_noteStriker 19 = .ok (.iload_n 1, 1) := by decide +kernel
theorem dX2_noteStriker_20 : decode cX2_noteStriker 20 = .ok (.aload_n 0, 1) := by decide +kernel
theorem dX2_noteStriker_21 : decode cX2_noteStriker 21 = .ok (.getfield 36, 3) := by decide +kernel
theorem dX2_noteStriker_24 : decode cX2_noteStriker 24 = .ok (.invokevirtual 94, 3) := by decide +kernel
theorem dX2_noteStriker_27 : decode cX2_noteStriker 27 = .ok (.invokestatic 43, 3) := by decide +kernel
theorem dX2_noteStriker_30 : decode cX2_noteStriker 30 = .ok (.return_, 1) := by decide +kernel
theorem dX2_has_0 : decode cX2_has 0 = .ok (.iload_n 1, 1) := by decide +kernel
theorem dX2_has_1 : decode cX2_has 1 = .ok (.ifCond .lt 15, 3) := by decide +kernel
theorem dX2_has_4 : decode cX2_has 4 = .ok (.iload_n 1, 1) := by decide +kernel
theorem dX2_has_5 : decode cX2_has 5 = .ok (.aload_n 0, 1) := by decide +kernel
theorem dX2_has_6 : decode cX2_has 6 = .ok (.getfield 58, 3) := by decide +kernel
theorem dX2_has_9 : decode cX2_has 9 = .ok (.if_icmp .ge 7, 3) := by decide +kernel
theorem dX2_has_12 : decode cX2_has 12 = .ok (.iconst 1, 1) := by decide +kernel
theorem dX2_has_13 : decode cX2_has 13 = .ok (.goto 4, 3) := by decide +kernel
theorem dX2_has_16 : decode cX2_has 16 = .ok (.iconst 0, 1) := by decide +kernel
theorem dX2_has_17 : decode cX2_has 17 = .ok (.ireturn, 1) := by decide +kernel
theorem dX2_tell_0 : decode cX2_tell 0 = .ok (.aload_n 0, 1) := by decide +kernel
theorem dX2_tell_1 : decode cX2_tell 1 = .ok (.iload_n 1, 1) := by decide +kernel
theorem dX2_tell_2 : decode cX2_tell 2 = .ok (.invokevirtual 97, 3) := by decide +kernel
theorem dX2_tell_5 : decode cX2_tell 5 = .ok (.ifCond .ne 6, 3) := by decide +kernel
theorem dX2_tell_8 : decode cX2_tell 8 = .ok (.bipush (-4), 2) := by decide +kernel
theorem dX2_tell_10 : decode cX2_tell 10 = .ok (.ireturn, 1) := by decide +kernel
theorem dX2_tell_11 : decode cX2_tell 11 = .ok (.iload_n 2, 1) := by decide +kernel
theorem dX2_tell_12 : decode cX2_tell 12 = .ok (.tableswitch 55 0 2 #[28, 37, 46], 28) := by decide +kernel
theorem dX2_tell_40 : decode cX2_tell 40 = .ok (.aload_n 0, 1) := by decide +kernel
theorem dX2_tell_41 : decode cX2_tell 41 = .ok (.getfield 9, 3) := by decide +kernel
theorem dX2_tell_44 : decode cX2_tell 44 = .ok (.iload_n 1, 1) := by decide +kernel
theorem dX2_tell_45 : decode cX2_tell 45 = .ok (.invokestatic 69, 3) := by decide +kernel
theorem dX2_tell_48 : decode cX2_tell 48 = .ok (.ireturn, 1) := by decide +kernel
theorem dX2_tell_49 : decode cX2_tell 49 = .ok (.aload_n 0, 1) := by decide +kernel
theorem dX2_tell_50 : decode cX2_tell 50 = .ok (.getfield 18, 3) := by decide +kernel
theorem dX2_tell_53 : decode cX2_tell 53 = .ok (.iload_n 1, 1) := by decide +kernel
theorem dX2_tell_54 : decode cX2_tell 54 = .ok (.invokestatic 69, 3) := by decide +kernel
theorem dX2_tell_57 : decode cX2_tell 57 = .ok (.ireturn, 1) := by decide +kernel
theorem dX2_tell_58 : decode cX2_tell 58 = .ok (.aload_n 0, 1) := by decide +kernel
theorem dX2_tell_59 : decode cX2_tell 59 = .ok (.getfield 21, 3) := by decide +kernel
theorem dX2_tell_62 : decode cX2_tell 62 = .ok (.iload_n 1, 1) := by decide +kernel
theorem dX2_tell_63 : decode cX2_tell 63 = .ok (.invokestatic 69, 3) := by decide +kernel
theorem dX2_tell_66 : decode cX2_tell 66 = .ok (.ireturn, 1) := by decide +kernel
theorem dX2_tell_67 : decode cX2_tell 67 = .ok (.aload_n 0, 1) := by decide +kernel
theorem dX2_tell_68 : decode cX2_tell 68 = .ok (.getfield 24, 3) := by decide +kernel
theorem dX2_tell_71 : decode cX2_tell 71 = .ok (.iload_n 1, 1) := by decide +kernel
theorem dX2_tell_72 : decode cX2_tell 72 = .ok (.invokestatic 69, 3) := by decide +kernel
theorem dX2_tell_75 : decode cX2_tell 75 = .ok (.ireturn, 1) := by decide +kernel
theorem dX2_asOf_0 : decode cX2_asOf 0 = .ok (.aload_n 0, 1) := by decide +kernel
theorem dX2_asOf_1 : decode cX2_asOf 1 = .ok (.getfield 54, 3) := by decide +kernel
theorem dX2_asOf_4 : decode cX2_asOf 4 = .ok (.ifCond .eq 15, 3) := by decide +kernel
theorem dX2_asOf_7 : decode cX2_asOf 7 = .ok (.iload_n 1, 1) := by decide +kernel
theorem dX2_asOf_8 : decode cX2_asOf 8 = .ok (.ifCond .lt 11, 3) := by decide +kernel
theorem dX2_asOf_11 : decode cX2_asOf 11 = .ok (.iload_n 1, 1) := by decide +kernel
theorem dX2_asOf_12 : decode cX2_asOf 12 = .ok (.aload_n 0, 1) := by decide +kernel
theorem dX2_asOf_13 : decode cX2_asOf 13 = .ok (.getfield 58, 3) := by decide +kernel
theorem dX2_asOf_16 : decode cX2_asOf 16 = .ok (.if_icmp .le 5, 3) := by decide +kernel
theorem dX2_asOf_19 : decode cX2_asOf 19 = .ok (.iconst (-1), 1) := by decide +kernel
theorem dX2_asOf_20 : decode cX2_asOf 20 = .ok (.ireturn, 1) := by decide +kernel
theorem dX2_asOf_21 : decode cX2_asOf 21 = .ok (.aload_n 0, 1) := by decide +kernel
theorem dX2_asOf_22 : decode cX2_asOf 22 = .ok (.aload_n 0, 1) := by decide +kernel
theorem dX2_asOf_23 : decode cX2_asOf 23 = .ok (.getfield 40, 3) := by decide +kernel
theorem dX2_asOf_26 : decode cX2_asOf 26 = .ok (.iload_n 1, 1) := by decide +kernel
theorem dX2_asOf_27 : decode cX2_asOf 27 = .ok (.invokevirtual 100, 3) := by decide +kernel
theorem dX2_asOf_30 : decode cX2_asOf 30 = .ok (.aload_n 0, 1) := by decide +kernel
theorem dX2_asOf_31 : decode cX2_asOf 31 = .ok (.getfield 40, 3) := by decide +kernel
theorem dX2_asOf_34 : decode cX2_asOf 34 = .ok (.iload_n 2, 1) := by decide +kernel
theorem dX2_asOf_35 : decode cX2_asOf 35 = .ok (.invokevirtual 104, 3) := by decide +kernel
theorem dX2_asOf_38 : decode cX2_asOf 38 = .ok (.ireturn, 1) := by decide +kernel
theorem dX2_leadTo_0 : decode cX2_leadTo 0 = .ok (.aload_n 1, 1) := by decide +kernel
theorem dX2_leadTo_1 : decode cX2_leadTo 1 = .ok (.aload_n 0, 1) := by decide +kernel
theorem dX2_leadTo_2 : decode cX2_leadTo 2 = .ok (.getfield 47, 3) := by decide +kernel
theorem dX2_leadTo_5 : decode cX2_leadTo 5 = .ok (.aload_n 0, 1) := by decide +kernel
theorem dX2_leadTo_6 : decode cX2_leadTo 6 = .ok (.getfield 51, 3) := by decide +kernel
theorem dX2_leadTo_9 : decode cX2_leadTo 9 = .ok (.invokevirtual 61, 3) := by decide +kernel
theorem dX2_leadTo_12 : decode cX2_leadTo 12 = .ok (.aload_n 1, 1) := by decide +kernel
theorem dX2_leadTo_13 : decode cX2_leadTo 13 = .ok (.aload_n 0, 1) := by decide +kernel
theorem dX2_leadTo_14 : decode cX2_leadTo 14 = .ok (.getfield 27, 3) := by decide +kernel
theorem dX2_leadTo_17 : decode cX2_leadTo 17 = .ok (.iconst 0, 1) := by decide +kernel
theorem dX2_leadTo_18 : decode cX2_leadTo 18 = .ok (.invokestatic 69, 3) := by decide +kernel
theorem dX2_leadTo_21 : decode cX2_leadTo 21 = .ok (.invokestatic 108, 3) := by decide +kernel
theorem dX2_leadTo_24 : decode cX2_leadTo 24 = .ok (.iconst 0, 1) := by decide +kernel
theorem dX2_leadTo_25 : decode cX2_leadTo 25 = .ok (.istore_n 3, 1) := by decide +kernel
theorem dX2_leadTo_26 : decode cX2_leadTo 26 = .ok (.iload_n 3, 1) := by decide +kernel
theorem dX2_leadTo_27 : decode cX2_leadTo 27 = .ok (.iload_n 2, 1) := by decide +kernel
theorem dX2_leadTo_28 : decode cX2_leadTo 28 = .ok (.if_icmp .ge 51, 3) := by decide +kernel
theorem dX2_leadTo_31 : decode cX2_leadTo 31 = .ok (.iload_n 3, 1) := by decide +kernel
theorem dX2_leadTo_32 : decode cX2_leadTo 32 = .ok (.aload_n 0, 1) := by decide +kernel
theorem dX2_leadTo_33 : decode cX2_leadTo 33 = .ok (.getfield 58, 3) := by decide +kernel
theorem dX2_leadTo_36 : decode cX2_leadTo 36 = .ok (.if_icmp .ge 43, 3) := by decide +kernel
theorem dX2_leadTo_39 : decode cX2_leadTo 39 = .ok (.aload_n 1, 1) := by decide +kernel
theorem dX2_leadTo_40 : decode cX2_leadTo 40 = .ok (.aload_n 0, 1) := by decide +kernel
theorem dX2_leadTo_41 : decode cX2_leadTo 41 = .ok (.getfield 9, 3) := by decide +kernel
theorem dX2_leadTo_44 : decode cX2_leadTo 44 = .ok (.iload_n 3, 1) := by decide +kernel
theorem dX2_leadTo_45 : decode cX2_leadTo 45 = .ok (.invokestatic 69, 3) := by decide +kernel
theorem dX2_leadTo_48 : decode cX2_leadTo 48 = .ok (.aload_n 0, 1) := by decide +kernel
theorem dX2_leadTo_49 : decode cX2_leadTo 49 = .ok (.getfield 15, 3) := by decide +kernel
theorem dX2_leadTo_52 : decode cX2_leadTo 52 = .ok (.iload_n 3, 1) := by decide +kernel
theorem dX2_leadTo_53 : decode cX2_leadTo 53 = .ok (.invokestatic 69, 3) := by decide +kernel
theorem dX2_leadTo_56 : decode cX2_leadTo 56 = .ok (.invokevirtual 88, 3) := by decide +kernel
theorem dX2_leadTo_59 : decode cX2_leadTo 59 = .ok (.aload_n 1, 1) := by decide +kernel
theorem dX2_leadTo_60 : decode cX2_leadTo 60 = .ok (.aload_n 0, 1) := by decide +kernel
theorem dX2_leadTo_61 : decode cX2_leadTo 61 = .ok (.getfield 27, 3) := by decide +kernel
theorem dX2_leadTo_64 : decode cX2_leadTo 64 = .ok (.iload_n 3, 1) := by decide +kernel
theorem dX2_leadTo_65 : decode cX2_leadTo 65 = .ok (.iconst 1, 1) := by decide +kernel
theorem dX2_leadTo_66 : decode cX2_leadTo 66 = .ok (.iadd, 1) := by decide +kernel
theorem dX2_leadTo_67 : decode cX2_leadTo 67 = .ok (.invokestatic 69, 3) := by decide +kernel
theorem dX2_leadTo_70 : decode cX2_leadTo 70 = .ok (.invokestatic 108, 3) := by decide +kernel
theorem dX2_leadTo_73 : decode cX2_leadTo 73 = .ok (.iinc 3 1, 3) := by decide +kernel
theorem dX2_leadTo_76 : decode cX2_leadTo 76 = .ok (.goto (-50), 3) := by decide +kernel
theorem dX2_leadTo_79 : decode cX2_leadTo 79 = .ok (.return_, 1) := by decide +kernel
theorem dX2_obey_0 : decode cX2_obey 0 = .ok (.iload_n 1, 1) := by decide +kernel
theorem dX2_obey_1 : decode cX2_obey 1 = .ok (.iconst 1, 1) := by decide +kernel
theorem dX2_obey_2 : decode cX2_obey 2 = .ok (.if_icmp .ne 10, 3) := by decide +kernel
theorem dX2_obey_5 : decode cX2_obey 5 = .ok (.aload_n 0, 1) := by decide +kernel
theorem dX2_obey_6 : decode cX2_obey 6 = .ok (.invokevirtual 111, 3) := by decide +kernel
theorem dX2_obey_9 : decode cX2_obey 9 = .ok (.goto 15, 3) := by decide +kernel
theorem dX2_obey_12 : decode cX2_obey 12 = .ok (.iload_n 1, 1) := by decide +kernel
theorem dX2_obey_13 : decode cX2_obey 13 = .ok (.iconst 2, 1) := by decide +kernel
theorem dX2_obey_14 : decode cX2_obey 14 = .ok (.if_icmp .lt 10, 3) := by decide +kernel
theorem dX2_obey_17 : decode cX2_obey 17 = .ok (.aload_n 0, 1) := by decide +kernel
theorem dX2_obey_18 : decode cX2_obey 18 = .ok (.iload_n 1, 1) := by decide +kernel
theorem dX2_obey_19 : decode cX2_obey 19 = .ok (.iconst 2, 1) := by decide +kernel
theorem dX2_obey_20 : decode cX2_obey 20 = .ok (.isub, 1) := by decide +kernel
theorem dX2_obey_21 : decode cX2_obey 21 = .ok (.invokevirtual 114, 3) := by decide +kernel
theorem dX2_obey_24 : decode cX2_obey 24 = .ok (.return_, 1) := by decide +kernel
theorem dX2_find_0 : decode cX2_find 0 = .ok (.aload_n 0, 1) := by decide +kernel
theorem dX2_find_1 : decode cX2_find 1 = .ok (.iload_n 1, 1) := by decide +kernel
theorem dX2_find_2 : decode cX2_find 2 = .ok (.invokevirtual 97, 3) := by decide +kernel
theorem dX2_find_5 : decode cX2_find 5 = .ok (.ifCond .ne 5, 3) := by decide +kernel
theorem dX2_find_8 : decode cX2_find 8 = .ok (.iconst (-1), 1) := by decide +kernel
theorem dX2_find_9 : decode cX2_find 9 = .ok (.ireturn, 1) := by decide +kernel
theorem dX2_find_10 : decode cX2_find 10 = .ok (.aload_n 0, 1) := by decide +kernel
theorem dX2_find_11 : decode cX2_find 11 = .ok (.getfield 24, 3) := by decide +kernel
theorem dX2_find_14 : decode cX2_find 14 = .ok (.iload_n 1, 1) := by decide +kernel
theorem dX2_find_15 : decode cX2_find 15 = .ok (.invokestatic 69, 3) := by decide +kernel
theorem dX2_find_18 : decode cX2_find 18 = .ok (.ifCond .ne 6, 3) := by decide +kernel
theorem dX2_find_21 : decode cX2_find 21 = .ok (.bipush (-2), 2) := by decide +kernel
theorem dX2_find_23 : decode cX2_find 23 = .ok (.ireturn, 1) := by decide +kernel
theorem dX2_find_24 : decode cX2_find 24 = .ok (.aload_n 2, 1) := by decide +kernel
theorem dX2_find_25 : decode cX2_find 25 = .ok (.aload_n 0, 1) := by decide +kernel
theorem dX2_find_26 : decode cX2_find 26 = .ok (.getfield 9, 3) := by decide +kernel
theorem dX2_find_29 : decode cX2_find 29 = .ok (.iload_n 1, 1) := by decide +kernel
theorem dX2_find_30 : decode cX2_find 30 = .ok (.invokestatic 69, 3) := by decide +kernel
theorem dX2_find_33 : decode cX2_find 33 = .ok (.aload_n 0, 1) := by decide +kernel
theorem dX2_find_34 : decode cX2_find 34 = .ok (.getfield 58, 3) := by decide +kernel
theorem dX2_find_37 : decode cX2_find 37 = .ok (.iconst 1, 1) := by decide +kernel
theorem dX2_find_38 : decode cX2_find 38 = .ok (.isub, 1) := by decide +kernel
theorem dX2_find_39 : decode cX2_find 39 = .ok (.iload_n 1, 1) := by decide +kernel
theorem dX2_find_40 : decode cX2_find 40 = .ok (.isub, 1) := by decide +kernel
theorem dX2_find_41 : decode cX2_find 41 = .ok (.invokevirtual 117, 3) := by decide +kernel
theorem dX2_find_44 : decode cX2_find 44 = .ok (.istore_n 3, 1) := by decide +kernel
theorem dX2_find_45 : decode cX2_find 45 = .ok (.iload_n 3, 1) := by decide +kernel
theorem dX2_find_46 : decode cX2_find 46 = .ok (.bipush (-4), 2) := by decide +kernel
theorem dX2_find_48 : decode cX2_find 48 = .ok (.if_icmp .ne 6, 3) := by decide +kernel
theorem dX2_find_51 : decode cX2_find 51 = .ok (.bipush (-2), 2) := by decide +kernel
theorem dX2_find_53 : decode cX2_find 53 = .ok (.ireturn, 1) := by decide +kernel
theorem dX2_find_54 : decode cX2_find 54 = .ok (.iload_n 3, 1) := by decide +kernel
theorem dX2_find_55 : decode cX2_find 55 = .ok (.bipush 82, 2) := by decide +kernel
theorem dX2_find_57 : decode cX2_find 57 = .ok (.if_icmp .ne 11, 3) := by decide +kernel
theorem dX2_find_60 : decode cX2_find 60 = .ok (.aload_n 0, 1) := by decide +kernel
theorem dX2_find_61 : decode cX2_find 61 = .ok (.iload_n 1, 1) := by decide +kernel
theorem dX2_find_62 : decode cX2_find 62 = .ok (.invokevirtual 123, 3) := by decide +kernel
theorem dX2_find_65 : decode cX2_find 65 = .ok (.goto 8, 3) := by decide +kernel
theorem dX2_find_68 : decode cX2_find 68 = .ok (.aload_n 0, 1) := by decide +kernel
theorem dX2_find_69 : decode cX2_find 69 = .ok (.iload_n 1, 1) := by decide +kernel
theorem dX2_find_70 : decode cX2_find 70 = .ok (.invokevirtual 126, 3) := by decide +kernel
theorem dX2_find_73 : decode cX2_find 73 = .ok (.ireturn, 1) := by decide +kernel
theorem dX2_takeAway_0 : decode cX2_takeAway 0 = .ok (.aload_n 0, 1) := by decide +kernel
theorem dX2_takeAway_1 : decode cX2_takeAway 1 = .ok (.getfield 27, 3) := by decide +kernel
theorem dX2_takeAway_4 : decode cX2_takeAway 4 = .ok (.iload_n 1, 1) := by decide +kernel
theorem dX2_takeAway_5 : decode cX2_takeAway 5 = .ok (.iconst 3, 1) := by decide +kernel
theorem dX2_takeAway_6 : decode cX2_takeAway 6 = .ok (.aload_n 0, 1) := by decide +kernel
theorem dX2_takeAway_7 : decode cX2_takeAway 7 = .ok (.getfield 21, 3) := by decide +kernel
theorem dX2_takeAway_10 : decode cX2_takeAway 10 = .ok (.iload_n 1, 1) := by decide +kernel
theorem dX2_takeAway_11 : decode cX2_takeAway 11 = .ok (.invokestatic 69, 3) := by decide +kernel
theorem dX2_takeAway_14 : decode cX2_takeAway 14 = .ok (.isub, 1) := by decide +kernel
theorem dX2_takeAway_15 : decode cX2_takeAway 15 = .ok (.invokestatic 43, 3) := by decide +kernel
theorem dX2_takeAway_18 : decode cX2_takeAway 18 = .ok (.aload_n 0, 1) := by decide +kernel
theorem dX2_takeAway_19 : decode cX2_takeAway 19 = .ok (.iload_n 1, 1) := by decide +kernel
theorem dX2_takeAway_20 : decode cX2_takeAway 20 = .ok (.putfield 58, 3) := by decide +kernel
theorem dX2_takeAway_23 : decode cX2_takeAway 23 = .ok (.aload_n 0, 1) := by decide +kernel
theorem dX2_takeAway_24 : decode cX2_takeAway 24 = .ok (.aload_n 0, 1) := by decide +kernel
theorem dX2_takeAway_25 : decode cX2_takeAway 25 = .ok (.getfield 36, 3) := by decide +kernel
theorem dX2_takeAway_28 : decode cX2_takeAway 28 = .ok (.aload_n 0, 1) := by decide +kernel
theorem dX2_takeAway_29 : decode cX2_takeAway 29 = .ok (.getfield 58, 3) := by decide +kernel
theorem dX2_takeAway_32 : decode cX2_takeAway 32 = .ok (.invokevirtual 100, 3) := by decide +kernel
theorem dX2_takeAway_35 : decode cX2_takeAway 35 = .ok (.iconst 1, 1) := by decide +kernel
theorem dX2_takeAway_36 : decode cX2_takeAway 36 = .ok (.ireturn, 1) := by decide +kernel
theorem dX2_stopTurn_0 : decode cX2_stopTurn 0 = .ok (.aload_n 0, 1) := by decide +kernel
theorem dX2_stopTurn_1 : decode cX2_stopTurn 1 = .ok (.getfield 24, 3) := by decide +kernel
theorem dX2_stopTurn_4 : decode cX2_stopTurn 4 = .ok (.iload_n 1, 1) := by decide +kernel
theorem dX2_stopTurn_5 : decode cX2_stopTurn 5 = .ok (.iconst 0, 1) := by decide +kernel
theorem dX2_stopTurn_6 : decode cX2_stopTurn 6 = .ok (.invokestatic 43, 3) := by decide +kernel
theorem dX2_stopTurn_9 : decode cX2_stopTurn 9 = .ok (.aload_n 0, 1) := by decide +kernel
theorem dX2_stopTurn_10 : decode cX2_stopTurn 10 = .ok (.getfield 36, 3) := by decide +kernel
theorem dX2_stopTurn_13 : decode cX2_stopTurn 13 = .ok (.invokevirtual 91, 3) := by decide +kernel
theorem dX2_stopTurn_16 : decode cX2_stopTurn 16 = .ok (.bipush (-4), 2) := by decide +kernel
theorem dX2_stopTurn_18 : decode cX2_stopTurn 18 = .ok (.if_icmp .eq 22, 3) := by decide +kernel
theorem dX2_stopTurn_21 : decode cX2_stopTurn 21 = .ok (.aload_n 0, 1) := by decide +kernel
theorem dX2_stopTurn_22 : decode cX2_stopTurn 22 = .ok (.getfield 27, 3) := by decide +kernel
theorem dX2_stopTurn_25 : decode cX2_stopTurn 25 = .ok (.aload_n 0, 1) := by decide +kernel
theorem dX2_stopTurn_26 : decode cX2_stopTurn 26 = .ok (.getfield 58, 3) := by decide +kernel
theorem dX2_stopTurn_29 : decode cX2_stopTurn 29 = .ok (.iconst 1, 1) := by decide +kernel
theorem dX2_stopTurn_30 : decode cX2_stopTurn 30 = .ok (.invokestatic 43, 3) := by decide +kernel
theorem dX2_stopTurn_33 : decode cX2_stopTurn 33 = .ok (.aload_n 0, 1) := by decide +kernel
theorem dX2_stopTurn_34 : decode cX2_stopTurn 34 = .ok (.getfield 36, 3) := by decide +kernel
theorem dX2_stopTurn_37 : decode cX2_stopTurn 37 = .ok (.invokevirtual 111, 3) := by decide +kernel
theorem dX2_stopTurn_40 : decode cX2_stopTurn 40 = .ok (.iconst 2, 1) := by decide +kernel
theorem dX2_stopTurn_41 : decode cX2_stopTurn 41 = .ok (.ireturn, 1) := by decide +kernel
theorem dX2_total_0 : decode cX2_total 0 = .ok (.iconst 0, 1) := by decide +kernel
theorem dX2_total_1 : decode cX2_total 1 = .ok (.istore_n 2, 1) := by decide +kernel
theorem dX2_total_2 : decode cX2_total 2 = .ok (.iconst 0, 1) := by decide +kernel
theorem dX2_total_3 : decode cX2_total 3 = .ok (.istore_n 3, 1) := by decide +kernel
theorem dX2_total_4 : decode cX2_total 4 = .ok (.iload_n 3, 1) := by decide +kernel
theorem dX2_total_5 : decode cX2_total 5 = .ok (.aload_n 0, 1) := by decide +kernel
theorem dX2_total_6 : decode cX2_total 6 = .ok (.getfield 58, 3) := by decide +kernel
theorem dX2_total_9 : decode cX2_total 9 = .ok (.if_icmp .ge 28, 3) := by decide +kernel
theorem dX2_total_12 : decode cX2_total 12 = .ok (.iload_n 3, 1) := by decide +kernel
theorem dX2_total_13 : decode cX2_total 13 = .ok (.sipush 150, 3) := by decide +kernel
theorem dX2_total_16 : decode cX2_total 16 = .ok (.if_icmp .ge 21, 3) := by decide +kernel
theorem dX2_total_19 : decode cX2_total 19 = .ok (.aload_n 0, 1) := by decide +kernel
theorem dX2_total_20 : decode cX2_total 20 = .ok (.iload_n 3, 1) := by decide +kernel
theorem dX2_total_21 : decode cX2_total 21 = .ok (.iload_n 1, 1) := by decide +kernel
theorem dX2_total_22 : decode cX2_total 22 = .ok (.invokevirtual 129, 3) := by decide +kernel
theorem dX2_total_25 : decode cX2_total 25 = .ok (.ifCond .eq 6, 3) := by decide +kernel
theorem dX2_total_28 : decode cX2_total 28 = .ok (.iinc 2 1, 3) := by decide +kernel
theorem dX2_total_31 : decode cX2_total 31 = .ok (.iinc 3 1, 3) := by decide +kernel
theorem dX2_total_34 : decode cX2_total 34 = .ok (.goto (-30), 3) := by decide +kernel
theorem dX2_total_37 : decode cX2_total 37 = .ok (.iload_n 2, 1) := by decide +kernel
theorem dX2_total_38 : decode cX2_total 38 = .ok (.ireturn, 1) := by decide +kernel
theorem dX2_counts_0 : decode cX2_counts 0 = .ok (.iload_n 2, 1) := by decide +kernel
theorem dX2_counts_1 : decode cX2_counts 1 = .ok (.ifCond .ne 5, 3) := by decide +kernel
theorem dX2_counts_4 : decode cX2_counts 4 = .ok (.iconst 1, 1) := by decide +kernel
theorem dX2_counts_5 : decode cX2_counts 5 = .ok (.ireturn, 1) := by decide +kernel
theorem dX2_counts_6 : decode cX2_counts 6 = .ok (.iload_n 2, 1) := by decide +kernel
theorem dX2_counts_7 : decode cX2_counts 7 = .ok (.iconst 1, 1) := by decide +kernel
theorem dX2_counts_8 : decode cX2_counts 8 = .ok (.if_icmp .ne 23, 3) := by decide +kernel
theorem dX2_counts_11 : decode cX2_counts 11 = .ok (.aload_n 0, 1) := by decide +kernel
theorem dX2_counts_12 : decode cX2_counts 12 = .ok (.getfield 24, 3) := by decide +kernel
theorem dX2_counts_15 : decode cX2_counts 15 = .ok (.iload_n 1, 1) := by decide +kernel
theorem dX2_counts_16 : decode cX2_counts 16 = .ok (.invokestatic 69, 3) := by decide +kernel
theorem dX2_counts_19 : decode cX2_counts 19 = .ok (.iconst 1, 1) := by decide +kernel
theorem dX2_counts_20 : decode cX2_counts 20 = .ok (.if_icmp .ne 7, 3) := by decide +kernel
theorem dX2_counts_23 : decode cX2_counts 23 = .ok (.iconst 1, 1) := by decide +kernel
theorem dX2_counts_24 : decode cX2_counts 24 = .ok (.goto 18, 3) := by decide +kernel
theorem dX2_counts_27 : decode cX2_counts 27 = .ok (.iconst 0, 1) := by decide +kernel
theorem dX2_counts_28 : decode cX2_counts 28 = .ok (.goto 14, 3) := by decide +kernel
theorem dX2_counts_31 : decode cX2_counts 31 = .ok (.aload_n 0, 1) := by decide +kernel
theorem dX2_counts_32 : decode cX2_counts 32 = .ok (.getfield 9, 3) := by decide +kernel
theorem dX2_counts_35 : decode cX2_counts 35 = .ok (.iload_n 1, 1) := by decide +kernel
theorem dX2_counts_36 : decode cX2_counts 36 = .ok (.invokestatic 69, 3) := by decide +kernel
theorem dX2_counts_39 : decode cX2_counts 39 = .ok (.invokestatic 80, 3) := by decide +kernel
theorem dX2_counts_42 : decode cX2_counts 42 = .ok (.ireturn, 1) := by decide +kernel
theorem dX3_init_0 : decode cX3_init 0 = .ok (.aload_n 0, 1) := by decide +kernel
theorem dX3_init_1 : decode cX3_init 1 = .ok (.invokespecial 3, 3) := by decide +kernel
theorem dX3_init_4 : decode cX3_init 4 = .ok (.aload_n 0, 1) := by decide +kernel
theorem dX3_init_5 : decode cX3_init 5 = .ok (.iconst 4, 1) := by decide +kernel
theorem dX3_init_6 : decode cX3_init 6 = .ok (.newarray .int, 2) := by decide +kernel
theorem dX3_init_8 : decode cX3_init 8 = .ok (.putfield 9, 3) := by decide +kernel
theorem dX3_init_11 : decode cX3_init 11 = .ok (.aload_n 0, 1) := by decide +kernel
theorem dX3_init_12 : decode cX3_init 12 = .ok (.iconst 2, 1) := by decide +kernel
theorem dX3_init_13 : decode cX3_init 13 = .ok (.newarray .int, 2) := by decide +kernel
theorem dX3_init_15 : decode cX3_init 15 = .ok (.putfield 15, 3) := by decide +kernel
theorem dX3_init_18 : decode cX3_init 18 = .ok (.return_, 1) := by decide +kernel
theorem dX3_begin_0 : decode cX3_begin 0 = .ok (.aload_n 0, 1) := by decide +kernel
theorem dX3_begin_1 : decode cX3_begin 1 = .ok (.getfield 9, 3) := by decide +kernel
theorem dX3_begin_4 : decode cX3_begin 4 = .ok (.iconst 0, 1) := by decide +kernel
theorem dX3_begin_5 : decode cX3_begin 5 = .ok (.invokestatic 18, 3) := by decide +kernel
theorem dX3_begin_8 : decode cX3_begin 8 = .ok (.aload_n 0, 1) := by decide +kernel
theorem dX3_begin_9 : decode cX3_begin 9 = .ok (.getfield 15, 3) := by decide +kernel
theorem dX3_begin_12 : decode cX3_begin 12 = .ok (.iconst 0, 1) := by decide +kernel
theorem dX3_begin_13 : decode cX3_begin 13 = .ok (.iload_n 1, 1) := by decide +kernel
theorem dX3_begin_14 : decode cX3_begin 14 = .ok (.invokestatic 24, 3) := by decide +kernel
theorem dX3_begin_17 : decode cX3_begin 17 = .ok (.aload_n 0, 1) := by decide +kernel
theorem dX3_begin_18 : decode cX3_begin 18 = .ok (.getfield 15, 3) := by decide +kernel
theorem dX3_begin_21 : decode cX3_begin 21 = .ok (.iconst 1, 1) := by decide +kernel
theorem dX3_begin_22 : decode cX3_begin 22 = .ok (.iload_n 2, 1) := by decide +kernel
theorem dX3_begin_23 : decode cX3_begin 23 = .ok (.invokestatic 24, 3) := by decide +kernel
theorem dX3_begin_26 : decode cX3_begin 26 = .ok (.aload_n 0, 1) := by decide +kernel
theorem dX3_begin_27 : decode cX3_begin 27 = .ok (.iconst 0, 1) := by decide +kernel
theorem dX3_begin_28 : decode cX3_begin 28 = .ok (.invokevirtual 28, 3) := by decide +kernel
theorem dX3_begin_31 : decode cX3_begin 31 = .ok (.return_, 1) := by decide +kernel
theorem dX3_allows_0 : decode cX3_allows 0 = .ok (.aload_n 0, 1) := by decide +kernel
theorem dX3_allows_1 : decode cX3_allows 1 = .ok (.invokevirtual 32, 3) := by decide +kernel
theorem dX3_allows_4 : decode cX3_allows 4 = .ok (.bipush (-4), 2) := by decide +kernel
theorem dX3_allows_6 : decode cX3_allows 6 = .ok (.if_icmp .eq 5, 3) := by decide +kernel
theorem dX3_allows_9 : decode cX3_allows 9 = .ok (.iconst 0, 1) := by decide +kernel
theorem dX3_allows_10 : decode cX3_allows 10 = .ok (.ireturn, 1) := by decide +kernel
theorem dX3_allows_11 : decode cX3_allows 11 = .ok (.iload_n 1, 1) := by decide +kernel
theorem dX3_allows_12 : decode cX3_allows 12 = .ok (.ifCond .ne 26, 3) := by decide +kernel
theorem dX3_allows_15 : decode cX3_allows 15 = .ok (.aload_n 0, 1) := by decide +kernel
theorem dX3_allows_16 : decode cX3_allows 16 = .ok (.getfield 36, 3) := by decide +kernel
theorem dX3_allows_19 : decode cX3_allows 19 = .ok (.bipush (-4), 2) := by decide +kernel
theorem dX3_allows_21 : decode cX3_allows 21 = .ok (.if_icmp .ne 15, 3) := by decide +kernel
theorem dX3_allows_24 : decode cX3_allows 24 = .ok (.aload_n 0, 1) := by decide +kernel
theorem dX3_allows_25 : decode cX3_allows 25 = .ok (.iload_n 2, 1) := by decide +kernel
theorem dX3_allows_26 : decode cX3_allows 26 = .ok (.invokevirtual 40, 3) := by decide +kernel
theorem dX3_allows_29 : decode cX3_allows 29 = .ok (.ifCond .ne 7, 3) := by decide +kernel
theorem dX3_allows_32 : decode cX3_allows 32 = .ok (.iconst 1, 1) := by decide +kernel
theorem dX3_allows_33 : decode cX3_allows 33 = .ok (.goto 4, 3) := by decide +kernel
theorem dX3_allows_36 : decode cX3_allows 36 = .ok (.iconst 0, 1) := by decide +kernel
theorem dX3_allows_37 : decode cX3_allows 37 = .ok (.ireturn, 1) := by decide +kernel
theorem dX3_allows_38 : decode cX3_allows 38 = .ok (.iload_n 1, 1) := by decide +kernel
theorem dX3_allows_39 : decode cX3_allows 39 = .ok (.bipush 6, 2) := by decide +kernel
theorem dX3_allows_41 : decode cX3_allows 41 = .ok (.if_icmp .ne 25, 3) := by decide +kernel
theorem dX3_allows_44 : decode cX3_allows 44 = .ok (.aload_n 0, 1) := by decide +kernel
theorem dX3_allows_45 : decode cX3_allows 45 = .ok (.getfield 36, 3) := by decide +kernel
theorem dX3_allows_48 : decode cX3_allows 48 = .ok (.bipush (-4), 2) := by decide +kernel
theorem dX3_allows_50 : decode cX3_allows 50 = .ok (.if_icmp .ne 14, 3) := by decide +kernel
theorem dX3_allows_53 : decode cX3_allows 53 = .ok (.aload_n 0, 1) := by decide +kernel
theorem dX3_allows_54 : decode cX3_allows 54 = .ok (.invokevirtual 44, 3) := by decide +kernel
theorem dX3_allows_57 : decode cX3_allows 57 = .ok (.ifCond .eq 7, 3) := by decide +kernel
theorem dX3_allows_60 : decode cX3_allows 60 = .ok (.iconst 1, 1) := by decide +kernel
theorem dX3_allows_61 : decode cX3_allows 61 = .ok (.goto 4, 3) := by decide +kernel
theorem dX3_allows_64 : decode cX3_allows 64 = .ok (.iconst 0, 1) := by decide +kernel
theorem dX3_allows_65 : decode cX3_allows 65 = .ok (.ireturn, 1) := by decide +kernel
theorem dX3_allows_66 : decode cX3_allows 66 = .ok (.aload_n 0, 1) := by decide +kernel
theorem dX3_allows_67 : decode cX3_allows 67 = .ok (.getfield 36, 3) := by decide +kernel
theorem dX3_allows_70 : decode cX3_allows 70 = .ok (.bipush (-4), 2) := by decide +kernel
theorem dX3_allows_72 : decode cX3_allows 72 = .ok (.if_icmp .ne 5, 3) := by decide +kernel
theorem dX3_allows_75 : decode cX3_allows 75 = .ok (.iconst 0, 1) := by decide +kernel
theorem dX3_allows_76 : decode cX3_allows 76 = .ok (.ireturn, 1) := by decide +kernel
theorem dX3_allows_77 : decode cX3_allows 77 = .ok (.iload_n 1, 1) := by decide +kernel
theorem dX3_allows_78 : decode cX3_allows 78 = .ok (.iconst 4, 1) := by decide +kernel
theorem dX3_allows_79 : decode cX3_allows 79 = .ok (.if_icmp .ne 20, 3) := by decide +kernel
theorem dX3_allows_82 : decode cX3_allows 82 = .ok (.aload_n 0, 1) := by decide +kernel
theorem dX3_allows_83 : decode cX3_allows 83 = .ok (.getfield 48, 3) := by decide +kernel
theorem dX3_allows_86 : decode cX3_allows 86 = .ok (.bipush (-4), 2) := by decide +kernel
theorem dX3_allows_88 : decode cX3_allows 88 = .ok (.if_icmp .eq 7, 3) := by decide +kernel
theorem dX3_allows_91 : decode cX3_allows 91 = .ok (.iconst 1, 1) := by decide +kernel
theorem dX3_allows_92 : decode cX3_allows 92 = .ok (.goto 30, 3) := by decide +kernel
theorem dX3_allows_95 : decode cX3_allows 95 = .ok (.iconst 0, 1) := by decide +kernel
theorem dX3_allows_96 : decode cX3_allows 96 = .ok (.goto 26, 3) := by decide +kernel
theorem dX3_allows_99 : decode cX3_allows 99 = .ok (.aload_n 0, 1) := by decide +kernel
theorem dX3_allows_100 : decode cX3_allows 100 = .ok (.getfield 48, 3) := by decide +kernel
theorem dX3_allows_103 : decode cX3_allows 103 = .ok (.bipush (-4), 2) := by decide +kernel
theorem dX3_allows_105 : decode cX3_allows 105 = .ok (.if_icmp .ne 16, 3) := by decide +kernel
theorem dX3_allows_108 : decode cX3_allows 108 = .ok (.aload_n 0, 1) := by decide +kernel
theorem dX3_allows_109 : decode cX3_allows 109 = .ok (.iload_n 1, 1) := by decide +kernel
theorem dX3_allows_110 : decode cX3_allows 110 = .ok (.iload_n 2, 1) := by decide +kernel
theorem dX3_allows_111 : decode cX3_allows 111 = .ok (.invokevirtual 51, 3) := by decide +kernel
theorem dX3_allows_114 : decode cX3_allows 114 = .ok (.ifCond .eq 7, 3) := by decide +kernel
theorem dX3_allows_117 : decode cX3_allows 117 = .ok (.iconst 1, 1) := by decide +kernel
theorem dX3_allows_118 : decode cX3_allows 118 = .ok (.goto 4, 3) := by decide +kernel
theorem dX3_allows_121 : decode cX3_allows 121 = .ok (.iconst 0, 1) := by decide +kernel
theorem dX3_allows_122 : decode cX3_allows 122 = .ok (.ireturn, 1) := by decide +kernel
theorem dX3_allowsFree_0 : decode cX3_allowsFree 0 = .ok (.aload_n 0, 1) := by decide +kernel
theorem dX3_allowsFree_1 : decode cX3_allowsFree 1 = .ok (.getfield 55, 3) := by decide +kernel
theorem dX3_allowsFree_4 : decode cX3_allowsFree 4 = .ok (.bipush (-4), 2) := by decide +kernel
theorem dX3_allowsFree_6 : decode cX3_allowsFree 6 = .ok (.if_icmp .eq 34, 3) := by decide +kernel
theorem dX3_allowsFree_9 : decode cX3_allowsFree 9 = .ok (.aload_n 0, 1) := by decide +kernel
theorem dX3_allowsFree_10 : decode cX3_allowsFree 10 = .ok (.aload_n 0, 1) := by decide +kernel
theorem dX3_allowsFree_11 : decode cX3_allowsFree 11 = .ok (.getfield 55, 3) := by decide +kernel
theorem dX3_allowsFree_14 : decode cX3_allowsFree 14 = .ok (.invokevirtual 40, 3) := by decide +kernel
theorem dX3_allowsFree_17 : decode cX3_allowsFree 17 = .ok (.ifCond .ne 23, 3) := by decide +kernel
theorem dX3_allowsFree_20 : decode cX3_allowsFree 20 = .ok (.aload_n 0, 1) := by decide +kernel
theorem dX3_allowsFree_21 : decode cX3_allowsFree 21 = .ok (.getfield 15, 3) := by decide +kernel
theorem dX3_allowsFree_24 : decode cX3_allowsFree 24 = .ok (.iconst 1, 1) := by decide +kernel
theorem dX3_allowsFree_25 : decode cX3_allowsFree 25 = .ok (.aload_n 0, 1) := by decide +kernel
theorem dX3_allowsFree_26 : decode cX3_allowsFree 26 = .ok (.getfield 58, 3) := by decide +kernel
theorem dX3_allowsFree_29 : decode cX3_allowsFree 29 = .ok (.isub, 1) := by decide +kernel
theorem dX3_allowsFree_30 : decode cX3_allowsFree 30 = .ok (.invokestatic 61, 3) := by decide +kernel
theorem dX3_allowsFree_33 : decode cX3_allowsFree 33 = .ok (.ifCond .le 7, 3) := by decide +kernel
theorem dX3_allowsFree_36 : decode cX3_allowsFree 36 = .ok (.iconst 1, 1) := by decide +kernel
theorem dX3_allowsFree_37 : decode cX3_allowsFree 37 = .ok (.goto 4, 3) := by decide +kernel
theorem dX3_allowsFree_40 : decode cX3_allowsFree 40 = .ok (.iconst 0, 1) := by decide +kernel
theorem dX3_allowsFree_41 : decode cX3_allowsFree 41 = .ok (.ireturn, 1) := by decide +kernel
theorem dX3_allowsFresh_0 : decode cX3_allowsFresh 0 = .ok (.iload_n 1, 1) := by decide +kernel
theorem dX3_allowsFresh_1 : decode cX3_allowsFresh 1 = .ok (.tableswitch 97 2 5 #[31, 75, 97, 53], 31) := by decide +kernel
theorem dX3_allowsFresh_32 : decode cX3_allowsFresh 32 = .ok (.aload_n 0, 1) := by decide +kernel
theorem dX3_allowsFresh_33 : decode cX3_allowsFresh 33 = .ok (.getfield 9, 3) := by decide +kernel
theorem dX3_allowsFresh_36 : decode cX3_allowsFresh 36 = .ok (.aload_n 0, 1) := by decide +kernel
theorem dX3_allowsFresh_37 : decode cX3_allowsFresh 37 = .ok (.getfield 36, 3) := by decide +kernel
theorem dX3_allowsFresh_40 : decode cX3_allowsFresh 40 = .ok (.invokestatic 61, 3) := by decide +kernel
theorem dX3_allowsFresh_43 : decode cX3_allowsFresh 43 = .ok (.bipush 6, 2) := by decide +kernel
theorem dX3_allowsFresh_45 : decode cX3_allowsFresh 45 = .ok (.if_icmp .ge 7, 3) := by decide +kernel
theorem dX3_allowsFresh_48 : decode cX3_allowsFresh 48 = .ok (.iconst 1, 1) := by decide +kernel
theorem dX3_allowsFresh_49 : decode cX3_allowsFresh 49 = .ok (.goto 4, 3) := by decide +kernel
theorem dX3_allowsFresh_52 : decode cX3_allowsFresh 52 = .ok (.iconst 0, 1) := by decide +kernel
theorem dX3_allowsFresh_53 : decode cX3_allowsFresh 53 = .ok (.ireturn, 1) := by decide +kernel
theorem dX3_allowsFresh_54 : decode cX3_allowsFresh 54 = .ok (.aload_n 0, 1) := by decide +kernel
theorem dX3_allowsFresh_55 : decode cX3_allowsFresh 55 = .ok (.getfield 9, 3) := by decide +kernel
theorem dX3_allowsFresh_58 : decode cX3_allowsFresh 58 = .ok (.aload_n 0, 1) := by decide +kernel
theorem dX3_allowsFresh_59 : decode cX3_allowsFresh 59 = .ok (.getfield 36, 3) := by decide +kernel
theorem dX3_allowsFresh_62 : decode cX3_allowsFresh 62 = .ok (.invokestatic 61, 3) := by decide +kernel
theorem dX3_allowsFresh_65 : decode cX3_allowsFresh 65 = .ok (.bipush 6, 2) := by decide +kernel
theorem dX3_allowsFresh_67 : decode cX3_allowsFresh 67 = .ok (.if_icmp .ne 7, 3) := by decide +kernel
theorem dX3_allowsFresh_70 : decode cX3_allowsFresh 70 = .ok (.iconst 1, 1) := by decide +kernel
theorem dX3_allowsFresh_71 : decode cX3_allowsFresh 71 = .ok (.goto 4, 3) := by decide +kernel
theorem dX3_allowsFresh_74 : decode cX3_allowsFresh 74 = .ok (.iconst 0, 1) := by decide +kernel
theorem dX3_allowsFresh_75 : decode cX3_allowsFresh 75 = .ok (.ireturn, 1) := by decide +kernel
theorem dX3_allowsFresh_76 : decode cX3_allowsFresh 76 = .ok (.iload_n 2, 1) := by decide +kernel
theorem dX3_allowsFresh_77 : decode cX3_allowsFresh 77 = .ok (.aload_n 0, 1) := by decide +kernel
theorem dX3_allowsFresh_78 : decode cX3_allowsFresh 78 = .ok (.getfield 36, 3) := by decide +kernel
theorem dX3_allowsFresh_81 : decode cX3_allowsFresh 81 = .ok (.if_icmp .eq 15, 3) := by decide +kernel
theorem dX3_allowsFresh_84 : decode cX3_allowsFresh 84 = .ok (.aload_n 0, 1) := by decide +kernel
theorem dX3_allowsFresh_85 : decode cX3_allowsFresh 85 = .ok (.iload_n 2, 1) := by decide +kernel
theorem dX3_allowsFresh_86 : decode cX3_allowsFresh 86 = .ok (.invokevirtual 40, 3) := by decide +kernel
theorem dX3_allowsFresh_89 : decode cX3_allowsFresh 89 = .ok (.ifCond .ne 7, 3) := by decide +kernel
theorem dX3_allowsFresh_92 : decode cX3_allowsFresh 92 = .ok (.iconst 1, 1) := by decide +kernel
theorem dX3_allowsFresh_93 : decode cX3_allowsFresh 93 = .ok (.goto 4, 3) := by decide +kernel
theorem dX3_allowsFresh_96 : decode cX3_allowsFresh 96 = .ok (.iconst 0, 1) := by decide +kernel
theorem dX3_allowsFresh_97 : decode cX3_allowsFresh 97 = .ok (.ireturn, 1) := by decide +kernel
theorem dX3_allowsFresh_98 : decode cX3_allowsFresh 98 = .ok (.iconst 1, 1) := by decide +kernel
theorem dX3_allowsFresh_99 : decode cX3_allowsFresh 99 = .ok (.ireturn, 1) := by decide +kernel
theorem dX3_isWrong_0 : decode cX3_isWrong 0 = .ok (.iload_n 1, 1) := by decide +kernel
theorem dX3_isWrong_1 : decode cX3_isWrong 1 = .ok (.ifCond .ne 19, 3) := by decide +kernel
theorem dX3_isWrong_4 : decode cX3_isWrong 4 = .ok (.iload_n 2, 1) := by decide +kernel
theorem dX3_isWrong_5 : decode cX3_isWrong 5 = .ok (.iconst 2, 1) := by decide +kernel
theorem dX3_isWrong_6 : decode cX3_isWrong 6 = .ok (.irem, 1) := by decide +kernel
theorem dX3_isWrong_7 : decode cX3_isWrong 7 = .ok (.aload_n 0, 1) := by decide +kernel
theorem dX3_isWrong_8 : decode cX3_isWrong 8 = .ok (.getfield 58, 3) := by decide +kernel
theorem dX3_isWrong_11 : decode cX3_isWrong 11 = .ok (.if_icmp .eq 7, 3) := by decide +kernel
theorem dX3_isWrong_14 : decode cX3_isWrong 14 = .ok (.iconst 1, 1) := by decide +kernel
theorem dX3_isWrong_15 : decode cX3_isWrong 15 = .ok (.goto 4, 3) := by decide +kernel
theorem dX3_isWrong_18 : decode cX3_isWrong 18 = .ok (.iconst 0, 1) := by decide +kernel
theorem dX3_isWrong_19 : decode cX3_isWrong 19 = .ok (.ireturn, 1) := by decide +kernel
theorem dX3_isWrong_20 : decode cX3_isWrong 20 = .ok (.iload_n 1, 1) := by decide +kernel
theorem dX3_isWrong_21 : decode cX3_isWrong 21 = .ok (.iconst 3, 1) := by decide +kernel
theorem dX3_isWrong_22 : decode cX3_isWrong 22 = .ok (.if_icmp .ne 18, 3) := by decide +kernel
theorem dX3_isWrong_25 : decode cX3_isWrong 25 = .ok (.aload_n 0, 1) := by decide +kernel
theorem dX3_isWrong_26 : decode cX3_isWrong 26 = .ok (.getfield 65, 3) := by decide +kernel
theorem dX3_isWrong_29 : decode cX3_isWrong 29 = .ok (.iload_n 2, 1) := by decide +kernel
theorem dX3_isWrong_30 : decode cX3_isWrong 30 = .ok (.ishr, 1) := by decide +kernel
theorem dX3_isWrong_31 : decode cX3_isWrong 31 = .ok (.iconst 1, 1) := by decide +kernel
theorem dX3_isWrong_32 : decode cX3_isWrong 32 = .ok (.iand, 1) := by decide +kernel
theorem dX3_isWrong_33 : decode cX3_isWrong 33 = .ok (.ifCond .ne 7, 3) := by decide +kernel
theorem dX3_isWrong_36 : decode cX3_isWrong 36 = .ok (.iconst 1, 1) := by decide +kernel
theorem dX3_isWrong_37 : decode cX3_isWrong 37 = .ok (.goto 4, 3) := by decide +kernel
theorem dX3_isWrong_40 : decode cX3_isWrong 40 = .ok (.iconst 0, 1) := by decide +kernel
theorem dX3_isWrong_41 : decode cX3_isWrong 41 = .ok (.ireturn, 1) := by decide +kernel
theorem dX3_lead_0 : decode cX3_lead 0 = .ok (.iload_n 1, 1) := by decide +kernel
theorem dX3_lead_1 : decode cX3_lead 1 = .ok (.tableswitch 124 0 5 #[39, 47, 54, 89, 97, 104], 39) := by decide +kernel
theorem dX3_lead_40 : decode cX3_lead 40 = .ok (.aload_n 0, 1) := by decide +kernel
theorem dX3_lead_41 : decode cX3_lead 41 = .ok (.iload_n 2, 1) := by decide +kernel
theorem dX3_lead_42 : decode cX3_lead 42 = .ok (.invokevirtual 68, 3) := by decide +kernel
theorem dX3_lead_45 : decode cX3_lead 45 = .ok (.goto 92, 3) := by decide +kernel
theorem dX3_lead_48 : decode cX3_lead 48 = .ok (.aload_n 0, 1) := by decide +kernel
theorem dX3_lead_49 : decode cX3_lead 49 = .ok (.invokevirtual 71, 3) := by decide +kernel
theorem dX3_lead_52 : decode cX3_lead 52 = .ok (.goto 85, 3) := by decide +kernel
theorem dX3_lead_55 : decode cX3_lead 55 = .ok (.aload_n 0, 1) := by decide +kernel
theorem dX3_lead_56 : decode cX3_lead 56 = .ok (.getfield 9, 3) := by decide +kernel
theorem dX3_lead_59 : decode cX3_lead 59 = .ok (.aload_n 0, 1) := by decide +kernel
theorem dX3_lead_60 : decode cX3_lead 60 = .ok (.getfield 36, 3) := by decide +kernel
theorem dX3_lead_63 : decode cX3_lead 63 = .ok (.aload_n 0, 1) := by decide +kernel
theorem dX3_lead_64 : decode cX3_lead 64 = .ok (.getfield 9, 3) := by decide +kernel
theorem dX3_lead_67 : decode cX3_lead 67 = .ok (.aload_n 0, 1) := by decide +kernel
theorem dX3_lead_68 : decode cX3_lead 68 = .ok (.getfield 36, 3) := by decide +kernel
theorem dX3_lead_71 : decode cX3_lead 71 = .ok (.invokestatic 61, 3) := by decide +kernel
theorem dX3_lead_74 : decode cX3_lead 74 = .ok (.iconst 1, 1) := by decide +kernel
theorem dX3_lead_75 : decode cX3_lead 75 = .ok (.iadd, 1) := by decide +kernel
theorem dX3_lead_76 : decode cX3_lead 76 = .ok (.invokestatic 24, 3) := by decide +kernel
theorem dX3_lead_79 : decode cX3_lead 79 = .ok (.aload_n 0, 1) := by decide +kernel
theorem dX3_lead_80 : decode cX3_lead 80 = .ok (.aload_n 0, 1) := by decide +kernel
theorem dX3_lead_81 : decode cX3_lead 81 = .ok (.getfield 36, 3) := by decide +kernel
theorem dX3_lead_84 : decode cX3_lead 84 = .ok (.invokevirtual 68, 3) := by decide +kernel
theorem dX3_lead_87 : decode cX3_lead 87 = .ok (.goto 50, 3) := by decide +kernel
theorem dX3_lead_90 : decode cX3_lead 90 = .ok (.aload_n 0, 1) := by decide +kernel
theorem dX3_lead_91 : decode cX3_lead 91 = .ok (.iload_n 2, 1) := by decide +kernel
theorem dX3_lead_92 : decode cX3_lead 92 = .ok (.invokevirtual 74, 3) := by decide +kernel
theorem dX3_lead_95 : decode cX3_lead 95 = .ok (.goto 42, 3) := by decide +kernel
theorem dX3_lead_98 : decode cX3_lead 98 = .ok (.aload_n 0, 1) := by decide +kernel
theorem dX3_lead_99 : decode cX3_lead 99 = .ok (.invokevirtual 77, 3) := by decide +kernel
theorem dX3_lead_102 : decode cX3_lead 102 = .ok (.goto 35, 3) := by decide +kernel
theorem dX3_lead_105 : decode cX3_lead 105 = .ok (.aload_n 0, 1) := by decide +kernel
theorem dX3_lead_106 : decode cX3_lead 106 = .ok (.getfield 9, 3) := by decide +kernel
theorem dX3_lead_109 : decode cX3_lead 109 = .ok (.aload_n 0, 1) := by decide +kernel
theorem dX3_lead_110 : decode cX3_lead 110 = .ok (.getfield 36, 3) := by decide +kernel
theorem dX3_lead_113 : decode cX3_lead 113 = .ok (.bipush 7, 2) := by decide +kernel
theorem dX3_lead_115 : decode cX3_lead 115 = .ok (.invokestatic 24, 3) := by decide +kernel
theorem dX3_lead_118 : decode cX3_lead 118 = .ok (.aload_n 0, 1) := by decide +kernel
theorem dX3_lead_119 : decode cX3_lead 119 = .ok (.invokevirtual 71, 3) := by decide +kernel
theorem dX3_lead_122 : decode cX3_lead 122 = .ok (.goto 15, 3) := by decide +kernel
theorem dX3_lead_125 : decode cX3_lead 125 = .ok (.aload_n 0, 1) := by decide +kernel
theorem dX3_lead_126 : decode cX3_lead 126 = .ok (.invokevirtual 80, 3) := by decide +kernel
theorem dX3_lead_129 : decode cX3_lead 129 = .ok (.aload_n 0, 1) := by decide +kernel
theorem dX3_lead_130 : decode cX3_lead 130 = .ok (.aload_n 0, 1) := by decide +kernel
theorem dX3_lead_131 : decode cX3_lead 131 = .ok (.getfield 55, 3) := by decide +kernel
theorem dX3_lead_134 : decode cX3_lead 134 = .ok (.invokevirtual 68, 3) := by decide +kernel
theorem dX3_lead_137 : decode cX3_lead 137 = .ok (.return_, 1) := by decide +kernel
theorem dX3_bringIn_0 : decode cX3_bringIn 0 = .ok (.aload_n 0, 1) := by decide +kernel
theorem dX3_bringIn_1 : decode cX3_bringIn 1 = .ok (.iload_n 1, 1) := by decide +kernel
theorem dX3_bringIn_2 : decode cX3_bringIn 2 = .ok (.putfield 36, 3) := by decide +kernel
theorem dX3_bringIn_5 : decode cX3_bringIn 5 = .ok (.aload_n 0, 1) := by decide +kernel
theorem dX3_bringIn_6 : decode cX3_bringIn 6 = .ok (.iconst 1, 1) := by decide +kernel
theorem dX3_bringIn_7 : decode cX3_bringIn 7 = .ok (.putfield 83, 3) := by decide +kernel
theorem dX3_bringIn_10 : decode cX3_bringIn 10 = .ok (.aload_n 0, 1) := by decide +kernel
theorem dX3_bringIn_11 : decode cX3_bringIn 11 = .ok (.iconst 0, 1) := by decide +kernel
theorem dX3_bringIn_12 : decode cX3_bringIn 12 = .ok (.putfield 65, 3) := by decide +kernel
theorem dX3_bringIn_15 : decode cX3_bringIn 15 = .ok (.iconst 0, 1) := by decide +kernel
theorem dX3_bringIn_16 : decode cX3_bringIn 16 = .ok (.istore_n 2, 1) := by decide +kernel
theorem dX3_bringIn_17 : decode cX3_bringIn 17 = .ok (.iload_n 2, 1) := by decide +kernel
theorem dX3_bringIn_18 : decode cX3_bringIn 18 = .ok (.iconst 4, 1) := by decide +kernel
theorem dX3_bringIn_19 : decode cX3_bringIn 19 = .ok (.if_icmp .ge 39, 3) := by decide +kernel
theorem dX3_bringIn_22 : decode cX3_bringIn 22 = .ok (.iload_n 2, 1) := by decide +kernel
theorem dX3_bringIn_23 : decode cX3_bringIn 23 = .ok (.iload_n 1, 1) := by decide +kernel
theorem dX3_bringIn_24 : decode cX3_bringIn 24 = .ok (.if_icmp .eq 28, 3) := by decide +kernel
theorem dX3_bringIn_27 : decode cX3_bringIn 27 = .ok (.aload_n 0, 1) := by decide +kernel
theorem dX3_bringIn_28 : decode cX3_bringIn 28 = .ok (.getfield 9, 3) := by decide +kernel
theorem dX3_bringIn_31 : decode cX3_bringIn 31 = .ok (.iload_n 2, 1) := by decide +kernel
theorem dX3_bringIn_32 : decode cX3_bringIn 32 = .ok (.invokestatic 61, 3) := by decide +kernel
theorem dX3_bringIn_35 : decode cX3_bringIn 35 = .ok (.bipush 7, 2) := by decide +kernel
theorem dX3_bringIn_37 : decode cX3_bringIn 37 = .ok (.if_icmp .eq 15, 3) := by decide +kernel
theorem dX3_bringIn_40 : decode cX3_bringIn 40 = .ok (.aload_n 0, 1) := by decide +kernel
theorem dX3_bringIn_41 : decode cX3_bringIn 41 = .ok (.dup, 1) := by decide +kernel
theorem dX3_bringIn_42 : decode cX3_bringIn 42 = .ok (.getfield 65, 3) := by decide +kernel
theorem dX3_bringIn_45 : decode cX3_bringIn 45 = .ok (.iconst 1, 1) := by decide +kernel
theorem dX3_bringIn_46 : decode cX3_bringIn 46 = .ok (.iload_n 2, 1) := by decide +kernel
theorem dX3_bringIn_47 : decode cX3_bringIn 47 = .ok (.ishl, 1) := by decide +kernel
theorem dX3_bringIn_48 : decode cX3_bringIn 48 = .ok (.ior, 1) := by decide +kernel
theorem dX3_bringIn_49 : decode cX3_bringIn 49 = .ok (.putfield 65, 3) := by decide +kernel
theorem dX3_bringIn_52 : decode cX3_bringIn 52 = .ok (.iinc 2 1, 3) := by decide +kernel
theorem dX3_bringIn_55 : decode cX3_bringIn 55 = .ok (.goto (-38), 3) := by decide +kernel
theorem dX3_bringIn_58 : decode cX3_bringIn 58 = .ok (.return_, 1) := by decide +kernel
theorem dX3_roquet_0 : decode cX3_roquet 0 = .ok (.aload_n 0, 1) := by decide +kernel
theorem dX3_roquet_1 : decode cX3_roquet 1 = .ok (.dup, 1) := by decide +kernel
theorem dX3_roquet_2 : decode cX3_roquet 2 = .ok (.getfield 83, 3) := by decide +kernel
theorem dX3_roquet_5 : decode cX3_roquet 5 = .ok (.iconst 1, 1) := by decide +kernel
theorem dX3_roquet_6 : decode cX3_roquet 6 = .ok (.isub, 1) := by decide +kernel
theorem dX3_roquet_7 : decode cX3_roquet 7 = .ok (.putfield 83, 3) := by decide +kernel
theorem dX3_roquet_10 : decode cX3_roquet 10 = .ok (.aload_n 0, 1) := by decide +kernel
theorem dX3_roquet_11 : decode cX3_roquet 11 = .ok (.dup, 1) := by decide +kernel
theorem dX3_roquet_12 : decode cX3_roquet 12 = .ok (.getfield 65, 3) := by decide +kernel
theorem dX3_roquet_15 : decode cX3_roquet 15 = .ok (.iconst 1, 1) := by decide +kernel
theorem dX3_roquet_16 : decode cX3_roquet 16 = .ok (.iload_n 1, 1) := by decide +kernel
theorem dX3_roquet_17 : decode cX3_roquet 17 = .ok (.ishl, 1) := by decide +kernel
theorem dX3_roquet_18 : decode cX3_roquet 18 = .ok (.iconst (-1), 1) := by decide +kernel
theorem dX3_roquet_19 : decode cX3_roquet 19 = .ok (.ixor, 1) := by decide +kernel
theorem dX3_roquet_20 : decode cX3_roquet 20 = .ok (.iand, 1) := by decide +kernel
theorem dX3_roquet_21 : decode cX3_roquet 21 = .ok (.putfield 65, 3) := by decide +kernel
theorem dX3_roquet_24 : decode cX3_roquet 24 = .ok (.aload_n 0, 1) := by decide +kernel
theorem dX3_roquet_25 : decode cX3_roquet 25 = .ok (.iload_n 1, 1) := by decide +kernel
theorem dX3_roquet_26 : decode cX3_roquet 26 = .ok (.putfield 48, 3) := by decide +kernel
theorem dX3_roquet_29 : decode cX3_roquet 29 = .ok (.return_, 1) := by decide +kernel
theorem dX3_croquet_0 : decode cX3_croquet 0 = .ok (.aload_n 0, 1) := by decide +kernel
theorem dX3_croquet_1 : decode cX3_croquet 1 = .ok (.iconst 1, 1) := by decide +kernel
theorem dX3_croquet_2 : decode cX3_croquet 2 = .ok (.putfield 83, 3) := by decide +kernel
theorem dX3_croquet_5 : decode cX3_croquet 5 = .ok (.aload_n 0, 1) := by decide +kernel
theorem dX3_croquet_6 : decode cX3_croquet 6 = .ok (.bipush (-4), 2) := by decide +kernel
theorem dX3_croquet_8 : decode cX3_croquet 8 = .ok (.putfield 48, 3) := by decide +kernel
theorem dX3_croquet_11 : decode cX3_croquet 11 = .ok (.return_, 1) := by decide +kernel
theorem dX3_spendFree_0 : decode cX3_spendFree 0 = .ok (.aload_n 0, 1) := by decide +kernel
theorem dX3_spendFree_1 : decode cX3_spendFree 1 = .ok (.iconst 1, 1) := by decide +kernel
theorem dX3_spendFree_2 : decode cX3_spendFree 2 = .ok (.aload_n 0, 1) := by decide +kernel
theorem dX3_spendFree_3 : decode cX3_spendFree 3 = .ok (.getfield 58, 3) := by decide +kernel
theorem dX3_spendFree_6 : decode cX3_spendFree 6 = .ok (.isub, 1) := by decide +kernel
theorem dX3_spendFree_7 : decode cX3_spendFree 7 = .ok (.putfield 58, 3) := by decide +kernel
theorem dX3_spendFree_10 : decode cX3_spendFree 10 = .ok (.aload_n 0, 1) := by decide +kernel
theorem dX3_spendFree_11 : decode cX3_spendFree 11 = .ok (.getfield 15, 3) := by decide +kernel
theorem dX3_spendFree_14 : decode cX3_spendFree 14 = .ok (.aload_n 0, 1) := by decide +kernel
theorem dX3_spendFree_15 : decode cX3_spendFree 15 = .ok (.getfield 58, 3) := by decide +kernel
theorem dX3_spendFree_18 : decode cX3_spendFree 18 = .ok (.aload_n 0, 1) := by decide +kernel
theorem dX3_spendFree_19 : decode cX3_spendFree 19 = .ok (.getfield 15, 3) := by decide +kernel
theorem dX3_spendFree_22 : decode cX3_spendFree 22 = .ok (.aload_n 0, 1) := by decide +kernel
theorem dX3_spendFree_23 : decode cX3_spendFree 23 = .ok (.getfield 58, 3) := by decide +kernel
theorem dX3_spendFree_26 : decode cX3_spendFree 26 = .ok (.invokestatic 61, 3) := by decide +kernel
theorem dX3_spendFree_29 : decode cX3_spendFree 29 = .ok (.iconst 1, 1) := by decide +kernel
theorem dX3_spendFree_30 : decode cX3_spendFree 30 = .ok (.isub, 1) := by decide +kernel
theorem dX3_spendFree_31 : decode cX3_spendFree 31 = .ok (.invokestatic 24, 3) := by decide +kernel
theorem dX3_spendFree_34 : decode cX3_spendFree 34 = .ok (.return_, 1) := by decide +kernel
theorem dX3_endTurn_0 : decode cX3_endTurn 0 = .ok (.aload_n 0, 1) := by decide +kernel
theorem dX3_endTurn_1 : decode cX3_endTurn 1 = .ok (.getfield 36, 3) := by decide +kernel
theorem dX3_endTurn_4 : decode cX3_endTurn 4 = .ok (.bipush (-4), 2) := by decide +kernel
theorem dX3_endTurn_6 : decode cX3_endTurn 6 = .ok (.if_icmp .eq 23, 3) := by decide +kernel
theorem dX3_endTurn_9 : decode cX3_endTurn 9 = .ok (.aload_n 0, 1) := by decide +kernel
theorem dX3_endTurn_10 : decode cX3_endTurn 10 = .ok (.getfield 36, 3) := by decide +kernel
theorem dX3_endTurn_13 : decode cX3_endTurn 13 = .ok (.istore_n 1, 1) := by decide +kernel
theorem dX3_endTurn_14 : decode cX3_endTurn 14 = .ok (.aload_n 0, 1) := by decide +kernel
theorem dX3_endTurn_15 : decode cX3_endTurn 15 = .ok (.iconst 1, 1) := by decide +kernel
theorem dX3_endTurn_16 : decode cX3_endTurn 16 = .ok (.aload_n 0, 1) := by decide +kernel
theorem dX3_endTurn_17 : decode cX3_endTurn 17 = .ok (.getfield 58, 3) := by decide +kernel
theorem dX3_endTurn_20 : decode cX3_endTurn 20 = .ok (.isub, 1) := by decide +kernel
theorem dX3_endTurn_21 : decode cX3_endTurn 21 = .ok (.invokevirtual 28, 3) := by decide +kernel
theorem dX3_endTurn_24 : decode cX3_endTurn 24 = .ok (.aload_n 0, 1) := by decide +kernel
theorem dX3_endTurn_25 : decode cX3_endTurn 25 = .ok (.iload_n 1, 1) := by decide +kernel
theorem dX3_endTurn_26 : decode cX3_endTurn 26 = .ok (.putfield 55, 3) := by decide +kernel
theorem dX3_endTurn_29 : decode cX3_endTurn 29 = .ok (.return_, 1) := by decide +kernel
theorem dX3_stopFor_0 : decode cX3_stopFor 0 = .ok (.aload_n 0, 1) := by decide +kernel
theorem dX3_stopFor_1 : decode cX3_stopFor 1 = .ok (.iload_n 1, 1) := by decide +kernel
theorem dX3_stopFor_2 : decode cX3_stopFor 2 = .ok (.putfield 58, 3) := by decide +kernel
theorem dX3_stopFor_5 : decode cX3_stopFor 5 = .ok (.aload_n 0, 1) := by decide +kernel
theorem dX3_stopFor_6 : decode cX3_stopFor 6 = .ok (.bipush (-4), 2) := by decide +kernel
theorem dX3_stopFor_8 : decode cX3_stopFor 8 = .ok (.putfield 36, 3) := by decide +kernel
theorem dX3_stopFor_11 : decode cX3_stopFor 11 = .ok (.aload_n 0, 1) := by decide +kernel
theorem dX3_stopFor_12 : decode cX3_stopFor 12 = .ok (.iconst 0, 1) := by decide +kernel
theorem dX3_stopFor_13 : decode cX3_stopFor 13 = .ok (.putfield 83, 3) := by decide +kernel
theorem dX3_stopFor_16 : decode cX3_stopFor 16 = .ok (.aload_n 0, 1) := by decide +kernel
theorem dX3_stopFor_17 : decode cX3_stopFor 17 = .ok (.iconst 0, 1) := by decide +kernel
theorem dX3_stopFor_18 : decode cX3_stopFor 18 = .ok (.putfield 65, 3) := by decide +kernel
theorem dX3_stopFor_21 : decode cX3_stopFor 21 = .ok (.aload_n 0, 1) := by decide +kernel
theorem dX3_stopFor_22 : decode cX3_stopFor 22 = .ok (.bipush (-4), 2) := by decide +kernel
theorem dX3_stopFor_24 : decode cX3_stopFor 24 = .ok (.putfield 48, 3) := by decide +kernel
theorem dX3_stopFor_27 : decode cX3_stopFor 27 = .ok (.aload_n 0, 1) := by decide +kernel
theorem dX3_stopFor_28 : decode cX3_stopFor 28 = .ok (.bipush (-4), 2) := by decide +kernel
theorem dX3_stopFor_30 : decode cX3_stopFor 30 = .ok (.putfield 55, 3) := by decide +kernel
theorem dX3_stopFor_33 : decode cX3_stopFor 33 = .ok (.return_, 1) := by decide +kernel
theorem dX3_isOut_0 : decode cX3_isOut 0 = .ok (.aload_n 0, 1) := by decide +kernel
theorem dX3_isOut_1 : decode cX3_isOut 1 = .ok (.getfield 9, 3) := by decide +kernel
theorem dX3_isOut_4 : decode cX3_isOut 4 = .ok (.iload_n 1, 1) := by decide +kernel
theorem dX3_isOut_5 : decode cX3_isOut 5 = .ok (.invokestatic 61, 3) := by decide +kernel
theorem dX3_isOut_8 : decode cX3_isOut 8 = .ok (.bipush 7, 2) := by decide +kernel
theorem dX3_isOut_10 : decode cX3_isOut 10 = .ok (.if_icmp .ne 7, 3) := by decide +kernel
theorem dX3_isOut_13 : decode cX3_isOut 13 = .ok (.iconst 1, 1) := by decide +kernel
theorem dX3_isOut_14 : decode cX3_isOut 14 = .ok (.goto 4, 3) := by decide +kernel
theorem dX3_isOut_17 : decode cX3_isOut 17 = .ok (.iconst 0, 1) := by decide +kernel
theorem dX3_isOut_18 : decode cX3_isOut 18 = .ok (.ireturn, 1) := by decide +kernel
theorem dX3_winner_0 : decode cX3_winner 0 = .ok (.aload_n 0, 1) := by decide +kernel
theorem dX3_winner_1 : decode cX3_winner 1 = .ok (.iconst 0, 1) := by decide +kernel
theorem dX3_winner_2 : decode cX3_winner 2 = .ok (.invokevirtual 40, 3) := by decide +kernel
theorem dX3_winner_5 : decode cX3_winner 5 = .ok (.ifCond .eq 13, 3) := by decide +kernel
theorem dX3_winner_8 : decode cX3_winner 8 = .ok (.aload_n 0, 1) := by decide +kernel
theorem dX3_winner_9 : decode cX3_winner 9 = .ok (.iconst 2, 1) := by decide +kernel
theorem dX3_winner_10 : decode cX3_winner 10 = .ok (.invokevirtual 40, 3) := by decide +kernel
theorem dX3_winner_13 : decode cX3_winner 13 = .ok (.ifCond .eq 5, 3) := by decide +kernel
theorem dX3_winner_16 : decode cX3_winner 16 = .ok (.iconst 0, 1) := by decide +kernel
theorem dX3_winner_17 : decode cX3_winner 17 = .ok (.ireturn, 1) := by decide +kernel
theorem dX3_winner_18 : decode cX3_winner 18 = .ok (.aload_n 0, 1) := by decide +kernel
theorem dX3_winner_19 : decode cX3_winner 19 = .ok (.iconst 1, 1) := by decide +kernel
theorem dX3_winner_20 : decode cX3_winner 20 = .ok (.invokevirtual 40, 3) := by decide +kernel
theorem dX3_winner_23 : decode cX3_winner 23 = .ok (.ifCond .eq 15, 3) := by decide +kernel
theorem dX3_winner_26 : decode cX3_winner 26 = .ok (.aload_n 0, 1) := by decide +kernel
theorem dX3_winner_27 : decode cX3_winner 27 = .ok (.iconst 3, 1) := by decide +kernel
theorem dX3_winner_28 : decode cX3_winner 28 = .ok (.invokevirtual 40, 3) := by decide +kernel
theorem dX3_winner_31 : decode cX3_winner 31 = .ok (.ifCond .eq 7, 3) := by decide +kernel
theorem dX3_winner_34 : decode cX3_winner 34 = .ok (.iconst 1, 1) := by decide +kernel
theorem dX3_winner_35 : decode cX3_winner 35 = .ok (.goto 5, 3) := by decide +kernel
theorem dX3_winner_38 : decode cX3_winner 38 = .ok (.bipush (-4), 2) := by decide +kernel
theorem dX3_winner_40 : decode cX3_winner 40 = .ok (.ireturn, 1) := by decide +kernel
theorem dX3_side_0 : decode cX3_side 0 = .ok (.aload_n 0, 1) := by decide +kernel
theorem dX3_side_1 : decode cX3_side 1 = .ok (.getfield 58, 3) := by decide +kernel
theorem dX3_side_4 : decode cX3_side 4 = .ok (.ireturn, 1) := by decide +kernel
theorem dX3_inPlay_0 : decode cX3_inPlay 0 = .ok (.aload_n 0, 1) := by decide +kernel
theorem dX3_inPlay_1 : decode cX3_inPlay 1 = .ok (.getfield 36, 3) := by decide +kernel
theorem dX3_inPlay_4 : decode cX3_inPlay 4 = .ok (.ireturn, 1) := by decide +kernel
theorem dX3_tell_0 : decode cX3_tell 0 = .ok (.iload_n 1, 1) := by decide +kernel
theorem dX3_tell_1 : decode cX3_tell 1 = .ok (.tableswitch 111 0 11 #[63, 68, 73, 78, 83, 111, 111, 111, 111, 88, 97, 106], 63) := by decide +kernel
theorem dX3_tell_64 : decode cX3_tell 64 = .ok (.aload_n 0, 1) := by decide +kernel
theorem dX3_tell_65 : decode cX3_tell 65 = .ok (.getfield 58, 3) := by decide +kernel
theorem dX3_tell_68 : decode cX3_tell 68 = .ok (.ireturn, 1) := by decide +kernel
theorem dX3_tell_69 : decode cX3_tell 69 = .ok (.aload_n 0, 1) := by decide +kernel
theorem dX3_tell_70 : decode cX3_tell 70 = .ok (.getfield 36, 3) := by decide +kernel
theorem dX3_tell_73 : decode cX3_tell 73 = .ok (.ireturn, 1) := by decide +kernel
theorem dX3_tell_74 : decode cX3_tell 74 = .ok (.aload_n 0, 1) := by decide +kernel
theorem dX3_tell_75 : decode cX3_tell 75 = .ok (.getfield 83, 3) := by decide +kernel
theorem dX3_tell_78 : decode cX3_tell 78 = .ok (.ireturn, 1) := by decide +kernel
theorem dX3_tell_79 : decode cX3_tell 79 = .ok (.aload_n 0, 1) := by decide +kernel
theorem dX3_tell_80 : decode cX3_tell 80 = .ok (.getfield 65, 3) := by decide +kernel
theorem dX3_tell_83 : decode cX3_tell 83 = .ok (.ireturn, 1) := by decide +kernel
theorem dX3_tell_84 : decode cX3_tell 84 = .ok (.aload_n 0, 1) := by decide +kernel
theorem dX3_tell_85 : decode cX3_tell 85 = .ok (.getfield 48, 3) := by decide +kernel
theorem dX3_tell_88 : decode cX3_tell 88 = .ok (.ireturn, 1) := by decide +kernel
theorem dX3_tell_89 : decode cX3_tell 89 = .ok (.aload_n 0, 1) := by decide +kernel
theorem dX3_tell_90 : decode cX3_tell 90 = .ok (.getfield 15, 3) := by decide +kernel
theorem dX3_tell_93 : decode cX3_tell 93 = .ok (.iconst 0, 1) := by decide +kernel
theorem dX3_tell_94 : decode cX3_tell 94 = .ok (.invokestatic 61, 3) := by decide +kernel
theorem dX3_tell_97 : decode cX3_tell 97 = .ok (.ireturn, 1) := by decide +kernel
theorem dX3_tell_98 : decode cX3_tell 98 = .ok (.aload_n 0, 1) := by decide +kernel
theorem dX3_tell_99 : decode cX3_tell 99 = .ok (.getfield 15, 3) := by decide +kernel
theorem dX3_tell_102 : decode cX3_tell 102 = .ok (.iconst 1, 1) := by decide +kernel
theorem dX3_tell_103 : decode cX3_tell 103 = .ok (.invokestatic 61, 3) := by decide +kernel
theorem dX3_tell_106 : decode cX3_tell 106 = .ok (.ireturn, 1) := by decide +kernel
theorem dX3_tell_107 : decode cX3_tell 107 = .ok (.aload_n 0, 1) := by decide +kernel
theorem dX3_tell_108 : decode cX3_tell 108 = .ok (.invokevirtual 32, 3) := by decide +kernel
theorem dX3_tell_111 : decode cX3_tell 111 = .ok (.ireturn, 1) := by decide +kernel
theorem dX3_tell_112 : decode cX3_tell 112 = .ok (.aload_n 0, 1) := by decide +kernel
theorem dX3_tell_113 : decode cX3_tell 113 = .ok (.getfield 9, 3) := by decide +kernel
theorem dX3_tell_116 : decode cX3_tell 116 = .ok (.iload_n 1, 1) := by decide +kernel
theorem dX3_tell_117 : decode cX3_tell 117 = .ok (.iconst 5, 1) := by decide +kernel
theorem dX3_tell_118 : decode cX3_tell 118 = .ok (.isub, 1) := by decide +kernel
theorem dX3_tell_119 : decode cX3_tell 119 = .ok (.invokestatic 61, 3) := by decide +kernel
theorem dX3_tell_122 : decode cX3_tell 122 = .ok (.ireturn, 1) := by decide +kernel
theorem dX4_init_0 : decode cX4_init 0 = .ok (.aload_n 0, 1) := by decide +kernel
theorem dX4_init_1 : decode cX4_init 1 = .ok (.invokespecial 3, 3) := by decide +kernel
theorem dX4_init_4 : decode cX4_init 4 = .ok (.aload_n 0, 1) := by decide +kernel
theorem dX4_init_5 : decode cX4_init 5 = .ok (.bipush 8, 2) := by decide +kernel
theorem dX4_init_7 : decode cX4_init 7 = .ok (.newarray .int, 2) := by decide +kernel
theorem dX4_init_9 : decode cX4_init 9 = .ok (.putfield 9, 3) := by decide +kernel
theorem dX4_init_12 : decode cX4_init 12 = .ok (.aload_n 0, 1) := by decide +kernel
theorem dX4_init_13 : decode cX4_init 13 = .ok (.getfield 9, 3) := by decide +kernel
theorem dX4_init_16 : decode cX4_init 16 = .ok (.sipush 1000, 3) := by decide +kernel
theorem dX4_init_19 : decode cX4_init 19 = .ok (.invokestatic 15, 3) := by decide +kernel
theorem dX4_init_22 : decode cX4_init 22 = .ok (.return_, 1) := by decide +kernel
theorem dX4_put_0 : decode cX4_put 0 = .ok (.aload_n 0, 1) := by decide +kernel
theorem dX4_put_1 : decode cX4_put 1 = .ok (.getfield 9, 3) := by decide +kernel
theorem dX4_put_4 : decode cX4_put 4 = .ok (.iload_n 1, 1) := by decide +kernel
theorem dX4_put_5 : decode cX4_put 5 = .ok (.invokestatic 21, 3) := by decide +kernel
theorem dX4_put_8 : decode cX4_put 8 = .ok (.istore_n 3, 1) := by decide +kernel
theorem dX4_put_9 : decode cX4_put 9 = .ok (.aload_n 0, 1) := by decide +kernel
theorem dX4_put_10 : decode cX4_put 10 = .ok (.getfield 9, 3) := by decide +kernel
theorem dX4_put_13 : decode cX4_put 13 = .ok (.iload_n 1, 1) := by decide +kernel
theorem dX4_put_14 : decode cX4_put 14 = .ok (.iload_n 2, 1) := by decide +kernel
theorem dX4_put_15 : decode cX4_put 15 = .ok (.invokestatic 25, 3) := by decide +kernel
theorem dX4_put_18 : decode cX4_put 18 = .ok (.iload_n 3, 1) := by decide +kernel
theorem dX4_put_19 : decode cX4_put 19 = .ok (.ireturn, 1) := by decide +kernel
theorem dX4_handicapOf_0 : decode cX4_handicapOf 0 = .ok (.bipush 20, 2) := by decide +kernel
theorem dX4_handicapOf_2 : decode cX4_handicapOf 2 = .ok (.aload_n 0, 1) := by decide +kernel
theorem dX4_handicapOf_3 : decode cX4_handicapOf 3 = .ok (.getfield 9, 3) := by decide +kernel
theorem dX4_handicapOf_6 : decode cX4_handicapOf 6 = .ok (.iload_n 1, 1) := by decide +kernel
theorem dX4_handicapOf_7 : decode cX4_handicapOf 7 = .ok (.invokestatic 21, 3) := by decide +kernel
theorem dX4_handicapOf_10 : decode cX4_handicapOf 10 = .ok (.bipush 100, 2) := by decide +kernel
theorem dX4_handicapOf_12 : decode cX4_handicapOf 12 = .ok (.idiv, 1) := by decide +kernel
theorem dX4_handicapOf_13 : decode cX4_handicapOf 13 = .ok (.isub, 1) := by decide +kernel
theorem dX4_handicapOf_14 : decode cX4_handicapOf 14 = .ok (.ireturn, 1) := by decide +kernel
theorem dX4_freeTurnsOfOther_0 : decode cX4_freeTurnsOfOther 0 = .ok (.aload_n 0, 1) := by decide +kernel
theorem dX4_freeTurnsOfOther_1 : decode cX4_freeTurnsOfOther 1 = .ok (.iload_n 2, 1) := by decide +kernel
theorem dX4_freeTurnsOfOther_2 : decode cX4_freeTurnsOfOther 2 = .ok (.invokevirtual 29, 3) := by decide +kernel
theorem dX4_freeTurnsOfOther_5 : decode cX4_freeTurnsOfOther 5 = .ok (.aload_n 0, 1) := by decide +kernel
theorem dX4_freeTurnsOfOther_6 : decode cX4_freeTurnsOfOther 6 = .ok (.iload_n 1, 1) := by decide +kernel
theorem dX4_freeTurnsOfOther_7 : decode cX4_freeTurnsOfOther 7 = .ok (.invokevirtual 29, 3) := by decide +kernel
theorem dX4_freeTurnsOfOther_10 : decode cX4_freeTurnsOfOther 10 = .ok (.isub, 1) := by decide +kernel
theorem dX4_freeTurnsOfOther_11 : decode cX4_freeTurnsOfOther 11 = .ok (.istore_n 3, 1) := by decide +kernel
theorem dX4_freeTurnsOfOther_12 : decode cX4_freeTurnsOfOther 12 = .ok (.iload_n 3, 1) := by decide +kernel
theorem dX4_freeTurnsOfOther_13 : decode cX4_freeTurnsOfOther 13 = .ok (.invokestatic 33, 3) := by decide +kernel
theorem dX4_freeTurnsOfOther_16 : decode cX4_freeTurnsOfOther 16 = .ok (.iconst 1, 1) := by decide +kernel
theorem dX4_freeTurnsOfOther_17 : decode cX4_freeTurnsOfOther 17 = .ok (.iadd, 1) := by decide +kernel
theorem dX4_freeTurnsOfOther_18 : decode cX4_freeTurnsOfOther 18 = .ok (.iconst 2, 1) := by decide +kernel
theorem dX4_freeTurnsOfOther_19 : decode cX4_freeTurnsOfOther 19 = .ok (.idiv, 1) := by decide +kernel
theorem dX4_freeTurnsOfOther_20 : decode cX4_freeTurnsOfOther 20 = .ok (.istore 4, 2) := by decide +kernel
theorem dX4_freeTurnsOfOther_22 : decode cX4_freeTurnsOfOther 22 = .ok (.iload_n 3, 1) := by decide +kernel
theorem dX4_freeTurnsOfOther_23 : decode cX4_freeTurnsOfOther 23 = .ok (.ifCond .ge 9, 3) := by decide +kernel
theorem dX4_freeTurnsOfOther_26 : decode cX4_freeTurnsOfOther 26 = .ok (.iload 4, 2) := by decide +kernel
theorem dX4_freeTurnsOfOther_28 : decode cX4_freeTurnsOfOther 28 = .ok (.ineg, 1) := by decide +kernel
theorem dX4_freeTurnsOfOther_29 : decode cX4_freeTurnsOfOther 29 = .ok (.goto 5, 3) := by decide +kernel
theorem dX4_freeTurnsOfOther_32 : decode cX4_freeTurnsOfOther 32 = .ok (.iload 4, 2) := by decide +kernel
theorem dX4_freeTurnsOfOther_34 : decode cX4_freeTurnsOfOther 34 = .ok (.ireturn, 1) := by decide +kernel
theorem dX5_init_0 : decode cX5_init 0 = .ok (.aload_n 0, 1) := by decide +kernel
theorem dX5_init_1 : decode cX5_init 1 = .ok (.invokespecial 3, 3) := by decide +kernel
theorem dX5_init_4 : decode cX5_init 4 = .ok (.aload_n 0, 1) := by decide +kernel
theorem dX5_init_5 : decode cX5_init 5 = .ok (.new 9, 3) := by decide +kernel
theorem dX5_init_8 : decode cX5_init 8 = .ok (.dup, 1) := by decide +kernel
theorem dX5_init_9 : decode cX5_init 9 = .ok (.invokespecial 11, 3) := by decide +kernel
theorem dX5_init_12 : decode cX5_init 12 = .ok (.putfield 12, 3) := by decide +kernel
theorem dX5_init_15 : decode cX5_init 15 = .ok (.aload_n 0, 1) := by decide +kernel
theorem dX5_init_16 : decode cX5_init 16 = .ok (.new 16, 3) := by decide +kernel
theorem dX5_init_19 : decode cX5_init 19 = .ok (.dup, 1) := by decide +kernel
theorem dX5_init_20 : decode cX5_init 20 = .ok (.invokespecial 18, 3) := by decide +kernel
theorem dX5_init_23 : decode cX5_init 23 = .ok (.putfield 19, 3) := by decide +kernel
theorem dX5_init_26 : decode cX5_init 26 = .ok (.aload_n 0, 1) := by decide +kernel
theorem dX5_init_27 : decode cX5_init 27 = .ok (.new 23, 3) := by decide +kernel
theorem dX5_init_30 : decode cX5_init 30 = .ok (.dup, 1) := by decide +kernel
theorem dX5_init_31 : decode cX5_init 31 = .ok (.invokespecial 25, 3) := by decide +kernel
theorem dX5_init_34 : decode cX5_init 34 = .ok (.putfield 26, 3) := by decide +kernel
theorem dX5_init_37 : decode cX5_init 37 = .ok (.aload_n 0, 1) := by decide +kernel
theorem dX5_init_38 : decode cX5_init 38 = .ok (.new 30, 3) := by decide +kernel
theorem dX5_init_41 : decode cX5_init 41 = .ok (.dup, 1) := by decide +kernel
theorem dX5_init_42 : decode cX5_init 42 = .ok (.invokespecial 32, 3) := by decide +kernel
theorem dX5_init_45 : decode cX5_init 45 = .ok (.putfield 33, 3) := by decide +kernel
theorem dX5_init_48 : decode cX5_init 48 = .ok (.return_, 1) := by decide +kernel
theorem dX5_game_0 : decode cX5_game 0 = .ok (.iload_n 1, 1) := by decide +kernel
theorem dX5_game_1 : decode cX5_game 1 = .ok (.invokestatic 37, 3) := by decide +kernel
theorem dX5_game_4 : decode cX5_game 4 = .ok (.ifCond .eq 15, 3) := by decide +kernel
theorem dX5_game_7 : decode cX5_game 7 = .ok (.iload_n 2, 1) := by decide +kernel
theorem dX5_game_8 : decode cX5_game 8 = .ok (.invokestatic 37, 3) := by decide +kernel
theorem dX5_game_11 : decode cX5_game 11 = .ok (.ifCond .eq 8, 3) := by decide +kernel
theorem dX5_game_14 : decode cX5_game 14 = .ok (.iload_n 1, 1) := by decide +kernel
theorem dX5_game_15 : decode cX5_game 15 = .ok (.iload_n 2, 1) := by decide +kernel
theorem dX5_game_16 : decode cX5_game 16 = .ok (.if_icmp .ne 6, 3) := by decide +kernel
theorem dX5_game_19 : decode cX5_game 19 = .ok (.bipush (-101), 2) := by decide +kernel
theorem dX5_game_21 : decode cX5_game 21 = .ok (.ireturn, 1) := by decide +kernel
theorem dX5_game_22 : decode cX5_game 22 = .ok (.aload_n 0, 1) := by decide +kernel
theorem dX5_game_23 : decode cX5_game 23 = .ok (.getfield 26, 3) := by decide +kernel
theorem dX5_game_26 : decode cX5_game 26 = .ok (.iload_n 1, 1) := by decide +kernel
theorem dX5_game_27 : decode cX5_game 27 = .ok (.iload_n 2, 1) := by decide +kernel
theorem dX5_game_28 : decode cX5_game 28 = .ok (.invokevirtual 41, 3) := by decide +kernel
theorem dX5_game_31 : decode cX5_game 31 = .ok (.istore_n 3, 1) := by decide +kernel
theorem dX5_game_32 : decode cX5_game 32 = .ok (.aload_n 0, 1) := by decide +kernel
theorem dX5_game_33 : decode cX5_game 33 = .ok (.getfield 12, 3) := by decide +kernel
theorem dX5_game_36 : decode cX5_game 36 = .ok (.iload_n 1, 1) := by decide +kernel
theorem dX5_game_37 : decode cX5_game 37 = .ok (.iload_n 2, 1) := by decide +kernel
theorem dX5_game_38 : decode cX5_game 38 = .ok (.iconst 0, 1) := by decide +kernel
theorem dX5_game_39 : decode cX5_game 39 = .ok (.iload_n 3, 1) := by decide +kernel
theorem dX5_game_40 : decode cX5_game 40 = .ok (.ineg, 1) := by decide +kernel
theorem dX5_game_41 : decode cX5_game 41 = .ok (.invokestatic 45, 3) := by decide +kernel
theorem dX5_game_44 : decode cX5_game 44 = .ok (.iconst 0, 1) := by decide +kernel
theorem dX5_game_45 : decode cX5_game 45 = .ok (.iload_n 3, 1) := by decide +kernel
theorem dX5_game_46 : decode cX5_game 46 = .ok (.invokestatic 45, 3) := by decide +kernel
theorem dX5_game_49 : decode cX5_game 49 = .ok (.invokevirtual 50, 3) := by decide +kernel
theorem dX5_game_52 : decode cX5_game 52 = .ok (.iload_n 3, 1) := by decide +kernel
theorem dX5_game_53 : decode cX5_game 53 = .ok (.ireturn, 1) := by decide +kernel
theorem dX5_stroke_0 : decode cX5_stroke 0 = .ok (.iload_n 1, 1) := by decide +kernel
theorem dX5_stroke_1 : decode cX5_stroke 1 = .ok (.iconst 0, 1) := by decide +kernel
theorem dX5_stroke_2 : decode cX5_stroke 2 = .ok (.bipush 6, 2) := by decide +kernel
theorem dX5_stroke_4 : decode cX5_stroke 4 = .ok (.invokestatic 54, 3) := by decide +kernel
theorem dX5_stroke_7 : decode cX5_stroke 7 = .ok (.ifCond .ne 5, 3) := by decide +kernel
theorem dX5_stroke_10 : decode cX5_stroke 10 = .ok (.iconst (-1), 1) := by decide +kernel
theorem dX5_stroke_11 : decode cX5_stroke 11 = .ok (.ireturn, 1) := by decide +kernel
theorem dX5_stroke_12 : decode cX5_stroke 12 = .ok (.iload_n 1, 1) := by decide +kernel
theorem dX5_stroke_13 : decode cX5_stroke 13 = .ok (.ifCond .eq 8, 3) := by decide +kernel
theorem dX5_stroke_16 : decode cX5_stroke 16 = .ok (.iload_n 1, 1) := by decide +kernel
theorem dX5_stroke_17 : decode cX5_stroke 17 = .ok (.iconst 3, 1) := by decide +kernel
theorem dX5_stroke_18 : decode cX5_stroke 18 = .ok (.if_icmp .ne 7, 3) := by decide +kernel
theorem dX5_stroke_21 : decode cX5_stroke 21 = .ok (.iconst 1, 1) := by decide +kernel
theorem dX5_stroke_22 : decode cX5_stroke 22 = .ok (.goto 4, 3) := by decide +kernel
theorem dX5_stroke_25 : decode cX5_stroke 25 = .ok (.iconst 0, 1) := by decide +kernel
theorem dX5_stroke_26 : decode cX5_stroke 26 = .ok (.istore_n 3, 1) := by decide +kernel
theorem dX5_stroke_27 : decode cX5_stroke 27 = .ok (.iload_n 3, 1) := by decide +kernel
theorem dX5_stroke_28 : decode cX5_stroke 28 = .ok (.ifCond .eq 14, 3) := by decide +kernel
theorem dX5_stroke_31 : decode cX5_stroke 31 = .ok (.iload_n 2, 1) := by decide +kernel
theorem dX5_stroke_32 : decode cX5_stroke 32 = .ok (.iconst 0, 1) := by decide +kernel
theorem dX5_stroke_33 : decode cX5_stroke 33 = .ok (.iconst 3, 1) := by decide +kernel
theorem dX5_stroke_34 : decode cX5_stroke 34 = .ok (.invokestatic 54, 3) := by decide +kernel
theorem dX5_stroke_37 : decode cX5_stroke 37 = .ok (.ifCond .ne 5, 3) := by decide +kernel
theorem dX5_stroke_40 : decode cX5_stroke 40 = .ok (.iconst (-1), 1) := by decide +kernel
theorem dX5_stroke_41 : decode cX5_stroke 41 = .ok (.ireturn, 1) := by decide +kernel
theorem dX5_stroke_42 : decode cX5_stroke 42 = .ok (.aload_n 0, 1) := by decide +kernel
theorem dX5_stroke_43 : decode cX5_stroke 43 = .ok (.getfield 12, 3) := by decide +kernel
theorem dX5_stroke_46 : decode cX5_stroke 46 = .ok (.iload_n 1, 1) := by decide +kernel
theorem dX5_stroke_47 : decode cX5_stroke 47 = .ok (.iload_n 3, 1) := by decide +kernel
theorem dX5_stroke_48 : decode cX5_stroke 48 = .ok (.ifCond .eq 7, 3) := by decide +kernel
theorem dX5_stroke_51 : decode cX5_stroke 51 = .ok (.iload_n 2, 1) := by decide +kernel
theorem dX5_stroke_52 : decode cX5_stroke 52 = .ok (.goto 4, 3) := by decide +kernel
theorem dX5_stroke_55 : decode cX5_stroke 55 = .ok (.iconst 0, 1) := by decide +kernel
theorem dX5_stroke_56 : decode cX5_stroke 56 = .ok (.invokevirtual 58, 3) := by decide +kernel
theorem dX5_stroke_59 : decode cX5_stroke 59 = .ok (.ireturn, 1) := by decide +kernel
theorem dX5_told_0 : decode cX5_told 0 = .ok (.iload_n 1, 1) := by decide +kernel
theorem dX5_told_1 : decode cX5_told 1 = .ok (.ifCond .lt 12, 3) := by decide +kernel
theorem dX5_told_4 : decode cX5_told 4 = .ok (.iload_n 2, 1) := by decide +kernel
theorem dX5_told_5 : decode cX5_told 5 = .ok (.iconst 0, 1) := by decide +kernel
theorem dX5_told_6 : decode cX5_told 6 = .ok (.iconst 3, 1) := by decide +kernel
theorem dX5_told_7 : decode cX5_told 7 = .ok (.invokestatic 54, 3) := by decide +kernel
theorem dX5_told_10 : decode cX5_told 10 = .ok (.ifCond .ne 7, 3) := by decide +kernel
theorem dX5_told_13 : decode cX5_told 13 = .ok (.iconst (-1), 1) := by decide +kernel
theorem dX5_told_14 : decode cX5_told 14 = .ok (.goto 12, 3) := by decide +kernel
theorem dX5_told_17 : decode cX5_told 17 = .ok (.aload_n 0, 1) := by decide +kernel
theorem dX5_told_18 : decode cX5_told 18 = .ok (.getfield 12, 3) := by decide +kernel
theorem dX5_told_21 : decode cX5_told 21 = .ok (.iload_n 1, 1) := by decide +kernel
theorem dX5_told_22 : decode cX5_told 22 = .ok (.iload_n 2, 1) := by decide +kernel
theorem dX5_told_23 : decode cX5_told 23 = .ok (.invokevirtual 61, 3) := by decide +kernel
theorem dX5_told_26 : decode cX5_told 26 = .ok (.ireturn, 1) := by decide +kernel
theorem dX5_state_0 : decode cX5_state 0 = .ok (.iload_n 2, 1) := by decide +kernel
theorem dX5_state_1 : decode cX5_state 1 = .ok (.iconst 0, 1) := by decide +kernel
theorem dX5_state_2 : decode cX5_state 2 = .ok (.bipush 11, 2) := by decide +kernel
theorem dX5_state_4 : decode cX5_state 4 = .ok (.invokestatic 54, 3) := by decide +kernel
theorem dX5_state_7 : decode cX5_state 7 = .ok (.ifCond .eq 15, 3) := by decide +kernel
theorem dX5_state_10 : decode cX5_state 10 = .ok (.aload_n 0, 1) := by decide +kernel
theorem dX5_state_11 : decode cX5_state 11 = .ok (.getfield 12, 3) := by decide +kernel
theorem dX5_state_14 : decode cX5_state 14 = .ok (.iload_n 1, 1) := by decide +kernel
theorem dX5_state_15 : decode cX5_state 15 = .ok (.iload_n 2, 1) := by decide +kernel
theorem dX5_state_16 : decode cX5_state 16 = .ok (.invokevirtual 68, 3) := by decide +kernel
theorem dX5_state_19 : decode cX5_state 19 = .ok (.goto 4, 3) := by decide +kernel
theorem dX5_state_22 : decode cX5_state 22 = .ok (.iconst (-1), 1) := by decide +kernel
theorem dX5_state_23 : decode cX5_state 23 = .ok (.ireturn, 1) := by decide +kernel
theorem dX5_found_0 : decode cX5_found 0 = .ok (.aload_n 0, 1) := by decide +kernel
theorem dX5_found_1 : decode cX5_found 1 = .ok (.getfield 12, 3) := by decide +kernel
theorem dX5_found_4 : decode cX5_found 4 = .ok (.iload_n 1, 1) := by decide +kernel
theorem dX5_found_5 : decode cX5_found 5 = .ok (.aload_n 0, 1) := by decide +kernel
theorem dX5_found_6 : decode cX5_found 6 = .ok (.getfield 19, 3) := by decide +kernel
theorem dX5_found_9 : decode cX5_found 9 = .ok (.invokevirtual 71, 3) := by decide +kernel
theorem dX5_found_12 : decode cX5_found 12 = .ok (.ireturn, 1) := by decide +kernel
theorem dX5_type_0 : decode cX5_type 0 = .ok (.aload_n 0, 1) := by decide +kernel
theorem dX5_type_1 : decode cX5_type 1 = .ok (.getfield 19, 3) := by decide +kernel
theorem dX5_type_4 : decode cX5_type 4 = .ok (.lload_n 1, 1) := by decide +kernel
theorem dX5_type_5 : decode cX5_type 5 = .ok (.iload_n 3, 1) := by decide +kernel
theorem dX5_type_6 : decode cX5_type 6 = .ok (.invokevirtual 75, 3) := by decide +kernel
theorem dX5_type_9 : decode cX5_type 9 = .ok (.ireturn, 1) := by decide +kernel
theorem dX5_laws_0 : decode cX5_laws 0 = .ok (.aload_n 0, 1) := by decide +kernel
theorem dX5_laws_1 : decode cX5_laws 1 = .ok (.getfield 19, 3) := by decide +kernel
theorem dX5_laws_4 : decode cX5_laws 4 = .ok (.invokevirtual 79, 3) := by decide +kernel
theorem dX5_laws_7 : decode cX5_laws 7 = .ok (.ireturn, 1) := by decide +kernel
theorem dX5_count_0 : decode cX5_count 0 = .ok (.iload_n 1, 1) := by decide +kernel
theorem dX5_count_1 : decode cX5_count 1 = .ok (.iconst 0, 1) := by decide +kernel
theorem dX5_count_2 : decode cX5_count 2 = .ok (.iconst 2, 1) := by decide +kernel
theorem dX5_count_3 : decode cX5_count 3 = .ok (.invokestatic 54, 3) := by decide +kernel
theorem dX5_count_6 : decode cX5_count 6 = .ok (.ifCond .eq 14, 3) := by decide +kernel
theorem dX5_count_9 : decode cX5_count 9 = .ok (.aload_n 0, 1) := by decide +kernel
theorem dX5_count_10 : decode cX5_count 10 = .ok (.getfield 12, 3) := by decide +kernel
theorem dX5_count_13 : decode cX5_count 13 = .ok (.iload_n 1, 1) := by decide +kernel
theorem dX5_count_14 : decode cX5_count 14 = .ok (.invokevirtual 83, 3) := by decide +kernel
theorem dX5_count_17 : decode cX5_count 17 = .ok (.goto 4, 3) := by decide +kernel
theorem dX5_count_20 : decode cX5_count 20 = .ok (.iconst (-1), 1) := by decide +kernel
theorem dX5_count_21 : decode cX5_count 21 = .ok (.ireturn, 1) := by decide +kernel
theorem dX5_index_0 : decode cX5_index 0 = .ok (.iload_n 1, 1) := by decide +kernel
theorem dX5_index_1 : decode cX5_index 1 = .ok (.invokestatic 37, 3) := by decide +kernel
theorem dX5_index_4 : decode cX5_index 4 = .ok (.ifCond .eq 26, 3) := by decide +kernel
theorem dX5_index_7 : decode cX5_index 7 = .ok (.iload_n 2, 1) := by decide +kernel
theorem dX5_index_8 : decode cX5_index 8 = .ok (.iconst 0, 1) := by decide +kernel
theorem dX5_index_9 : decode cX5_index 9 = .ok (.sipush 2000, 3) := by decide +kernel
theorem dX5_index_12 : decode cX5_index 12 = .ok (.invokestatic 54, 3) := by decide +kernel
theorem dX5_index_15 : decode cX5_index 15 = .ok (.ifCond .eq 15, 3) := by decide +kernel
theorem dX5_index_18 : decode cX5_index 18 = .ok (.aload_n 0, 1) := by decide +kernel
theorem dX5_index_19 : decode cX5_index 19 = .ok (.getfield 26, 3) := by decide +kernel
theorem dX5_index_22 : decode cX5_index 22 = .ok (.iload_n 1, 1) := by decide +kernel
theorem dX5_index_23 : decode cX5_index 23 = .ok (.iload_n 2, 1) := by decide +kernel
theorem dX5_index_24 : decode cX5_index 24 = .ok (.invokevirtual 86, 3) := by decide +kernel
theorem dX5_index_27 : decode cX5_index 27 = .ok (.goto 4, 3) := by decide +kernel
theorem dX5_index_30 : decode cX5_index 30 = .ok (.iconst (-1), 1) := by decide +kernel
theorem dX5_index_31 : decode cX5_index 31 = .ok (.ireturn, 1) := by decide +kernel
theorem dX5_within_0 : decode cX5_within 0 = .ok (.iload_n 0, 1) := by decide +kernel
theorem dX5_within_1 : decode cX5_within 1 = .ok (.iload_n 1, 1) := by decide +kernel
theorem dX5_within_2 : decode cX5_within 2 = .ok (.if_icmp .lt 12, 3) := by decide +kernel
theorem dX5_within_5 : decode cX5_within 5 = .ok (.iload_n 0, 1) := by decide +kernel
theorem dX5_within_6 : decode cX5_within 6 = .ok (.iload_n 2, 1) := by decide +kernel
theorem dX5_within_7 : decode cX5_within 7 = .ok (.if_icmp .gt 7, 3) := by decide +kernel
theorem dX5_within_10 : decode cX5_within 10 = .ok (.iconst 1, 1) := by decide +kernel
theorem dX5_within_11 : decode cX5_within 11 = .ok (.goto 4, 3) := by decide +kernel
theorem dX5_within_14 : decode cX5_within 14 = .ok (.iconst 0, 1) := by decide +kernel
theorem dX5_within_15 : decode cX5_within 15 = .ok (.ireturn, 1) := by decide +kernel
theorem dX5_isPlayer_0 : decode cX5_isPlayer 0 = .ok (.iload_n 0, 1) := by decide +kernel
theorem dX5_isPlayer_1 : decode cX5_isPlayer 1 = .ok (.iconst 0, 1) := by decide +kernel
theorem dX5_isPlayer_2 : decode cX5_isPlayer 2 = .ok (.bipush 7, 2) := by decide +kernel
theorem dX5_isPlayer_4 : decode cX5_isPlayer 4 = .ok (.invokestatic 54, 3) := by decide +kernel
theorem dX5_isPlayer_7 : decode cX5_isPlayer 7 = .ok (.ireturn, 1) := by decide +kernel
theorem dX5_at_0 : decode cX5_at 0 = .ok (.iload_n 1, 1) := by decide +kernel
theorem dX5_at_1 : decode cX5_at 1 = .ok (.ifCond .lt 15, 3) := by decide +kernel
theorem dX5_at_4 : decode cX5_at 4 = .ok (.iload_n 1, 1) := by decide +kernel
theorem dX5_at_5 : decode cX5_at 5 = .ok (.aload_n 0, 1) := by decide +kernel
theorem dX5_at_6 : decode cX5_at 6 = .ok (.arraylength, 1) := by decide +kernel
theorem dX5_at_7 : decode cX5_at 7 = .ok (.if_icmp .ge 9, 3) := by decide +kernel
theorem dX5_at_10 : decode cX5_at 10 = .ok (.aload_n 0, 1) := by decide +kernel
theorem dX5_at_11 : decode cX5_at 11 = .ok (.iload_n 1, 1) := by decide +kernel
theorem dX5_at_12 : decode cX5_at 12 = .ok (.iaload, 1) := by decide +kernel
theorem dX5_at_13 : decode cX5_at 13 = .ok (.goto 5, 3) := by decide +kernel
theorem dX5_at_16 : decode cX5_at 16 = .ok (.bipush (-4), 2) := by decide +kernel
theorem dX5_at_18 : decode cX5_at 18 = .ok (.ireturn, 1) := by decide +kernel
theorem dX5_set_0 : decode cX5_set 0 = .ok (.iload_n 1, 1) := by decide +kernel
theorem dX5_set_1 : decode cX5_set 1 = .ok (.ifCond .lt 13, 3) := by decide +kernel
theorem dX5_set_4 : decode cX5_set 4 = .ok (.iload_n 1, 1) := by decide +kernel
theorem dX5_set_5 : decode cX5_set 5 = .ok (.aload_n 0, 1) := by decide +kernel
theorem dX5_set_6 : decode cX5_set 6 = .ok (.arraylength, 1) := by decide +kernel
theorem dX5_set_7 : decode cX5_set 7 = .ok (.if_icmp .ge 7, 3) := by decide +kernel
theorem dX5_set_10 : decode cX5_set 10 = .ok (.aload_n 0, 1) := by decide +kernel
theorem dX5_set_11 : decode cX5_set 11 = .ok (.iload_n 1, 1) := by decide +kernel
theorem dX5_set_12 : decode cX5_set 12 = .ok (.iload_n 2, 1) := by decide +kernel
theorem dX5_set_13 : decode cX5_set 13 = .ok (.iastore, 1) := by decide +kernel
theorem dX5_set_14 : decode cX5_set 14 = .ok (.return_, 1) := by decide +kernel
theorem dJ9_abs_0f7a4_0 : decode cJ9_abs_0f7a4 0 = .ok (.iload_n 0, 1) := by decide +kernel
theorem dJ9_abs_0f7a4_1 : decode cJ9_abs_0f7a4 1 = .ok (.ifCond .ge 8, 3) := by decide +kernel
theorem dJ9_abs_0f7a4_4 : decode cJ9_abs_0f7a4 4 = .ok (.iload_n 0, 1) := by decide +kernel
theorem dJ9_abs_0f7a4_5 : decode cJ9_abs_0f7a4 5 = .ok (.ineg, 1) := by decide +kernel
theorem dJ9_abs_0f7a4_6 : decode cJ9_abs_0f7a4 6 = .ok (.goto 4, 3) := by decide +kernel
theorem dJ9_abs_0f7a4_9 : decode cJ9_abs_0f7a4 9 = .ok (.iload_n 0, 1) := by decide +kernel
theorem dJ9_abs_0f7a4_10 : decode cJ9_abs_0f7a4 10 = .ok (.ireturn, 1) := by decide +kernel
theorem dJ9_max_7cf53_0 : decode cJ9_max_7cf53 0 = .ok (.iload_n 0, 1) := by decide +kernel
theorem dJ9_max_7cf53_1 : decode cJ9_max_7cf53 1 = .ok (.iload_n 1, 1) := by decide +kernel
theorem dJ9_max_7cf53_2 : decode cJ9_max_7cf53 2 = .ok (.if_icmp .lt 7, 3) := by decide +kernel
theorem dJ9_max_7cf53_5 : decode cJ9_max_7cf53 5 = .ok (.iload_n 0, 1) := by decide +kernel
theorem dJ9_max_7cf53_6 : decode cJ9_max_7cf53 6 = .ok (.goto 4, 3) := by decide +kernel
theorem dJ9_max_7cf53_9 : decode cJ9_max_7cf53 9 = .ok (.iload_n 1, 1) := by decide +kernel
theorem dJ9_max_7cf53_10 : decode cJ9_max_7cf53 10 = .ok (.ireturn, 1) := by decide +kernel
theorem dJ9_min_7cf53_0 : decode cJ9_min_7cf53 0 = .ok (.iload_n 0, 1) := by decide +kernel
theorem dJ9_min_7cf53_1 : decode cJ9_min_7cf53 1 = .ok (.iload_n 1, 1) := by decide +kernel
theorem dJ9_min_7cf53_2 : decode cJ9_min_7cf53 2 = .ok (.if_icmp .gt 7, 3) := by decide +kernel
theorem dJ9_min_7cf53_5 : decode cJ9_min_7cf53 5 = .ok (.iload_n 0, 1) := by decide +kernel
theorem dJ9_min_7cf53_6 : decode cJ9_min_7cf53 6 = .ok (.goto 4, 3) := by decide +kernel
theorem dJ9_min_7cf53_9 : decode cJ9_min_7cf53 9 = .ok (.iload_n 1, 1) := by decide +kernel
theorem dJ9_min_7cf53_10 : decode cJ9_min_7cf53 10 = .ok (.ireturn, 1) := by decide +kernel
theorem dJ7_fill_53178_0 : decode cJ7_fill_53178 0 = .ok (.iconst 0, 1) := by decide +kernel
theorem dJ7_fill_53178_1 : decode cJ7_fill_53178 1 = .ok (.istore_n 2, 1) := by decide +kernel
theorem dJ7_fill_53178_2 : decode cJ7_fill_53178 2 = .ok (.aload_n 0, 1) := by decide +kernel
theorem dJ7_fill_53178_3 : decode cJ7_fill_53178 3 = .ok (.arraylength, 1) := by decide +kernel
theorem dJ7_fill_53178_4 : decode cJ7_fill_53178 4 = .ok (.istore_n 3, 1) := by decide +kernel
theorem dJ7_fill_53178_5 : decode cJ7_fill_53178 5 = .ok (.iload_n 2, 1) := by decide +kernel
theorem dJ7_fill_53178_6 : decode cJ7_fill_53178 6 = .ok (.iload_n 3, 1) := by decide +kernel
theorem dJ7_fill_53178_7 : decode cJ7_fill_53178 7 = .ok (.if_icmp .ge 13, 3) := by decide +kernel
theorem dJ7_fill_53178_10 : decode cJ7_fill_53178 10 = .ok (.aload_n 0, 1) := by decide +kernel
theorem dJ7_fill_53178_11 : decode cJ7_fill_53178 11 = .ok (.iload_n 2, 1) := by decide +kernel
theorem dJ7_fill_53178_12 : decode cJ7_fill_53178 12 = .ok (.iload_n 1, 1) := by decide +kernel
theorem dJ7_fill_53178_13 : decode cJ7_fill_53178 13 = .ok (.iastore, 1) := by decide +kernel
theorem dJ7_fill_53178_14 : decode cJ7_fill_53178 14 = .ok (.iinc 2 1, 3) := by decide +kernel
theorem dJ7_fill_53178_17 : decode cJ7_fill_53178 17 = .ok (.goto (-12), 3) := by decide +kernel
theorem dJ7_fill_53178_20 : decode cJ7_fill_53178 20 = .ok (.return_, 1) := by decide +kernel
theorem dL_cell_0 : decode cL_cell 0 = .ok (.iload_n 1, 1) := by decide +kernel
theorem dL_cell_1 : decode cL_cell 1 = .ok (.aload_n 0, 1) := by decide +kernel
theorem dL_cell_2 : decode cL_cell 2 = .ok (.arraylength, 1) := by decide +kernel
theorem dL_cell_3 : decode cL_cell 3 = .ok (.if_icmp .ge 9, 3) := by decide +kernel
theorem dL_cell_6 : decode cL_cell 6 = .ok (.aload_n 0, 1) := by decide +kernel
theorem dL_cell_7 : decode cL_cell 7 = .ok (.iload_n 1, 1) := by decide +kernel
theorem dL_cell_8 : decode cL_cell 8 = .ok (.iaload, 1) := by decide +kernel
theorem dL_cell_9 : decode cL_cell 9 = .ok (.goto 9, 3) := by decide +kernel
theorem dL_cell_12 : decode cL_cell 12 = .ok (.ldc 7, 2) := by decide +kernel
theorem dL_cell_14 : decode cL_cell 14 = .ok (.iload_n 1, 1) := by decide +kernel
theorem dL_cell_15 : decode cL_cell 15 = .ok (.iconst 3, 1) := by decide +kernel
theorem dL_cell_16 : decode cL_cell 16 = .ok (.iadd, 1) := by decide +kernel
theorem dL_cell_17 : decode cL_cell 17 = .ok (.imul, 1) := by decide +kernel
theorem dL_cell_18 : decode cL_cell 18 = .ok (.ireturn, 1) := by decide +kernel
theorem dL_some_0 : decode cL_some 0 = .ok (.iload_n 0, 1) := by decide +kernel
theorem dL_some_1 : decode cL_some 1 = .ok (.ldc 8, 2) := by decide +kernel
theorem dL_some_3 : decode cL_some 3 = .ok (.iand, 1) := by decide +kernel
theorem dL_some_4 : decode cL_some 4 = .ok (.iload_n 1, 1) := by decide +kernel
theorem dL_some_5 : decode cL_some 5 = .ok (.irem, 1) := by decide +kernel
theorem dL_some_6 : decode cL_some 6 = .ok (.ireturn, 1) := by decide +kernel
theorem dL_told_0 : decode cL_told 0 = .ok (.lconst 0, 1) := by decide +kernel
theorem dL_told_1 : decode cL_told 1 = .ok (.lstore_n 2, 1) := by decide +kernel
theorem dL_told_2 : decode cL_told 2 = .ok (.iconst 0, 1) := by decide +kernel
theorem dL_told_3 : decode cL_told 3 = .ok (.istore 4, 2) := by decide +kernel
theorem dL_told_5 : decode cL_told 5 = .ok (.iload 4, 2) := by decide +kernel
theorem dL_told_7 : decode cL_told 7 = .ok (.bipush 12, 2) := by decide +kernel
theorem dL_told_9 : decode cL_told 9 = .ok (.if_icmp .ge 28, 3) := by decide +kernel
theorem dL_told_12 : decode cL_told 12 = .ok (.ldc2_w 11, 3) := by decide +kernel
theorem dL_told_15 : decode cL_told 15 = .ok (.lload_n 2, 1) := by decide +kernel
theorem dL_told_16 : decode cL_told 16 = .ok (.lmul, 1) := by decide +kernel
theorem dL_told_17 : decode cL_told 17 = .ok (.aload_n 0, 1) := by decide +kernel
theorem dL_told_18 : decode cL_told 18 = .ok (.iload_n 1, 1) := by decide +kernel
theorem dL_told_19 : decode cL_told 19 = .ok (.iload 4, 2) := by decide +kernel
theorem dL_told_21 : decode cL_told 21 = .ok (.invokevirtual 13, 3) := by decide +kernel
theorem dL_told_24 : decode cL_told 24 = .ok (.i2l, 1) := by decide +kernel
theorem dL_told_25 : decode cL_told 25 = .ok (.ladd, 1) := by decide +kernel
theorem dL_told_26 : decode cL_told 26 = .ok (.ldc2_w 19, 3) := by decide +kernel
theorem dL_told_29 : decode cL_told 29 = .ok (.ladd, 1) := by decide +kernel
theorem dL_told_30 : decode cL_told 30 = .ok (.lstore_n 2, 1) := by decide +kernel
theorem dL_told_31 : decode cL_told 31 = .ok (.iinc 4 1, 3) := by decide +kernel
theorem dL_told_34 : decode cL_told 34 = .ok (.goto (-29), 3) := by decide +kernel
theorem dL_told_37 : decode cL_told 37 = .ok (.lload_n 2, 1) := by decide +kernel
theorem dL_told_38 : decode cL_told 38 = .ok (.lreturn, 1) := by decide +kernel
theorem dL_laws_0 : decode cL_laws 0 = .ok (.aload_n 0, 1) := by decide +kernel
theorem dL_laws_1 : decode cL_laws 1 = .ok (.ldc2_w 21, 3) := by decide +kernel
theorem dL_laws_4 : decode cL_laws 4 = .ok (.iconst 1, 1) := by decide +kernel
theorem dL_laws_5 : decode cL_laws 5 = .ok (.invokevirtual 23, 3) := by decide +kernel
theorem dL_laws_8 : decode cL_laws 8 = .ok (.iconst 1, 1) := by decide +kernel
theorem dL_laws_9 : decode cL_laws 9 = .ok (.if_icmp .ne 62, 3) := by decide +kernel
theorem dL_laws_12 : decode cL_laws 12 = .ok (.aload_n 0, 1) := by decide +kernel
theorem dL_laws_13 : decode cL_laws 13 = .ok (.ldc2_w 27, 3) := by decide +kernel
theorem dL_laws_16 : decode cL_laws 16 = .ok (.iload_n 1, 1) := by decide +kernel
theorem dL_laws_17 : decode cL_laws 17 = .ok (.bipush 10, 2) := by decide +kernel
theorem dL_laws_19 : decode cL_laws 19 = .ok (.idiv, 1) := by decide +kernel
theorem dL_laws_20 : decode cL_laws 20 = .ok (.i2l, 1) := by decide +kernel
theorem dL_laws_21 : decode cL_laws 21 = .ok (.ladd, 1) := by decide +kernel
theorem dL_laws_22 : decode cL_laws 22 = .ok (.ldc2_w 29, 3) := by decide +kernel
theorem dL_laws_25 : decode cL_laws 25 = .ok (.lmul, 1) := by decide +kernel
theorem dL_laws_26 : decode cL_laws 26 = .ok (.ldc2_w 27, 3) := by decide +kernel
theorem dL_laws_29 : decode cL_laws 29 = .ok (.ladd, 1) := by decide +kernel
theorem dL_laws_30 : decode cL_laws 30 = .ok (.iload_n 1, 1) := by decide +kernel
theorem dL_laws_31 : decode cL_laws 31 = .ok (.bipush 10, 2) := by decide +kernel
theorem dL_laws_33 : decode cL_laws 33 = .ok (.irem, 1) := by decide +kernel
theorem dL_laws_34 : decode cL_laws 34 = .ok (.i2l, 1) := by decide +kernel
theorem dL_laws_35 : decode cL_laws 35 = .ok (.ladd, 1) := by decide +kernel
theorem dL_laws_36 : decode cL_laws 36 = .ok (.iconst 2, 1) := by decide +kernel
theorem dL_laws_37 : decode cL_laws 37 = .ok (.invokevirtual 23, 3) := by decide +kernel
theorem dL_laws_40 : decode cL_laws 40 = .ok (.iconst 3, 1) := by decide +kernel
theorem dL_laws_41 : decode cL_laws 41 = .ok (.if_icmp .ne 30, 3) := by decide +kernel
theorem dL_laws_44 : decode cL_laws 44 = .ok (.aload_n 0, 1) := by decide +kernel
theorem dL_laws_45 : decode cL_laws 45 = .ok (.iload_n 2, 1) := by decide +kernel
theorem dL_laws_46 : decode cL_laws 46 = .ok (.i2l, 1) := by decide +kernel
theorem dL_laws_47 : decode cL_laws 47 = .ok (.iconst 1, 1) := by decide +kernel
theorem dL_laws_48 : decode cL_laws 48 = .ok (.invokevirtual 23, 3) := by decide +kernel
theorem dL_laws_51 : decode cL_laws 51 = .ok (.iconst 4, 1) := by decide +kernel
theorem dL_laws_52 : decode cL_laws 52 = .ok (.if_icmp .ne 19, 3) := by decide +kernel
theorem dL_laws_55 : decode cL_laws 55 = .ok (.aload_n 0, 1) := by decide +kernel
theorem dL_laws_56 : decode cL_laws 56 = .ok (.ldc2_w 31, 3) := by decide +kernel
theorem dL_laws_59 : decode cL_laws 59 = .ok (.iconst 1, 1) := by decide +kernel
theorem dL_laws_60 : decode cL_laws 60 = .ok (.invokevirtual 23, 3) := by decide +kernel
theorem dL_laws_63 : decode cL_laws 63 = .ok (.iconst 5, 1) := by decide +kernel
theorem dL_laws_64 : decode cL_laws 64 = .ok (.if_icmp .ne 7, 3) := by decide +kernel
theorem dL_laws_67 : decode cL_laws 67 = .ok (.iconst 1, 1) := by decide +kernel
theorem dL_laws_68 : decode cL_laws 68 = .ok (.goto 4, 3) := by decide +kernel
theorem dL_laws_71 : decode cL_laws 71 = .ok (.iconst 0, 1) := by decide +kernel
theorem dL_laws_72 : decode cL_laws 72 = .ok (.istore 5, 2) := by decide +kernel
theorem dL_laws_74 : decode cL_laws 74 = .ok (.iload 5, 2) := by decide +kernel
theorem dL_laws_76 : decode cL_laws 76 = .ok (.ifCond .eq 74, 3) := by decide +kernel
theorem dL_laws_79 : decode cL_laws 79 = .ok (.aload_n 0, 1) := by decide +kernel
theorem dL_laws_80 : decode cL_laws 80 = .ok (.ldc2_w 33, 3) := by decide +kernel
theorem dL_laws_83 : decode cL_laws 83 = .ok (.iconst 1, 1) := by decide +kernel
theorem dL_laws_84 : decode cL_laws 84 = .ok (.invokevirtual 23, 3) := by decide +kernel
theorem dL_laws_87 : decode cL_laws 87 = .ok (.bipush 6, 2) := by decide +kernel
theorem dL_laws_89 : decode cL_laws 89 = .ok (.if_icmp .ne 61, 3) := by decide +kernel
theorem dL_laws_92 : decode cL_laws 92 = .ok (.aload_n 0, 1) := by decide +kernel
theorem dL_laws_93 : decode cL_laws 93 = .ok (.ldc2_w 27, 3) := by decide +kernel
theorem dL_laws_96 : decode cL_laws 96 = .ok (.iload_n 3, 1) := by decide +kernel
theorem dL_laws_97 : decode cL_laws 97 = .ok (.bipush 10, 2) := by decide +kernel
theorem dL_laws_99 : decode cL_laws 99 = .ok (.idiv, 1) := by decide +kernel
theorem dL_laws_100 : decode cL_laws 100 = .ok (.i2l, 1) := by decide +kernel
theorem dL_laws_101 : decode cL_laws 101 = .ok (.ladd, 1) := by decide +kernel
theorem dL_laws_102 : decode cL_laws 102 = .ok (.ldc2_w 29, 3) := by decide +kernel
theorem dL_laws_105 : decode cL_laws 105 = .ok (.lmul, 1) := by decide +kernel
theorem dL_laws_106 : decode cL_laws 106 = .ok (.ldc2_w 27, 3) := by decide +kernel
theorem dL_laws_109 : decode cL_laws 109 = .ok (.ladd, 1) := by decide +kernel
theorem dL_laws_110 : decode cL_laws 110 = .ok (.iload_n 3, 1) := by decide +kernel
theorem dL_laws_111 : decode cL_laws 111 = .ok (.bipush 10, 2) := by decide +kernel
theorem dL_laws_113 : decode cL_laws 113 = .ok (.irem, 1) := by decide +kernel
theorem dL_laws_114 : decode cL_laws 114 = .ok (.i2l, 1) := by decide +kernel
theorem dL_laws_115 : decode cL_laws 115 = .ok (.ladd, 1) := by decide +kernel
theorem dL_laws_116 : decode cL_laws 116 = .ok (.iconst 2, 1) := by decide +kernel
theorem dL_laws_117 : decode cL_laws 117 = .ok (.invokevirtual 23, 3) := by decide +kernel
theorem dL_laws_120 : decode cL_laws 120 = .ok (.bipush 8, 2) := by decide +kernel
theorem dL_laws_122 : decode cL_laws 122 = .ok (.if_icmp .ne 28, 3) := by decide +kernel
theorem dL_laws_125 : decode cL_laws 125 = .ok (.aload_n 0, 1) := by decide +kernel
theorem dL_laws_126 : decode cL_laws 126 = .ok (.iload 4, 2) := by decide +kernel
theorem dL_laws_128 : decode cL_laws 128 = .ok (.i2l, 1) := by decide +kernel
theorem dL_laws_129 : decode cL_laws 129 = .ok (.iconst 1, 1) := by decide +kernel
theorem dL_laws_130 : decode cL_laws 130 = .ok (.invokevirtual 23, 3) := by decide +kernel
theorem dL_laws_133 : decode cL_laws 133 = .ok (.bipush 9, 2) := by decide +kernel
theorem dL_laws_135 : decode cL_laws 135 = .ok (.if_icmp .ne 15, 3) := by decide +kernel
theorem dL_laws_138 : decode cL_laws 138 = .ok (.aload_n 0, 1) := by decide +kernel
theorem dL_laws_139 : decode cL_laws 139 = .ok (.invokevirtual 35, 3) := by decide +kernel
theorem dL_laws_142 : decode cL_laws 142 = .ok (.iconst 2, 1) := by decide +kernel
theorem dL_laws_143 : decode cL_laws 143 = .ok (.if_icmp .ne 7, 3) := by decide +kernel
theorem dL_laws_146 : decode cL_laws 146 = .ok (.iconst 1, 1) := by decide +kernel
theorem dL_laws_147 : decode cL_laws 147 = .ok (.goto 4, 3) := by decide +kernel
theorem dL_laws_150 : decode cL_laws 150 = .ok (.iconst 0, 1) := by decide +kernel
theorem dL_laws_151 : decode cL_laws 151 = .ok (.ireturn, 1) := by decide +kernel
theorem dL_law_0 : decode cL_law 0 = .ok (.new 14, 3) := by decide +kernel
theorem dL_law_3 : decode cL_law 3 = .ok (.dup, 1) := by decide +kernel
theorem dL_law_4 : decode cL_law 4 = .ok (.invokespecial 39, 3) := by decide +kernel
theorem dL_law_7 : decode cL_law 7 = .ok (.astore_n 1, 1) := by decide +kernel
theorem dL_law_8 : decode cL_law 8 = .ok (.aload_n 0, 1) := by decide +kernel
theorem dL_law_9 : decode cL_law 9 = .ok (.bipush 63, 2) := by decide +kernel
theorem dL_law_11 : decode cL_law 11 = .ok (.invokestatic 40, 3) := by decide +kernel
theorem dL_law_14 : decode cL_law 14 = .ok (.istore_n 2, 1) := by decide +kernel
theorem dL_law_15 : decode cL_law 15 = .ok (.aload_n 1, 1) := by decide +kernel
theorem dL_law_16 : decode cL_law 16 = .ok (.iload_n 2, 1) := by decide +kernel
theorem dL_law_17 : decode cL_law 17 = .ok (.bipush 20, 2) := by decide +kernel
theorem dL_law_19 : decode cL_law 19 = .ok (.invokestatic 44, 3) := by decide +kernel
theorem dL_law_22 : decode cL_law 22 = .ok (.iload_n 2, 1) := by decide +kernel
theorem dL_law_23 : decode cL_law 23 = .ok (.bipush 8, 2) := by decide +kernel
theorem dL_law_25 : decode cL_law 25 = .ok (.ishr, 1) := by decide +kernel
theorem dL_law_26 : decode cL_law 26 = .ok (.iconst 1, 1) := by decide +kernel
theorem dL_law_27 : decode cL_law 27 = .ok (.iand, 1) := by decide +kernel
theorem dL_law_28 : decode cL_law 28 = .ok (.ifCond .ne 8, 3) := by decide +kernel
theorem dL_law_31 : decode cL_law 31 = .ok (.bipush 82, 2) := by decide +kernel
theorem dL_law_33 : decode cL_law 33 = .ok (.goto 5, 3) := by decide +kernel
theorem dL_law_36 : decode cL_law 36 = .ok (.bipush 78, 2) := by decide +kernel
theorem dL_law_38 : decode cL_law 38 = .ok (.iload_n 2, 1) := by decide +kernel
theorem dL_law_39 : decode cL_law 39 = .ok (.iconst 4, 1) := by decide +kernel
theorem dL_law_40 : decode cL_law 40 = .ok (.ishr, 1) := by decide +kernel
theorem dL_law_41 : decode cL_law 41 = .ok (.bipush 20, 2) := by decide +kernel
theorem dL_law_43 : decode cL_law 43 = .ok (.invokestatic 44, 3) := by decide +kernel
theorem dL_law_46 : decode cL_law 46 = .ok (.iload_n 2, 1) := by decide +kernel
theorem dL_law_47 : decode cL_law 47 = .ok (.bipush 9, 2) := by decide +kernel
theorem dL_law_49 : decode cL_law 49 = .ok (.ishr, 1) := by decide +kernel
theorem dL_law_50 : decode cL_law 50 = .ok (.iconst 1, 1) := by decide +kernel
theorem dL_law_51 : decode cL_law 51 = .ok (.iand, 1) := by decide +kernel
theorem dL_law_52 : decode cL_law 52 = .ok (.ifCond .ne 8, 3) := by decide +kernel
theorem dL_law_55 : decode cL_law 55 = .ok (.bipush 82, 2) := by decide +kernel
theorem dL_law_57 : decode cL_law 57 = .ok (.goto 5, 3) := by decide +kernel
theorem dL_law_60 : decode cL_law 60 = .ok (.bipush 78, 2) := by decide +kernel
theorem dL_law_62 : decode cL_law 62 = .ok (.invokestatic 47, 3) := by decide +kernel
theorem dL_law_65 : decode cL_law 65 = .ok (.ifCond .eq 36, 3) := by decide +kernel
theorem dL_law_68 : decode cL_law 68 = .ok (.aload_n 1, 1) := by decide +kernel
theorem dL_law_69 : decode cL_law 69 = .ok (.iconst 3, 1) := by decide +kernel
theorem dL_law_70 : decode cL_law 70 = .ok (.iload_n 2, 1) := by decide +kernel
theorem dL_law_71 : decode cL_law 71 = .ok (.bipush 10, 2) := by decide +kernel
theorem dL_law_73 : decode cL_law 73 = .ok (.ishr, 1) := by decide +kernel
theorem dL_law_74 : decode cL_law 74 = .ok (.sipush 2001, 3) := by decide +kernel
theorem dL_law_77 : decode cL_law 77 = .ok (.invokestatic 44, 3) := by decide +kernel
theorem dL_law_80 : decode cL_law 80 = .ok (.invokevirtual 50, 3) := by decide +kernel
theorem dL_law_83 : decode cL_law 83 = .ok (.sipush 1000, 3) := by decide +kernel
theorem dL_law_86 : decode cL_law 86 = .ok (.if_icmp .ne 15, 3) := by decide +kernel
theorem dL_law_89 : decode cL_law 89 = .ok (.aload_n 1, 1) := by decide +kernel
theorem dL_law_90 : decode cL_law 90 = .ok (.iconst 3, 1) := by decide +kernel
theorem dL_law_91 : decode cL_law 91 = .ok (.bipush 6, 2) := by decide +kernel
theorem dL_law_93 : decode cL_law 93 = .ok (.invokevirtual 53, 3) := by decide +kernel
theorem dL_law_96 : decode cL_law 96 = .ok (.bipush (-20), 2) := by decide +kernel
theorem dL_law_98 : decode cL_law 98 = .ok (.if_icmp .ge 5, 3) := by decide +kernel
theorem dL_law_101 : decode cL_law 101 = .ok (.iconst 0, 1) := by decide +kernel
theorem dL_law_102 : decode cL_law 102 = .ok (.ireturn, 1) := by decide +kernel
theorem dL_law_103 : decode cL_law 103 = .ok (.bipush 64, 2) := by decide +kernel
theorem dL_law_105 : decode cL_law 105 = .ok (.newarray .long, 2) := by decide +kernel
theorem dL_law_107 : decode cL_law 107 = .ok (.astore_n 3, 1) := by decide +kernel
theorem dL_law_108 : decode cL_law 108 = .ok (.iconst 0, 1) := by decide +kernel
theorem dL_law_109 : decode cL_law 109 = .ok (.istore 4, 2) := by decide +kernel
theorem dL_law_111 : decode cL_law 111 = .ok (.aload_n 3, 1) := by decide +kernel
theorem dL_law_112 : decode cL_law 112 = .ok (.iconst 0, 1) := by decide +kernel
theorem dL_law_113 : decode cL_law 113 = .ok (.aload_n 1, 1) := by decide +kernel
theorem dL_law_114 : decode cL_law 114 = .ok (.iconst 0, 1) := by decide +kernel
theorem dL_law_115 : decode cL_law 115 = .ok (.invokestatic 56, 3) := by decide +kernel
theorem dL_law_118 : decode cL_law 118 = .ok (.lastore, 1) := by decide +kernel
theorem dL_law_119 : decode cL_law 119 = .ok (.iconst 0, 1) := by decide +kernel
theorem dL_law_120 : decode cL_law 120 = .ok (.istore 5, 2) := by decide +kernel
theorem dL_law_122 : decode cL_law 122 = .ok (.iload 5, 2) := by decide +kernel
theorem dL_law_124 : decode cL_law 124 = .ok (.bipush 55, 2) := by decide +kernel
theorem dL_law_126 : decode cL_law 126 = .ok (.if_icmp .ge 352, 3) := by decide +kernel
theorem dL_law_129 : decode cL_law 129 = .ok (.aload_n 0, 1) := by decide +kernel
theorem dL_law_130 : decode cL_law 130 = .ok (.iload 5, 2) := by decide +kernel
theorem dL_law_132 : decode cL_law 132 = .ok (.invokestatic 40, 3) := by decide +kernel
theorem dL_law_135 : decode cL_law 135 = .ok (.istore 6, 2) := by decide +kernel
theorem dL_law_137 : decode cL_law 137 = .ok (.iload 6, 2) := by decide +kernel
theorem dL_law_139 : decode cL_law 139 = .ok (.bipush 7, 2) := by decide +kernel
theorem dL_law_141 : decode cL_law 141 = .ok (.invokestatic 44, 3) := by decide +kernel
theorem dL_law_144 : decode cL_law 144 = .ok (.istore 7, 2) := by decide +kernel
theorem dL_law_146 : decode cL_law 146 = .ok (.aload_n 1, 1) := by decide +kernel
theorem dL_law_147 : decode cL_law 147 = .ok (.iload 4, 2) := by decide +kernel
theorem dL_law_149 : decode cL_law 149 = .ok (.iconst 1, 1) := by decide +kernel
theorem dL_law_150 : decode cL_law 150 = .ok (.invokevirtual 13, 3) := by decide +kernel
theorem dL_law_153 : decode cL_law 153 = .ok (.istore 8, 2) := by decide +kernel
theorem dL_law_155 : decode cL_law 155 = .ok (.aload_n 1, 1) := by decide +kernel
theorem dL_law_156 : decode cL_law 156 = .ok (.iload 4, 2) := by decide +kernel
theorem dL_law_158 : decode cL_law 158 = .ok (.iconst 4, 1) := by decide +kernel
theorem dL_law_159 : decode cL_law 159 = .ok (.invokevirtual 13, 3) := by decide +kernel
theorem dL_law_162 : decode cL_law 162 = .ok (.ifCond .lt 7, 3) := by decide +kernel
theorem dL_law_165 : decode cL_law 165 = .ok (.iconst 4, 1) := by decide +kernel
theorem dL_law_166 : decode cL_law 166 = .ok (.goto 21, 3) := by decide +kernel
theorem dL_law_169 : decode cL_law 169 = .ok (.iload 8, 2) := by decide +kernel
theorem dL_law_171 : decode cL_law 171 = .ok (.ifCond .ge 14, 3) := by decide +kernel
theorem dL_law_174 : decode cL_law 174 = .ok (.iload 7, 2) := by decide +kernel
theorem dL_law_176 : decode cL_law 176 = .ok (.bipush 6, 2) := by decide +kernel
theorem dL_law_178 : decode cL_law 178 = .ok (.if_icmp .eq 7, 3) := by decide +kernel
theorem dL_law_181 : decode cL_law 181 = .ok (.iconst 0, 1) := by decide +kernel
theorem dL_law_182 : decode cL_law 182 = .ok (.goto 5, 3) := by decide +kernel
theorem dL_law_185 : decode cL_law 185 = .ok (.iload 7, 2) := by decide +kernel
theorem dL_law_187 : decode cL_law 187 = .ok (.istore 7, 2) := by decide +kernel
theorem dL_law_189 : decode cL_law 189 = .ok (.aload_n 1, 1) := by decide +kernel
theorem dL_law_190 : decode cL_law 190 = .ok (.iload 7, 2) := by decide +kernel
theorem dL_law_192 : decode cL_law 192 = .ok (.iload 6, 2) := by decide +kernel
theorem dL_law_194 : decode cL_law 194 = .ok (.iconst 3, 1) := by decide +kernel
theorem dL_law_195 : decode cL_law 195 = .ok (.ishr, 1) := by decide +kernel
theorem dL_law_196 : decode cL_law 196 = .ok (.iconst 4, 1) := by decide +kernel
theorem dL_law_197 : decode cL_law 197 = .ok (.invokestatic 44, 3) := by decide +kernel
theorem dL_law_200 : decode cL_law 200 = .ok (.invokevirtual 60, 3) := by decide +kernel
theorem dL_law_203 : decode cL_law 203 = .ok (.istore 9, 2) := by decide +kernel
theorem dL_law_205 : decode cL_law 205 = .ok (.iload 9, 2) := by decide +kernel
theorem dL_law_207 : decode cL_law 207 = .ok (.ifCond .lt 51, 3) := by decide +kernel
theorem dL_law_210 : decode cL_law 210 = .ok (.iload 9, 2) := by decide +kernel
theorem dL_law_212 : decode cL_law 212 = .ok (.iload 4, 2) := by decide +kernel
theorem dL_law_214 : decode cL_law 214 = .ok (.if_icmp .ne 15, 3) := by decide +kernel
theorem dL_law_217 : decode cL_law 217 = .ok (.aload_n 1, 1) := by decide +kernel
theorem dL_law_218 : decode cL_law 218 = .ok (.iconst 0, 1) := by decide +kernel
theorem dL_law_219 : decode cL_law 219 = .ok (.invokevirtual 63, 3) := by decide +kernel
theorem dL_law_222 : decode cL_law 222 = .ok (.iload 4, 2) := by decide +kernel
theorem dL_law_224 : decode cL_law 224 = .ok (.iconst 1, 1) := by decide +kernel
theorem dL_law_225 : decode cL_law 225 = .ok (.iadd, 1) := by decide +kernel
theorem dL_law_226 : decode cL_law 226 = .ok (.if_icmp .eq 5, 3) := by decide +kernel
theorem dL_law_229 : decode cL_law 229 = .ok (.iconst 0, 1) := by decide +kernel
theorem dL_law_230 : decode cL_law 230 = .ok (.ireturn, 1) := by decide +kernel
theorem dL_law_231 : decode cL_law 231 = .ok (.iload 4, 2) := by decide +kernel
theorem dL_law_233 : decode cL_law 233 = .ok (.iconst 1, 1) := by decide +kernel
theorem dL_law_234 : decode cL_law 234 = .ok (.iadd, 1) := by decide +kernel
theorem dL_law_235 : decode cL_law 235 = .ok (.istore 4, 2) := by decide +kernel
theorem dL_law_237 : decode cL_law 237 = .ok (.aload_n 3, 1) := by decide +kernel
theorem dL_law_238 : decode cL_law 238 = .ok (.iload 4, 2) := by decide +kernel
theorem dL_law_240 : decode cL_law 240 = .ok (.aload_n 1, 1) := by decide +kernel
theorem dL_law_241 : decode cL_law 241 = .ok (.iload 4, 2) := by decide +kernel
theorem dL_law_243 : decode cL_law 243 = .ok (.invokestatic 56, 3) := by decide +kernel
theorem dL_law_246 : decode cL_law 246 = .ok (.lastore, 1) := by decide +kernel
theorem dL_law_247 : decode cL_law 247 = .ok (.aload_n 3, 1) := by decide +kernel
theorem dL_law_248 : decode cL_law 248 = .ok (.iload 4, 2) := by decide +kernel
theorem dL_law_250 : decode cL_law 250 = .ok (.laload, 1) := by decide +kernel
theorem dL_law_251 : decode cL_law 251 = .ok (.lconst 0, 1) := by decide +kernel
theorem dL_law_252 : decode cL_law 252 = .ok (.lcmp, 1) := by decide +kernel
theorem dL_law_253 : decode cL_law 253 = .ok (.ifCond .ge 5, 3) := by decide +kernel
theorem dL_law_256 : decode cL_law 256 = .ok (.iconst 0, 1) := by decide +kernel
theorem dL_law_257 : decode cL_law 257 = .ok (.ireturn, 1) := by decide +kernel
theorem dL_law_258 : decode cL_law 258 = .ok (.iload 6, 2) := by decide +kernel
theorem dL_law_260 : decode cL_law 260 = .ok (.bipush 6, 2) := by decide +kernel
theorem dL_law_262 : decode cL_law 262 = .ok (.ishr, 1) := by decide +kernel
theorem dL_law_263 : decode cL_law 263 = .ok (.iconst 4, 1) := by decide +kernel
theorem dL_law_264 : decode cL_law 264 = .ok (.invokestatic 44, 3) := by decide +kernel
theorem dL_law_267 : decode cL_law 267 = .ok (.ifCond .ne 161, 3) := by decide +kernel
theorem dL_law_270 : decode cL_law 270 = .ok (.iload 4, 2) := by decide +kernel
theorem dL_law_272 : decode cL_law 272 = .ok (.ifCond .le 156, 3) := by decide +kernel
theorem dL_law_275 : decode cL_law 275 = .ok (.iload 6, 2) := by decide +kernel
theorem dL_law_277 : decode cL_law 277 = .ok (.bipush 8, 2) := by decide +kernel
theorem dL_law_279 : decode cL_law 279 = .ok (.ishr, 1) := by decide +kernel
theorem dL_law_280 : decode cL_law 280 = .ok (.iload 4, 2) := by decide +kernel
theorem dL_law_282 : decode cL_law 282 = .ok (.invokestatic 44, 3) := by decide +kernel
theorem dL_law_285 : decode cL_law 285 = .ok (.istore 10, 2) := by decide +kernel
theorem dL_law_287 : decode cL_law 287 = .ok (.aload_n 1, 1) := by decide +kernel
theorem dL_law_288 : decode cL_law 288 = .ok (.iload 10, 2) := by decide +kernel
theorem dL_law_290 : decode cL_law 290 = .ok (.iconst 3, 1) := by decide +kernel
theorem dL_law_291 : decode cL_law 291 = .ok (.invokevirtual 67, 3) := by decide +kernel
theorem dL_law_294 : decode cL_law 294 = .ok (.iconst 1, 1) := by decide +kernel
theorem dL_law_295 : decode cL_law 295 = .ok (.if_icmp .ne 7, 3) := by decide +kernel
theorem dL_law_298 : decode cL_law 298 = .ok (.iconst 1, 1) := by decide +kernel
theorem dL_law_299 : decode cL_law 299 = .ok (.goto 4, 3) := by decide +kernel
theorem dL_law_302 : decode cL_law 302 = .ok (.iconst 0, 1) := by decide +kernel
theorem dL_law_303 : decode cL_law 303 = .ok (.istore 11, 2) := by decide +kernel
theorem dL_law_305 : decode cL_law 305 = .ok (.aload_n 1, 1) := by decide +kernel
theorem dL_law_306 : decode cL_law 306 = .ok (.iload 10, 2) := by decide +kernel
theorem dL_law_308 : decode cL_law 308 = .ok (.iconst 0, 1) := by decide +kernel
theorem dL_law_309 : decode cL_law 309 = .ok (.invokevirtual 67, 3) := by decide +kernel
theorem dL_law_312 : decode cL_law 312 = .ok (.istore 12, 2) := by decide +kernel
theorem dL_law_314 : decode cL_law 314 = .ok (.aload_n 1, 1) := by decide +kernel
theorem dL_law_315 : decode cL_law 315 = .ok (.iload 10, 2) := by decide +kernel
theorem dL_law_317 : decode cL_law 317 = .ok (.invokevirtual 69, 3) := by decide +kernel
theorem dL_law_320 : decode cL_law 320 = .ok (.istore 13, 2) := by decide +kernel
theorem dL_law_322 : decode cL_law 322 = .ok (.iload 13, 2) := by decide +kernel
theorem dL_law_324 : decode cL_law 324 = .ok (.bipush (-2), 2) := by decide +kernel
theorem dL_law_326 : decode cL_law 326 = .ok (.if_icmp .eq 8, 3) := by decide +kernel
theorem dL_law_329 : decode cL_law 329 = .ok (.iload 11, 2) := by decide +kernel
theorem dL_law_331 : decode cL_law 331 = .ok (.ifCond .eq 9, 3) := by decide +kernel
theorem dL_law_334 : decode cL_law 334 = .ok (.iload 13, 2) := by decide +kernel
theorem dL_law_336 : decode cL_law 336 = .ok (.iconst (-1), 1) := by decide +kernel
theorem dL_law_337 : decode cL_law 337 = .ok (.if_icmp .ne 5, 3) := by decide +kernel
theorem dL_law_340 : decode cL_law 340 = .ok (.iconst 0, 1) := by decide +kernel
theorem dL_law_341 : decode cL_law 341 = .ok (.ireturn, 1) := by decide +kernel
theorem dL_law_342 : decode cL_law 342 = .ok (.iload 13, 2) := by decide +kernel
theorem dL_law_344 : decode cL_law 344 = .ok (.iconst 1, 1) := by decide +kernel
theorem dL_law_345 : decode cL_law 345 = .ok (.if_icmp .ne 31, 3) := by decide +kernel
theorem dL_law_348 : decode cL_law 348 = .ok (.iload 10, 2) := by decide +kernel
theorem dL_law_350 : decode cL_law 350 = .ok (.istore 4, 2) := by decide +kernel
theorem dL_law_352 : decode cL_law 352 = .ok (.aload_n 1, 1) := by decide +kernel
theorem dL_law_353 : decode cL_law 353 = .ok (.iload 4, 2) := by decide +kernel
theorem dL_law_355 : decode cL_law 355 = .ok (.iconst 1, 1) := by decide +kernel
theorem dL_law_356 : decode cL_law 356 = .ok (.invokevirtual 13, 3) := by decide +kernel
theorem dL_law_359 : decode cL_law 359 = .ok (.bipush (-4), 2) := by decide +kernel
theorem dL_law_361 : decode cL_law 361 = .ok (.if_icmp .ne 13, 3) := by decide +kernel
theorem dL_law_364 : decode cL_law 364 = .ok (.aload_n 1, 1) := by decide +kernel
theorem dL_law_365 : decode cL_law 365 = .ok (.iload 4, 2) := by decide +kernel
theorem dL_law_367 : decode cL_law 367 = .ok (.iconst 2, 1) := by decide +kernel
theorem dL_law_368 : decode cL_law 368 = .ok (.invokevirtual 13, 3) := by decide +kernel
theorem dL_law_371 : decode cL_law 371 = .ok (.ifCond .eq 5, 3) := by decide +kernel
theorem dL_law_374 : decode cL_law 374 = .ok (.iconst 0, 1) := by decide +kernel
theorem dL_law_375 : decode cL_law 375 = .ok (.ireturn, 1) := by decide +kernel
theorem dL_law_376 : decode cL_law 376 = .ok (.iload 13, 2) := by decide +kernel
theorem dL_law_378 : decode cL_law 378 = .ok (.iconst 2, 1) := by decide +kernel
theorem dL_law_379 : decode cL_law 379 = .ok (.if_icmp .ne 39, 3) := by decide +kernel
theorem dL_law_382 : decode cL_law 382 = .ok (.aload_n 1, 1) := by decide +kernel
theorem dL_law_383 : decode cL_law 383 = .ok (.iload 10, 2) := by decide +kernel
theorem dL_law_385 : decode cL_law 385 = .ok (.iconst 3, 1) := by decide +kernel
theorem dL_law_386 : decode cL_law 386 = .ok (.invokevirtual 67, 3) := by decide +kernel
theorem dL_law_389 : decode cL_law 389 = .ok (.ifCond .ne 27, 3) := by decide +kernel
theorem dL_law_392 : decode cL_law 392 = .ok (.aload_n 1, 1) := by decide +kernel
theorem dL_law_393 : decode cL_law 393 = .ok (.iload 10, 2) := by decide +kernel
theorem dL_law_395 : decode cL_law 395 = .ok (.iconst 0, 1) := by decide +kernel
theorem dL_law_396 : decode cL_law 396 = .ok (.invokevirtual 67, 3) := by decide +kernel
theorem dL_law_399 : decode cL_law 399 = .ok (.iload 12, 2) := by decide +kernel
theorem dL_law_401 : decode cL_law 401 = .ok (.if_icmp .ne 15, 3) := by decide +kernel
theorem dL_law_404 : decode cL_law 404 = .ok (.aload_n 1, 1) := by decide +kernel
theorem dL_law_405 : decode cL_law 405 = .ok (.iload 4, 2) := by decide +kernel
theorem dL_law_407 : decode cL_law 407 = .ok (.iconst 1, 1) := by decide +kernel
theorem dL_law_408 : decode cL_law 408 = .ok (.invokevirtual 13, 3) := by decide +kernel
theorem dL_law_411 : decode cL_law 411 = .ok (.bipush (-4), 2) := by decide +kernel
theorem dL_law_413 : decode cL_law 413 = .ok (.if_icmp .eq 5, 3) := by decide +kernel
theorem dL_law_416 : decode cL_law 416 = .ok (.iconst 0, 1) := by decide +kernel
theorem dL_law_417 : decode cL_law 417 = .ok (.ireturn, 1) := by decide +kernel
theorem dL_law_418 : decode cL_law 418 = .ok (.aload_n 3, 1) := by decide +kernel
theorem dL_law_419 : decode cL_law 419 = .ok (.iload 4, 2) := by decide +kernel
theorem dL_law_421 : decode cL_law 421 = .ok (.aload_n 1, 1) := by decide +kernel
theorem dL_law_422 : decode cL_law 422 = .ok (.iload 4, 2) := by decide +kernel
theorem dL_law_424 : decode cL_law 424 = .ok (.invokestatic 56, 3) := by decide +kernel
theorem dL_law_427 : decode cL_law 427 = .ok (.lastore, 1) := by decide +kernel
theorem dL_law_428 : decode cL_law 428 = .ok (.aload_n 1, 1) := by decide +kernel
theorem dL_law_429 : decode cL_law 429 = .ok (.iconst 0, 1) := by decide +kernel
theorem dL_law_430 : decode cL_law 430 = .ok (.invokevirtual 63, 3) := by decide +kernel
theorem dL_law_433 : decode cL_law 433 = .ok (.iload 4, 2) := by decide +kernel
theorem dL_law_435 : decode cL_law 435 = .ok (.if_icmp .eq 5, 3) := by decide +kernel
theorem dL_law_438 : decode cL_law 438 = .ok (.iconst 0, 1) := by decide +kernel
theorem dL_law_439 : decode cL_law 439 = .ok (.ireturn, 1) := by decide +kernel
theorem dL_law_440 : decode cL_law 440 = .ok (.iconst 0, 1) := by decide +kernel
theorem dL_law_441 : decode cL_law 441 = .ok (.istore 10, 2) := by decide +kernel
theorem dL_law_443 : decode cL_law 443 = .ok (.iload 10, 2) := by decide +kernel
theorem dL_law_445 : decode cL_law 445 = .ok (.iload 4, 2) := by decide +kernel
theorem dL_law_447 : decode cL_law 447 = .ok (.if_icmp .gt 25, 3) := by decide +kernel
theorem dL_law_450 : decode cL_law 450 = .ok (.aload_n 1, 1) := by decide +kernel
theorem dL_law_451 : decode cL_law 451 = .ok (.iload 10, 2) := by decide +kernel
theorem dL_law_453 : decode cL_law 453 = .ok (.invokestatic 56, 3) := by decide +kernel
theorem dL_law_456 : decode cL_law 456 = .ok (.aload_n 3, 1) := by decide +kernel
theorem dL_law_457 : decode cL_law 457 = .ok (.iload 10, 2) := by decide +kernel
theorem dL_law_459 : decode cL_law 459 = .ok (.laload, 1) := by decide +kernel
theorem dL_law_460 : decode cL_law 460 = .ok (.lcmp, 1) := by decide +kernel
theorem dL_law_461 : decode cL_law 461 = .ok (.ifCond .eq 5, 3) := by decide +kernel
theorem dL_law_464 : decode cL_law 464 = .ok (.iconst 0, 1) := by decide +kernel
theorem dL_law_465 : decode cL_law 465 = .ok (.ireturn, 1) := by decide +kernel
theorem dL_law_466 : decode cL_law 466 = .ok (.iinc 10 1, 3) := by decide +kernel
theorem dL_law_469 : decode cL_law 469 = .ok (.goto (-26), 3) := by decide +kernel
theorem dL_law_472 : decode cL_law 472 = .ok (.iinc 5 1, 3) := by decide +kernel
theorem dL_law_475 : decode cL_law 475 = .ok (.goto (-353), 3) := by decide +kernel
theorem dL_law_478 : decode cL_law 478 = .ok (.iconst 0, 1) := by decide +kernel
theorem dL_law_479 : decode cL_law 479 = .ok (.istore 5, 2) := by decide +kernel
theorem dL_law_481 : decode cL_law 481 = .ok (.iconst 0, 1) := by decide +kernel
theorem dL_law_482 : decode cL_law 482 = .ok (.istore 6, 2) := by decide +kernel
theorem dL_law_484 : decode cL_law 484 = .ok (.iload 6, 2) := by decide +kernel
theorem dL_law_486 : decode cL_law 486 = .ok (.iload 4, 2) := by decide +kernel
theorem dL_law_488 : decode cL_law 488 = .ok (.if_icmp .ge 80, 3) := by decide +kernel
theorem dL_law_491 : decode cL_law 491 = .ok (.iload 5, 2) := by decide +kernel
theorem dL_law_493 : decode cL_law 493 = .ok (.aload_n 1, 1) := by decide +kernel
theorem dL_law_494 : decode cL_law 494 = .ok (.iload 6, 2) := by decide +kernel
theorem dL_law_496 : decode cL_law 496 = .ok (.iconst 3, 1) := by decide +kernel
theorem dL_law_497 : decode cL_law 497 = .ok (.invokevirtual 67, 3) := by decide +kernel
theorem dL_law_500 : decode cL_law 500 = .ok (.iadd, 1) := by decide +kernel
theorem dL_law_501 : decode cL_law 501 = .ok (.istore 5, 2) := by decide +kernel
theorem dL_law_503 : decode cL_law 503 = .ok (.iconst 0, 1) := by decide +kernel
theorem dL_law_504 : decode cL_law 504 = .ok (.istore 7, 2) := by decide +kernel
theorem dL_law_506 : decode cL_law 506 = .ok (.iload 7, 2) := by decide +kernel
theorem dL_law_508 : decode cL_law 508 = .ok (.iconst 4, 1) := by decide +kernel
theorem dL_law_509 : decode cL_law 509 = .ok (.if_icmp .ge 53, 3) := by decide +kernel
theorem dL_law_512 : decode cL_law 512 = .ok (.aload_n 1, 1) := by decide +kernel
theorem dL_law_513 : decode cL_law 513 = .ok (.iload 6, 2) := by decide +kernel
theorem dL_law_515 : decode cL_law 515 = .ok (.iconst 5, 1) := by decide +kernel
theorem dL_law_516 : decode cL_law 516 = .ok (.iload 7, 2) := by decide +kernel
theorem dL_law_518 : decode cL_law 518 = .ok (.iadd, 1) := by decide +kernel
theorem dL_law_519 : decode cL_law 519 = .ok (.invokevirtual 13, 3) := by decide +kernel
theorem dL_law_522 : decode cL_law 522 = .ok (.istore 8, 2) := by decide +kernel
theorem dL_law_524 : decode cL_law 524 = .ok (.aload_n 1, 1) := by decide +kernel
theorem dL_law_525 : decode cL_law 525 = .ok (.iload 6, 2) := by decide +kernel
theorem dL_law_527 : decode cL_law 527 = .ok (.iconst 1, 1) := by decide +kernel
theorem dL_law_528 : decode cL_law 528 = .ok (.iadd, 1) := by decide +kernel
theorem dL_law_529 : decode cL_law 529 = .ok (.iconst 5, 1) := by decide +kernel
theorem dL_law_530 : decode cL_law 530 = .ok (.iload 7, 2) := by decide +kernel
theorem dL_law_532 : decode cL_law 532 = .ok (.iadd, 1) := by decide +kernel
theorem dL_law_533 : decode cL_law 533 = .ok (.invokevirtual 13, 3) := by decide +kernel
theorem dL_law_536 : decode cL_law 536 = .ok (.istore 9, 2) := by decide +kernel
theorem dL_law_538 : decode cL_law 538 = .ok (.iload 9, 2) := by decide +kernel
theorem dL_law_540 : decode cL_law 540 = .ok (.iload 8, 2) := by decide +kernel
theorem dL_law_542 : decode cL_law 542 = .ok (.if_icmp .eq 14, 3) := by decide +kernel
theorem dL_law_545 : decode cL_law 545 = .ok (.iload 9, 2) := by decide +kernel
theorem dL_law_547 : decode cL_law 547 = .ok (.iload 8, 2) := by decide +kernel
theorem dL_law_549 : decode cL_law 549 = .ok (.iconst 1, 1) := by decide +kernel
theorem dL_law_550 : decode cL_law 550 = .ok (.iadd, 1) := by decide +kernel
theorem dL_law_551 : decode cL_law 551 = .ok (.if_icmp .eq 5, 3) := by decide +kernel
theorem dL_law_554 : decode cL_law 554 = .ok (.iconst 0, 1) := by decide +kernel
theorem dL_law_555 : decode cL_law 555 = .ok (.ireturn, 1) := by decide +kernel
theorem dL_law_556 : decode cL_law 556 = .ok (.iinc 7 1, 3) := by decide +kernel
theorem dL_law_559 : decode cL_law 559 = .ok (.goto (-53), 3) := by decide +kernel
theorem dL_law_562 : decode cL_law 562 = .ok (.iinc 6 1, 3) := by decide +kernel
theorem dL_law_565 : decode cL_law 565 = .ok (.goto (-81), 3) := by decide +kernel
theorem dL_law_568 : decode cL_law 568 = .ok (.aload_n 1, 1) := by decide +kernel
theorem dL_law_569 : decode cL_law 569 = .ok (.iconst 1, 1) := by decide +kernel
theorem dL_law_570 : decode cL_law 570 = .ok (.invokevirtual 63, 3) := by decide +kernel
theorem dL_law_573 : decode cL_law 573 = .ok (.iload 5, 2) := by decide +kernel
theorem dL_law_575 : decode cL_law 575 = .ok (.if_icmp .ne 7, 3) := by decide +kernel
theorem dL_law_578 : decode cL_law 578 = .ok (.iconst 1, 1) := by decide +kernel
theorem dL_law_579 : decode cL_law 579 = .ok (.goto 4, 3) := by decide +kernel
theorem dL_law_582 : decode cL_law 582 = .ok (.iconst 0, 1) := by decide +kernel
theorem dL_law_583 : decode cL_law 583 = .ok (.ireturn, 1) := by decide +kernel
end
section
/-! THE LAYER: a method's frame over one world of fixed shape.
  σ: object number, slot -> int. Λ: what the objects are (arrays, objects with their references). q_G: 'from here the machine comes to the method's end with E' (E none: nothing is said). q_Ex: the contract of a method. -/
/-- the words that a callee is given: all but those of nest mates, which come beside -/
def lw_gd : List Cond := lw_tbl.filter goodWord
def q_nests : List (String × Nat × MethodName) := [("CroquetLawn", 11, ⟨"CroquetLawn$Play", "<init>", "()V"⟩), ("CroquetLawn$Play", 35, ⟨"CroquetLawn$Position", "<init>", "()V"⟩), ("CroquetLawn$Laws", 27, ⟨"CroquetLawn", "set", "([III)V"⟩), ("CroquetLawn$Roster", 21, ⟨"CroquetLawn", "at", "([II)I"⟩), ("CroquetLawn$Play", 43, ⟨"CroquetLawn", "set", "([III)V"⟩), ("CroquetLawn$Position", 24, ⟨"CroquetLawn", "set", "([III)V"⟩), ("CroquetLawn$Position", 61, ⟨"CroquetLawn", "at", "([II)I"⟩), ("CroquetLawn$Play", 69, ⟨"CroquetLawn", "at", "([II)I"⟩), ("CroquetLawn$Laws", 31, ⟨"CroquetLawn", "at", "([II)I"⟩), ("CroquetLawn$Roster", 25, ⟨"CroquetLawn", "set", "([III)V"⟩), ("CroquetLawn$Laws", 35, ⟨"CroquetLawn", "within", "(III)Z"⟩)]
abbrev Sg : Type := Nat → Nat → Int32
abbrev Rs : Type := Option (Sg × Int32)
def q_wr (σ : Sg) (o k : Nat) (v : Int32) : Sg := fun o' => if o' = o then upd (σ o) k v else σ o'
def q_clr (σ : Sg) (o : Nat) : Sg := fun o' => if o' = o then (fun _ => 0) else σ o'
def q_bnd (x : Rs) (f : Sg → Int32 → Rs) : Rs := match x with
  | none => none
  | some (s, r) => f s r
abbrev q_Kd : Type := (Bool × Nat) ⊕ (Nat × List (Option (Option Nat)))
abbrev q_Lay : Type := List q_Kd
abbrev q_Cx : Type := Launch × va_G × (ClassId × ClassId) × (Nat → Nat) × Nat × Nat
abbrev xl (X : q_Cx) : Launch := X.1
abbrev xD (X : q_Cx) : va_G := X.2.1
abbrev xI (X : q_Cx) : ClassId := X.2.2.1.1
abbrev xZ (X : q_Cx) : ClassId := X.2.2.1.2
abbrev xa (X : q_Cx) : Nat → Nat := X.2.2.2.1
abbrev xb (X : q_Cx) : Nat := X.2.2.2.2.1
abbrev xn (X : q_Cx) : Nat := X.2.2.2.2.2
def q_fv (X : q_Cx) (σ : Sg) (o k : Nat) (r : Option (Option Nat)) : Value := match r with
  | none => .int (σ o k)
  | some none => .null
  | some (some t) => .ref (xa X t)
/-- a long in two cells -/
def q_hi (v : Int64) : Int32 := Int32.ofBitVec (v.toBitVec.extractLsb' 32 32)
def q_lo (v : Int64) : Int32 := Int32.ofBitVec (v.toBitVec.extractLsb' 0 32)
def q_jn (h l : Int32) : Int64 := Int64.ofBitVec (h.toBitVec ++ l.toBitVec)
def q_lg (σ : Sg) (o k : Nat) : Int64 := q_jn (σ o (2 * k)) (σ o (2 * k + 1))
def q_wrl (σ : Sg) (o k : Nat) (v : Int64) : Sg := q_wr (q_wr σ o (2 * k) (q_hi v)) o (2 * k + 1) (q_lo v)
theorem q_hl (v : Int64) : q_jn (q_hi v) (q_lo v) = v := by
  have h : (v.toBitVec.extractLsb' 32 32 ++ v.toBitVec.extractLsb' 0 32 : BitVec 64) = v.toBitVec := by
    apply BitVec.eq_of_getLsbD_eq
    intro i hi
    rw [BitVec.getLsbD_append]
    by_cases h : i < 32
    · simp [BitVec.getLsbD_extractLsb', h]
    · have h2 : i - 32 < 32 := by omega
      have h3 : 32 + (i - 32) = i := by omega
      simp [BitVec.getLsbD_extractLsb', h, h2, h3]
  show Int64.ofBitVec (v.toBitVec.extractLsb' 32 32 ++ v.toBitVec.extractLsb' 0 32) = v
  exact congrArg Int64.ofBitVec h
theorem q_lg_wrl (σ : Sg) (o k : Nat) (v : Int64) : q_lg (q_wrl σ o k v) o k = v := by
  have e0 : q_wrl σ o k v o (2 * k) = q_hi v := by simp [q_wrl, q_wr, upd, show 2 * k ≠ 2 * k + 1 by omega]
  have e1 : q_wrl σ o k v o (2 * k + 1) = q_lo v := by simp [q_wrl, q_wr, upd]
  rw [q_lg, e0, e1, q_hl]
theorem q_lg_wrl_ne (σ : Sg) (o k j : Nat) (v : Int64) (h : j ≠ k) : q_lg (q_wrl σ o k v) o j = q_lg σ o j := by
  have e0 : q_wrl σ o k v o (2 * j) = σ o (2 * j) := by simp [q_wrl, q_wr, upd, show 2 * j ≠ 2 * k + 1 by omega, show 2 * j ≠ 2 * k by omega]
  have e1 : q_wrl σ o k v o (2 * j + 1) = σ o (2 * j + 1) := by simp [q_wrl, q_wr, upd, show 2 * j + 1 ≠ 2 * k + 1 by omega, show 2 * j ≠ 2 * k by omega, show 2 * j + 1 ≠ 2 * k by omega]
  rw [q_lg, e0, e1, q_lg]
theorem q_wrl_ne {σ : Sg} {o o' k : Nat} {v : Int64} (h : o' ≠ o) : q_wrl σ o k v o' = σ o' := by simp [q_wrl, q_wr, h]
theorem q_lg_clr (σ : Sg) (o k : Nat) : q_lg (q_clr σ o) o k = 0 := by
  have e : ∀ j, q_clr σ o o j = 0 := fun j => by simp [q_clr]
  rw [q_lg, e, e]
  decide
theorem q_lg_o {σ σ' : Sg} {o : Nat} (h : σ' o = σ o) (k : Nat) : q_lg σ' o k = q_lg σ o k := by rw [q_lg, q_lg, h]
def q_cell (X : q_Cx) (σ : Sg) (o : Nat) (k : q_Kd) : va_E := match k with
  | .inl (false, n) => .inl (xI X, n, .inl (σ o))
  | .inl (true, n) => .inl (xZ X, n, .inr (.inl (q_lg σ o)))
  | .inr (c, fs) => .inr (c, fs.mapIdx (fun k r => q_fv X σ o k r))
def q_W (X : q_Cx) (Λ : q_Lay) (σ : Sg) : va_W := Λ.mapIdx (fun o k => (xa X o, q_cell X σ o k))
def q_A (X : q_Cx) : Nat → Prop := fun q => xb X ≤ q
def q_FX (X : q_Cx) (U : State) : Prop := va_K (xD X) vwCl [(xI X, .int), (xZ X, .long)] U ∧ (∀ q ∈ q_nests, va_Nw (.methodLinkNest q.1 q.2.1 q.2.2 "CroquetLawn") U) ∧ ∀ o, o < 64 → xa X o = xb X + o
def q_ST (X : q_Cx) (σ : Sg) (U : State) (H : Heap) : Prop := va_T .int (xa X 105) (xn X) (fun i => .int (σ 105 i)) (q_A X) U H
def q_INV (X : q_Cx) (Λ : q_Lay) (σ : Sg) (U : State) : Prop := va_P (xD X) vwCl (q_W X Λ σ) U.heap ∧ U.heap.size = xb X + Λ.length ∧ Λ.length ≤ 64 ∧ q_FX X U ∧ q_ST X σ U U.heap
abbrev q_Mt : Type := MethodName × ByteArray × Nat × Option FieldType × Room
/-- a method's answer; a long one stands in the cells 200, 0 and 1 -/
def q_rv (t : Option FieldType) (σ : Sg) (r : Int32) : Option Value := match t with
  | none => none
  | some .long => some (.long (q_lg σ 200 0))
  | some _ => some (.int r)
def q_ws (M : q_Mt) : List Cond := Cond.code M.1 M.2.1 M.2.2.1 M.2.2.2.1 :: lw_gd
def q_QE (X : q_Cx) (Λe : q_Lay) (M : q_Mt) (E : Rs) : Array Value → State → Outcome → State → Prop := fun _ st oc t => ∃ (σ' : Sg) (r : Int32), E = some (σ', r) ∧ oc = .returned (q_rv M.2.2.2.1 σ' r) ∧ q_INV X Λe σ' t ∧ va_F (q_A X) st t
def q_Ex (X : q_Cx) (M : q_Mt) (Λ Λe : q_Lay) (args : List Value) (σ : Sg) (E : Rs) : Prop := Met (xl X) M.1 (q_ws M) M.2.2.2.2 (va_Pc args (fun U => (∃ x, E = some x) ∧ q_INV X Λ σ U)) (q_QE X Λe M E) M.2.2.2.2.cells M.2.2.2.2.slots (q_A X)
def q_MC (X : q_Cx) (M : q_Mt) (p : Program) (s : State) (m : MethodId) (args : Array Value) (meth : Method) (c : Code) : Prop := p.tables.exec = Jvm.exec ∧ c.code = M.2.1 ∧ meth.sig.returnType = M.2.2.2.1 ∧ c.maxLocals = M.2.2.1 ∧ s.vm.findClass M.1.cls = some m.cls ∧ (∀ w ∈ lw_gd, w.before args s = true) ∧ meth.locks = false ∧ (M.1.name = "<init>" → meth.name = "<init>") ∧ q_FX X s
abbrev q_Fin : Type := Rs → List Frame → Array Value → State → State → Prop
def q_QM (X : q_Cx) (Λe : q_Lay) (M : q_Mt) : q_Fin := fun E below args s => MQ below (q_QE X Λe M E) args s M.2.2.2.2.cells M.2.2.2.2.slots (q_A X)
def q_G (X : q_Cx) (M : q_Mt) (Q : q_Fin) (ph : q_Lay × Nat × Nat) (σ : Sg) (pc : Nat) (l : List (Nat × Value)) (st : List Value) (E : Rs) : Prop :=
  (∃ x, E = some x) → ∀ (p : Program) (e : Env) (s : State) (m : MethodId) (args : Array Value) (below : List Frame) (meth : Method) (c : Code) (H : Heap) (locs : List Loc) (ls : Array Slot), q_MC X M p s m args meth c →
    va_P (xD X) vwCl (q_W X ph.1 σ) H → H.size = xb X + ph.1.length → ph.1.length ≤ 64 → q_ST X σ s s.heap → va_S (q_A X) s.heap H locs → lv_has ls M.2.2.1 l →
    W p (xl X) e M.2.2.2.2 s m args below meth c H locs ph.2.1 ph.2.2 (Q E below args s) (F0 m pc ls st)
/-! the world -/
theorem q_Wget {X : q_Cx} {Λ : q_Lay} {σ : Sg} {o : Nat} {k : q_Kd} (h : Λ[o]? = some k) : (q_W X Λ σ)[o]? = some (xa X o, q_cell X σ o k) := by
  simp [q_W, h]
theorem q_Wlen (X : q_Cx) (Λ : q_Lay) (σ : Sg) : (q_W X Λ σ).length = Λ.length := by simp [q_W]
theorem q_Wat {X : q_Cx} {Λ : q_Lay} {σ : Sg} {o : Nat} {q : Nat × va_E} (h : (q_W X Λ σ)[o]? = some q) : o < Λ.length ∧ q.1 = xa X o := by
  have hl : o < (q_W X Λ σ).length := (List.getElem?_eq_some_iff.mp h).1
  rw [q_Wlen] at hl
  refine ⟨hl, ?_⟩
  rw [q_Wget (List.getElem?_eq_getElem hl)] at h
  exact (congrArg Prod.fst (Option.some.inj h)).symm
theorem q_D {X : q_Cx} {Λ : q_Lay} {σ : Sg} (ha : ∀ o, o < 64 → xa X o = xb X + o) (hl : Λ.length ≤ 64) : va_D (q_A X) (q_W X Λ σ) := by
  refine ⟨fun i j p q hi hj hpq => ?_, fun k q hk => ?_⟩
  · obtain ⟨a1, a2⟩ := q_Wat hi
    obtain ⟨b1, b2⟩ := q_Wat hj
    have h1 := ha i (by omega)
    have h2 := ha j (by omega)
    omega
  · obtain ⟨a1, a2⟩ := q_Wat hk
    have h1 := ha k (by omega)
    show xb X ≤ q.1
    omega
theorem q_wr_ne {σ : Sg} {o o' k : Nat} {v : Int32} (h : o' ≠ o) : q_wr σ o k v o' = σ o' := by simp [q_wr, h]
theorem q_cell_ne {X : q_Cx} {σ σ' : Sg} {o : Nat} {k : q_Kd} (h : σ' o = σ o) : q_cell X σ' o k = q_cell X σ o k := by
  rcases k with ⟨z, n⟩ | ⟨c, fs⟩
  · cases z with
    | false => simp [q_cell, h]
    | true =>
      have e : q_lg σ' o = q_lg σ o := funext (fun k => q_lg_o h k)
      simp [q_cell, e]
  · simp only [q_cell]
    congr 2
    apply List.ext_getElem?
    intro i
    simp only [List.getElem?_mapIdx]
    cases fs[i]? with
    | none => rfl
    | some r => rcases r with _ | _ | t <;> simp [q_fv, h]
theorem q_Wset {X : q_Cx} {Λ Λ' : q_Lay} {σ σ' : Sg} {o : Nat} {e : va_E} {k' : q_Kd} (hl : Λ' = Λ.set o k') (ho : o < Λ.length) (he : q_cell X σ' o k' = e) (hn : ∀ o', o' ≠ o → σ' o' = σ o') : (q_W X Λ σ).set o (xa X o, e) = q_W X Λ' σ' := by
  subst hl
  subst he
  apply List.ext_getElem?
  intro i
  by_cases hi : i = o
  · subst hi
    rw [List.getElem?_set_self (by rw [q_Wlen]; exact ho), q_Wget (k := k') (by simp [ho])]
  · rw [List.getElem?_set_ne (Ne.symm hi)]
    simp only [q_W, List.getElem?_mapIdx, List.getElem?_set_ne (Ne.symm hi)]
    cases Λ[i]? with
    | none => rfl
    | some k => simp [q_cell_ne (hn i hi)]
theorem q_set_self {Λ : q_Lay} {o : Nat} {k : q_Kd} (h : Λ[o]? = some k) : Λ = Λ.set o k := by
  apply List.ext_getElem?
  intro i
  by_cases hi : i = o
  · subst hi
    rw [List.getElem?_set_self (List.getElem?_eq_some_iff.mp h).1, h]
  · rw [List.getElem?_set_ne (Ne.symm hi)]
theorem q_fset {X : q_Cx} {σ : Sg} {o k ci : Nat} {fs : List (Option (Option Nat))} {v : Int32} (hk : fs[k]? = some none) : q_cell X (q_wr σ o k v) o (.inr (ci, fs)) = .inr (ci, (fs.mapIdx (fun k r => q_fv X σ o k r)).set k (.int v)) := by
  simp only [q_cell]
  congr 2
  apply List.ext_getElem?
  intro i
  have hl := (List.getElem?_eq_some_iff.mp hk).1
  by_cases hi : i = k
  · subst hi
    rw [List.getElem?_set_self (by simpa using hl)]
    simp [hk, q_fv, q_wr, upd]
  · rw [List.getElem?_set_ne (Ne.symm hi)]
    simp only [List.getElem?_mapIdx]
    cases fs[i]? with
    | none => rfl
    | some r => rcases r with _ | _ | t <;> simp [q_fv, q_wr, upd, hi]
theorem q_rset {X : q_Cx} {σ : Sg} {o k ci t : Nat} {fs : List (Option (Option Nat))} (hk : k < fs.length) : q_cell X σ o (.inr (ci, fs.set k (some (some t)))) = .inr (ci, (fs.mapIdx (fun k r => q_fv X σ o k r)).set k (.ref (xa X t))) := by
  simp only [q_cell]
  congr 2
  apply List.ext_getElem?
  intro i
  by_cases hi : i = k
  · subst hi
    rw [List.getElem?_set_self (by simpa using hk)]
    simp [hk, q_fv]
  · rw [List.getElem?_set_ne (Ne.symm hi)]
    simp [List.getElem?_set_ne (Ne.symm hi)]
theorem q_aset {X : q_Cx} {σ : Sg} {o n i : Nat} {v : Int32} : q_cell X (q_wr σ o i v) o (.inl (false, n)) = .inl (xI X, n, .inl (upd (σ o) i v)) := by
  simp [q_cell, q_wr]
theorem q_lset {X : q_Cx} {σ : Sg} {o n i : Nat} {v : Int64} : q_cell X (q_wrl σ o i v) o (.inl (true, n)) = .inl (xZ X, n, .inr (.inl (vp_updL (q_lg σ o) i v))) := by
  have e : q_lg (q_wrl σ o i v) o = vp_updL (q_lg σ o) i v := by
    funext k
    by_cases h : k = i
    · subst h
      rw [q_lg_wrl]
      simp [vp_updL]
    · rw [q_lg_wrl_ne σ o i k v h]
      simp [vp_updL, h]
  simp [q_cell, e]
theorem q_clr_ne {σ : Sg} {o o' : Nat} (h : o' ≠ o) : q_clr σ o o' = σ o' := by simp [q_clr, h]
theorem q_Wpush {X : q_Cx} {Λ : q_Lay} {σ : Sg} {k : q_Kd} {e : va_E} (he : q_cell X (q_clr σ Λ.length) Λ.length k = e) : q_W X Λ σ ++ [(xa X Λ.length, e)] = q_W X (Λ ++ [k]) (q_clr σ Λ.length) := by
  subst he
  apply List.ext_getElem?
  intro i
  by_cases hi : i < Λ.length
  · rw [List.getElem?_append_left (by rw [q_Wlen]; exact hi), q_Wget (List.getElem?_eq_getElem hi), q_Wget (k := Λ[i]) (by rw [List.getElem?_append_left hi]; exact List.getElem?_eq_getElem hi), q_cell_ne (q_clr_ne (by omega))]
  · by_cases h2 : i = Λ.length
    · subst h2
      rw [List.getElem?_append_right (by rw [q_Wlen]; omega), q_Wlen, q_Wget (k := k) (by simp)]
      simp
    · rw [List.getElem?_eq_none (by simp [q_Wlen]; omega), List.getElem?_eq_none (by simp [q_Wlen]; omega)]
theorem q_STw {X : q_Cx} {σ σ' : Sg} {U : State} {H : Heap} (h : q_ST X σ U H) (hn : ∀ o, o = 105 → σ' o = σ o) : q_ST X σ' U H := by
  show va_T .int (xa X 105) (xn X) (fun i => .int (σ' 105 i)) (q_A X) U H
  rw [hn 105 rfl]
  exact h
theorem q_ST.moved {X : q_Cx} {σ : Sg} {u U : State} {H H1 : Heap} (hvm : u.vm.Alike U.vm) (hk : ∀ a : Nat, a < H.size → ¬ q_A X a → H1[a]? = H[a]?) (h : q_ST X σ u H) : q_ST X σ U H1 :=
  ((show va_T .int (xa X 105) (xn X) (fun i => .int (σ 105 i)) (q_A X) u H from h).moved hvm).kept hk
theorem q_FX.moved {X : q_Cx} {u U : State} (hW : u.WarmedH U.vm) (h : q_FX X u) : q_FX X U := ⟨va_K.moved hW.alike h.1, fun q hq => va_Nw.warmM hW (h.2.1 q hq), h.2.2⟩
theorem q_FX.same {X : q_Cx} {u U : State} (hv : u.vm = U.vm) (h : q_FX X u) : q_FX X U := ⟨va_K.moved (hv ▸ Vm.Alike.refl u.vm) h.1, fun q hq => va_Nw.same rfl hv (h.2.1 q hq), h.2.2⟩
end
section
/-! THE LAYER's RULES: an instruction, a rule -/
section QR
variable {X : q_Cx} {M : q_Mt} {Q : q_Fin} {ph : q_Lay × Nat × Nat} {σ : Sg} {pc pc' : Nat} {l l' : List (Nat × Value)} {st rest : List Value} {E E1 E2 : Rs}
theorem gq_none : q_G X M Q ph σ pc l st none := fun h => by obtain ⟨x, h⟩ := h; cases h
theorem gq_ite {c : Prop} [Decidable c] (h1 : c → q_G X M Q ph σ pc l st E1) (h2 : ¬ c → q_G X M Q ph σ pc l st E2) : q_G X M Q ph σ pc l st (if c then E1 else E2) := by
  by_cases h : c
  · rw [if_pos h]; exact h1 h
  · rw [if_neg h]; exact h2 h
theorem gq_sub (ks : List Nat) (hl : lv_pick l ks = l') (k : q_G X M Q ph σ pc l' st E) : q_G X M Q ph σ pc l st E := fun hE p e s m args below meth c H locs ls C hP hz h6 hT hS h => k hE p e s m args below meth c H locs ls C hP hz h6 hT hS (lv_sub h ks hl)
theorem gq_pc (h : pc = pc') (k : q_G X M Q ph σ pc' l st E) : q_G X M Q ph σ pc l st E := h ▸ k
theorem gq_iconst {n : Int} {v : Int32} (d : decode M.2.1 pc = .ok (.iconst n, 1)) (hp : pc + 1 = pc') (hv : Int32.ofInt n = v) (k : q_G X M Q ph σ pc' l (.int v :: st) E) : q_G X M Q ph σ pc l st E := by
  subst hp
  exact fun hE p e s m args below meth c H locs ls C hP hz h6 hT hS h => lv_iconst C.1 C.2.1 d hv (k hE p e s m args below meth c H locs ls C hP hz h6 hT hS h)
theorem gq_bipush {n : Int} {v : Int32} (d : decode M.2.1 pc = .ok (.bipush n, 2)) (hp : pc + 2 = pc') (hv : (Int8.ofInt n).toInt32 = v) (k : q_G X M Q ph σ pc' l (.int v :: st) E) : q_G X M Q ph σ pc l st E := by
  subst hp
  exact fun hE p e s m args below meth c H locs ls C hP hz h6 hT hS h => lv_bipush C.1 C.2.1 d hv (k hE p e s m args below meth c H locs ls C hP hz h6 hT hS h)
theorem gq_sipush {n : Int} {v : Int32} (d : decode M.2.1 pc = .ok (.sipush n, 3)) (hp : pc + 3 = pc') (hv : (Int16.ofInt n).toInt32 = v) (k : q_G X M Q ph σ pc' l (.int v :: st) E) : q_G X M Q ph σ pc l st E := by
  subst hp
  exact fun hE p e s m args below meth c H locs ls C hP hz h6 hT hS h => lv_sipush C.1 C.2.1 d hv (k hE p e s m args below meth c H locs ls C hP hz h6 hT hS h)
theorem gq_iload_n {k : Fin 4} {i : Nat} {x : Int32} (d : decode M.2.1 pc = .ok (.iload_n k, 1)) (hp : pc + 1 = pc') (hl : l[i]? = some ((k : Nat), .int x)) (kk : q_G X M Q ph σ pc' l (.int x :: st) E) : q_G X M Q ph σ pc l st E := by
  subst hp
  exact fun hE p e s m args below meth c H locs ls C hP hz h6 hT hS h => lv_iload_n C.1 C.2.1 d rfl (lv_at h i hl) (kk hE p e s m args below meth c H locs ls C hP hz h6 hT hS h)
theorem gq_iload {i j : Nat} {x : Int32} (d : decode M.2.1 pc = .ok (.iload j, 2)) (hp : pc + 2 = pc') (hl : l[i]? = some (j, .int x)) (k : q_G X M Q ph σ pc' l (.int x :: st) E) : q_G X M Q ph σ pc l st E := by
  subst hp
  exact fun hE p e s m args below meth c H locs ls C hP hz h6 hT hS h => lv_iload C.1 C.2.1 d (lv_at h i hl) (k hE p e s m args below meth c H locs ls C hP hz h6 hT hS h)
theorem gq_aload_n {k : Fin 4} {i : Nat} {x : Nat} (d : decode M.2.1 pc = .ok (.aload_n k, 1)) (hp : pc + 1 = pc') (hl : l[i]? = some ((k : Nat), .ref x)) (kk : q_G X M Q ph σ pc' l (.ref x :: st) E) : q_G X M Q ph σ pc l st E := by
  subst hp
  exact fun hE p e s m args below meth c H locs ls C hP hz h6 hT hS h => lv_aload_n C.1 C.2.1 d rfl (lv_at h i hl) (kk hE p e s m args below meth c H locs ls C hP hz h6 hT hS h)
theorem gq_lload_n {k : Fin 4} {i : Nat} {x : Int64} (d : decode M.2.1 pc = .ok (.lload_n k, 1)) (hp : pc + 1 = pc') (hl : l[i]? = some ((k : Nat), .long x)) (kk : q_G X M Q ph σ pc' l (.long x :: st) E) : q_G X M Q ph σ pc l st E := by
  subst hp
  exact fun hE p e s m args below meth c H locs ls C hP hz h6 hT hS h => lv_lload_n C.1 C.2.1 d rfl (lv_at h i hl) (kk hE p e s m args below meth c H locs ls C hP hz h6 hT hS h)
theorem gq_istore_n {k : Fin 4} {x : Int32} (d : decode M.2.1 pc = .ok (.istore_n k, 1)) (hp : pc + 1 = pc') (hn : (k : Nat) < M.2.2.1) (hl : ((k : Nat), Value.int x) :: l.filter (fun q => !(q.1 == (k : Nat)) && !(q.1 + 1 == (k : Nat) && q.2.category == 2)) = l') (kk : q_G X M Q ph σ pc' l' st E) : q_G X M Q ph σ pc l (Value.int x :: st) E := by
  subst hp
  exact fun hE p e s m args below meth c H locs ls C hP hz h6 hT hS h => lv_istore_n C.1 C.2.1 d rfl h hn hl (fun ls' h' => kk hE p e s m args below meth c H locs ls' C hP hz h6 hT hS h')
theorem gq_istore {i : Nat} {x : Int32} (d : decode M.2.1 pc = .ok (.istore i, 2)) (hp : pc + 2 = pc') (hn : i < M.2.2.1) (hl : (i, Value.int x) :: l.filter (fun q => !(q.1 == i) && !(q.1 + 1 == i && q.2.category == 2)) = l') (kk : q_G X M Q ph σ pc' l' st E) : q_G X M Q ph σ pc l (Value.int x :: st) E := by
  subst hp
  exact fun hE p e s m args below meth c H locs ls C hP hz h6 hT hS h => lv_istore C.1 C.2.1 d h hn hl (fun ls' h' => kk hE p e s m args below meth c H locs ls' C hP hz h6 hT hS h')
theorem gq_astore_n {k : Fin 4} {x : Nat} (d : decode M.2.1 pc = .ok (.astore_n k, 1)) (hp : pc + 1 = pc') (hn : (k : Nat) < M.2.2.1) (hl : ((k : Nat), Value.ref x) :: l.filter (fun q => !(q.1 == (k : Nat)) && !(q.1 + 1 == (k : Nat) && q.2.category == 2)) = l') (kk : q_G X M Q ph σ pc' l' st E) : q_G X M Q ph σ pc l (Value.ref x :: st) E := by
  subst hp
  exact fun hE p e s m args below meth c H locs ls C hP hz h6 hT hS h => lv_astore_n C.1 C.2.1 d rfl h hn hl (fun ls' h' => kk hE p e s m args below meth c H locs ls' C hP hz h6 hT hS h')
theorem gq_iinc {i j : Nat} {n : Int} {x v : Int32} (d : decode M.2.1 pc = .ok (.iinc i n, 3)) (hp : pc + 3 = pc') (hk : l[j]? = some (i, .int x)) (hv : x + Int32.ofInt n = v) (hn : i < M.2.2.1) (hl : (i, Value.int v) :: l.filter (fun q => !(q.1 == i) && !(q.1 + 1 == i && q.2.category == 2)) = l') (kk : q_G X M Q ph σ pc' l' st E) : q_G X M Q ph σ pc l st E := by
  subst hp
  exact fun hE p e s m args below meth c H locs ls C hP hz h6 hT hS h => lv_iinc C.1 C.2.1 d h hk hv hn hl (fun ls' h' => kk hE p e s m args below meth c H locs ls' C hP hz h6 hT hS h')
theorem gq_iadd {x y : Int32} (d : decode M.2.1 pc = .ok (.iadd, 1)) (hp : pc + 1 = pc') (k : q_G X M Q ph σ pc' l (.int (x + y) :: st) E) : q_G X M Q ph σ pc l (.int y :: .int x :: st) E := by
  subst hp
  exact fun hE p e s m args below meth c H locs ls C hP hz h6 hT hS h => lv_iadd C.1 C.2.1 d (k hE p e s m args below meth c H locs ls C hP hz h6 hT hS h)
theorem gq_isub {x y : Int32} (d : decode M.2.1 pc = .ok (.isub, 1)) (hp : pc + 1 = pc') (k : q_G X M Q ph σ pc' l (.int (x - y) :: st) E) : q_G X M Q ph σ pc l (.int y :: .int x :: st) E := by
  subst hp
  exact fun hE p e s m args below meth c H locs ls C hP hz h6 hT hS h => lv_isub C.1 C.2.1 d (k hE p e s m args below meth c H locs ls C hP hz h6 hT hS h)
theorem gq_imul {x y : Int32} (d : decode M.2.1 pc = .ok (.imul, 1)) (hp : pc + 1 = pc') (k : q_G X M Q ph σ pc' l (.int (x * y) :: st) E) : q_G X M Q ph σ pc l (.int y :: .int x :: st) E := by
  subst hp
  exact fun hE p e s m args below meth c H locs ls C hP hz h6 hT hS h => lv_imul C.1 C.2.1 d (k hE p e s m args below meth c H locs ls C hP hz h6 hT hS h)
theorem gq_iand {x y : Int32} (d : decode M.2.1 pc = .ok (.iand, 1)) (hp : pc + 1 = pc') (k : q_G X M Q ph σ pc' l (.int (x &&& y) :: st) E) : q_G X M Q ph σ pc l (.int y :: .int x :: st) E := by
  subst hp
  exact fun hE p e s m args below meth c H locs ls C hP hz h6 hT hS h => lv_iand C.1 C.2.1 d (k hE p e s m args below meth c H locs ls C hP hz h6 hT hS h)
theorem gq_ior {x y : Int32} (d : decode M.2.1 pc = .ok (.ior, 1)) (hp : pc + 1 = pc') (k : q_G X M Q ph σ pc' l (.int (x ||| y) :: st) E) : q_G X M Q ph σ pc l (.int y :: .int x :: st) E := by
  subst hp
  exact fun hE p e s m args below meth c H locs ls C hP hz h6 hT hS h => lv_ior C.1 C.2.1 d (k hE p e s m args below meth c H locs ls C hP hz h6 hT hS h)
theorem gq_ixor {x y : Int32} (d : decode M.2.1 pc = .ok (.ixor, 1)) (hp : pc + 1 = pc') (k : q_G X M Q ph σ pc' l (.int (x ^^^ y) :: st) E) : q_G X M Q ph σ pc l (.int y :: .int x :: st) E := by
  subst hp
  exact fun hE p e s m args below meth c H locs ls C hP hz h6 hT hS h => lv_ixor C.1 C.2.1 d (k hE p e s m args below meth c H locs ls C hP hz h6 hT hS h)
theorem gq_ishl {x y : Int32} (d : decode M.2.1 pc = .ok (.ishl, 1)) (hp : pc + 1 = pc') (k : q_G X M Q ph σ pc' l (.int (x <<< (y &&& 31)) :: st) E) : q_G X M Q ph σ pc l (.int y :: .int x :: st) E := by
  subst hp
  exact fun hE p e s m args below meth c H locs ls C hP hz h6 hT hS h => lv_ishl C.1 C.2.1 d (k hE p e s m args below meth c H locs ls C hP hz h6 hT hS h)
theorem gq_ishr {x y : Int32} (d : decode M.2.1 pc = .ok (.ishr, 1)) (hp : pc + 1 = pc') (k : q_G X M Q ph σ pc' l (.int (x >>> (y &&& 31)) :: st) E) : q_G X M Q ph σ pc l (.int y :: .int x :: st) E := by
  subst hp
  exact fun hE p e s m args below meth c H locs ls C hP hz h6 hT hS h => lv_ishr C.1 C.2.1 d (k hE p e s m args below meth c H locs ls C hP hz h6 hT hS h)
theorem gq_ineg {x : Int32} (d : decode M.2.1 pc = .ok (.ineg, 1)) (hp : pc + 1 = pc') (k : q_G X M Q ph σ pc' l (.int (-x) :: st) E) : q_G X M Q ph σ pc l (.int x :: st) E := by
  subst hp
  exact fun hE p e s m args below meth c H locs ls C hP hz h6 hT hS h => lv_ineg C.1 C.2.1 d (k hE p e s m args below meth c H locs ls C hP hz h6 hT hS h)
theorem gq_idiv {x y : Int32} (d : decode M.2.1 pc = .ok (.idiv, 1)) (hp : pc + 1 = pc') (hne : ¬ y = 0) (k : q_G X M Q ph σ pc' l (.int (x / y) :: st) E) : q_G X M Q ph σ pc l (.int y :: .int x :: st) E := by
  subst hp
  exact fun hE p e s m args below meth c H locs ls C hP hz h6 hT hS h => lv_idiv C.1 C.2.1 d hne (k hE p e s m args below meth c H locs ls C hP hz h6 hT hS h)
theorem gq_irem {x y : Int32} (d : decode M.2.1 pc = .ok (.irem, 1)) (hp : pc + 1 = pc') (hne : ¬ y = 0) (k : q_G X M Q ph σ pc' l (.int (x - x / y * y) :: st) E) : q_G X M Q ph σ pc l (.int y :: .int x :: st) E := by
  subst hp
  exact fun hE p e s m args below meth c H locs ls C hP hz h6 hT hS h => lv_irem C.1 C.2.1 d hne (k hE p e s m args below meth c H locs ls C hP hz h6 hT hS h)
theorem gq_i2l {x : Int32} (d : decode M.2.1 pc = .ok (.i2l, 1)) (hp : pc + 1 = pc') (k : q_G X M Q ph σ pc' l (.long x.toInt64 :: st) E) : q_G X M Q ph σ pc l (.int x :: st) E := by
  subst hp
  exact fun hE p e s m args below meth c H locs ls C hP hz h6 hT hS h => lv_i2l C.1 C.2.1 d rfl (k hE p e s m args below meth c H locs ls C hP hz h6 hT hS h)
theorem gq_l2i {x : Int64} (d : decode M.2.1 pc = .ok (.l2i, 1)) (hp : pc + 1 = pc') (k : q_G X M Q ph σ pc' l (.int x.toInt32 :: st) E) : q_G X M Q ph σ pc l (.long x :: st) E := by
  subst hp
  exact fun hE p e s m args below meth c H locs ls C hP hz h6 hT hS h => lv_l2i C.1 C.2.1 d rfl (k hE p e s m args below meth c H locs ls C hP hz h6 hT hS h)
theorem gq_land {x y : Int64} (d : decode M.2.1 pc = .ok (.land, 1)) (hp : pc + 1 = pc') (k : q_G X M Q ph σ pc' l (.long (x &&& y) :: st) E) : q_G X M Q ph σ pc l (.long y :: .long x :: st) E := by
  subst hp
  exact fun hE p e s m args below meth c H locs ls C hP hz h6 hT hS h => lv_land C.1 C.2.1 d (k hE p e s m args below meth c H locs ls C hP hz h6 hT hS h)
theorem gq_lor {x y : Int64} (d : decode M.2.1 pc = .ok (.lor, 1)) (hp : pc + 1 = pc') (k : q_G X M Q ph σ pc' l (.long (x ||| y) :: st) E) : q_G X M Q ph σ pc l (.long y :: .long x :: st) E := by
  subst hp
  exact fun hE p e s m args below meth c H locs ls C hP hz h6 hT hS h => lv_lor C.1 C.2.1 d (k hE p e s m args below meth c H locs ls C hP hz h6 hT hS h)
theorem gq_lushr {x : Int64} {y : Int32} (d : decode M.2.1 pc = .ok (.lushr, 1)) (hp : pc + 1 = pc') (k : q_G X M Q ph σ pc' l (.long ((x.toUInt64 >>> (y.toInt64.toUInt64 &&& Int64.toUInt64 63)).toInt64) :: st) E) : q_G X M Q ph σ pc l (.int y :: .long x :: st) E := by
  subst hp
  exact fun hE p e s m args below meth c H locs ls C hP hz h6 hT hS h => lv_lushr C.1 C.2.1 d rfl (k hE p e s m args below meth c H locs ls C hP hz h6 hT hS h)
theorem gq_lshl {x : Int64} {y : Int32} (d : decode M.2.1 pc = .ok (.lshl, 1)) (hp : pc + 1 = pc') (k : q_G X M Q ph σ pc' l (.long (x <<< (y.toInt64 &&& 63)) :: st) E) : q_G X M Q ph σ pc l (.int y :: .long x :: st) E := by
  subst hp
  exact fun hE p e s m args below meth c H locs ls C hP hz h6 hT hS h => lv_lshl C.1 C.2.1 d rfl (k hE p e s m args below meth c H locs ls C hP hz h6 hT hS h)
theorem gq_lshr {x : Int64} {y : Int32} (d : decode M.2.1 pc = .ok (.lshr, 1)) (hp : pc + 1 = pc') (k : q_G X M Q ph σ pc' l (.long (x >>> (y.toInt64 &&& 63)) :: st) E) : q_G X M Q ph σ pc l (.int y :: .long x :: st) E := by
  subst hp
  exact fun hE p e s m args below meth c H locs ls C hP hz h6 hT hS h => lv_lshr C.1 C.2.1 d rfl (k hE p e s m args below meth c H locs ls C hP hz h6 hT hS h)
theorem gq_dup {v : Value} (d : decode M.2.1 pc = .ok (.dup, 1)) (hp : pc + 1 = pc') (hv : v.category = 1) (k : q_G X M Q ph σ pc' l (v :: v :: st) E) : q_G X M Q ph σ pc l (v :: st) E := by
  subst hp
  exact fun hE p e s m args below meth c H locs ls C hP hz h6 hT hS h => lv_dup C.1 C.2.1 d hv (k hE p e s m args below meth c H locs ls C hP hz h6 hT hS h)
theorem gq_pop {v : Value} (d : decode M.2.1 pc = .ok (.pop, 1)) (hp : pc + 1 = pc') (hv : v.category = 1) (k : q_G X M Q ph σ pc' l st E) : q_G X M Q ph σ pc l (v :: st) E := by
  subst hp
  exact fun hE p e s m args below meth c H locs ls C hP hz h6 hT hS h => lv_pop C.1 C.2.1 d hv (k hE p e s m args below meth c H locs ls C hP hz h6 hT hS h)
theorem gq_dup2 {v w : Value} (d : decode M.2.1 pc = .ok (.dup2, 1)) (hp : pc + 1 = pc') (hv : v.category = 1) (hw : w.category = 1) (k : q_G X M Q ph σ pc' l (v :: w :: v :: w :: st) E) : q_G X M Q ph σ pc l (v :: w :: st) E := by
  subst hp
  exact fun hE p e s m args below meth c H locs ls C hP hz h6 hT hS h => lv_dup2_11 C.1 C.2.1 d hv hw (k hE p e s m args below meth c H locs ls C hP hz h6 hT hS h)
theorem gq_dup_x1 {v w : Value} (d : decode M.2.1 pc = .ok (.dup_x1, 1)) (hp : pc + 1 = pc') (hv : v.category = 1) (hw : w.category = 1) (k : q_G X M Q ph σ pc' l (v :: w :: v :: st) E) : q_G X M Q ph σ pc l (v :: w :: st) E := by
  subst hp
  exact fun hE p e s m args below meth c H locs ls C hP hz h6 hT hS h => lv_dup_x1 C.1 C.2.1 d hv hw (k hE p e s m args below meth c H locs ls C hP hz h6 hT hS h)
theorem gq_goto {off : Int} (d : decode M.2.1 pc = .ok (.goto off, 3)) (hp : (pc : Int) + off = (pc' : Int)) (k : q_G X M Q ph σ pc' l st E) : q_G X M Q ph σ pc l st E :=
  fun hE p e s m args below meth c H locs ls C hP hz h6 hT hS h => lv_goto C.1 C.2.1 d hp (k hE p e s m args below meth c H locs ls C hP hz h6 hT hS h)
theorem gq_lconst {n : Fin 2} {v : Int64} (d : decode M.2.1 pc = .ok (.lconst n, 1)) (hp : pc + 1 = pc') (hv : Int64.ofNat (n : Nat) = v) (kk : q_G X M Q ph σ pc' l (.long v :: st) E) : q_G X M Q ph σ pc l st E := by
  subst hp
  exact fun hE p e s m args below meth c H locs ls C hP hz h6 hT hS h => lv_lconst C.1 C.2.1 d hv (kk hE p e s m args below meth c H locs ls C hP hz h6 hT hS h)
theorem gq_ladd {x y : Int64} (d : decode M.2.1 pc = .ok (.ladd, 1)) (hp : pc + 1 = pc') (kk : q_G X M Q ph σ pc' l (.long (x + y) :: st) E) : q_G X M Q ph σ pc l (.long y :: .long x :: st) E := by
  subst hp
  exact fun hE p e s m args below meth c H locs ls C hP hz h6 hT hS h => lv_ladd C.1 C.2.1 d (kk hE p e s m args below meth c H locs ls C hP hz h6 hT hS h)
theorem gq_lmul {x y : Int64} (d : decode M.2.1 pc = .ok (.lmul, 1)) (hp : pc + 1 = pc') (kk : q_G X M Q ph σ pc' l (.long (x * y) :: st) E) : q_G X M Q ph σ pc l (.long y :: .long x :: st) E := by
  subst hp
  exact fun hE p e s m args below meth c H locs ls C hP hz h6 hT hS h => lv_lmul C.1 C.2.1 d (kk hE p e s m args below meth c H locs ls C hP hz h6 hT hS h)
theorem gq_lcmp {x y : Int64} (d : decode M.2.1 pc = .ok (.lcmp, 1)) (hp : pc + 1 = pc') (kk : q_G X M Q ph σ pc' l (.int (lg_cmp x y) :: st) E) : q_G X M Q ph σ pc l (.long y :: .long x :: st) E := by
  subst hp
  exact fun hE p e s m args below meth c H locs ls C hP hz h6 hT hS h => W.lcmp C.1 C.2.1 d (kk hE p e s m args below meth c H locs ls C hP hz h6 hT hS h)
theorem gq_ldc {idx : Nat} {v : Int32} (d : decode M.2.1 pc = .ok (.ldc idx, 2)) (hp : pc + 2 = pc') (hl : Cond.constant M.1.cls idx v ∈ lw_gd) (kk : q_G X M Q ph σ pc' l (.int v :: st) E) : q_G X M Q ph σ pc l st E := by
  subst hp
  exact fun hE p e s m args below meth c H locs ls C hP hz h6 hT hS h => lv_ldc C.1 C.2.1 C.2.2.2.2.1 (C.2.2.2.2.2.1 _ hl) d (kk hE p e s m args below meth c H locs ls C hP hz h6 hT hS h)
theorem gq_lstore_n {k : Fin 4} {x : Int64} (d : decode M.2.1 pc = .ok (.lstore_n k, 1)) (hp : pc + 1 = pc') (hn : (k : Nat) + 1 < M.2.2.1) (hl : ((k : Nat), Value.long x) :: l.filter (fun q => !(q.1 == (k : Nat)) && (!(q.1 == (k : Nat) + 1) && !(q.1 + 1 == (k : Nat) && q.2.category == 2))) = l') (kk : q_G X M Q ph σ pc' l' st E) : q_G X M Q ph σ pc l (.long x :: st) E := by
  subst hp
  exact fun hE p e s m args below meth c H locs ls C hP hz h6 hT hS h => lv_lstore_n C.1 C.2.1 d rfl h hn hl (fun ls' h' => kk hE p e s m args below meth c H locs ls' C hP hz h6 hT hS h')
theorem gq_iremq {x y : Int32} (d : decode M.2.1 pc = .ok (.irem, 1)) (hp : pc + 1 = pc') (kk : q_G X M Q ph σ pc' l (.int (x - x / y * y) :: st) E) : q_G X M Q ph σ pc l (.int y :: .int x :: st) (if y = 0 then none else E) := gq_ite (fun _ => gq_none) (fun h => gq_irem d hp h kk)
section QB
variable {off : Int} {tgt : Nat} {x y : Int32}
theorem gq_if_eq (d : decode M.2.1 pc = .ok (.ifCond .eq off, 3)) (hp : pc + 3 = pc') (ht : (pc : Int) + off = (tgt : Int)) (k1 : x = 0 → q_G X M Q ph σ tgt l st E1) (k2 : ¬ x = 0 → q_G X M Q ph σ pc' l st E2) : q_G X M Q ph σ pc l (.int x :: st) (if x = 0 then E1 else E2) := by
  subst hp
  exact fun hE p e s m args below meth c H locs ls C hP hz h6 hT hS h => lv_if_eq C.1 C.2.1 d ht (fun hc => by have hE2 := hE; rw [if_pos hc] at hE2; rw [if_pos hc]; exact k1 hc hE2 p e s m args below meth c H locs ls C hP hz h6 hT hS h) (fun hc => by have hE2 := hE; rw [if_neg hc] at hE2; rw [if_neg hc]; exact k2 hc hE2 p e s m args below meth c H locs ls C hP hz h6 hT hS h)
theorem gq_if_ne (d : decode M.2.1 pc = .ok (.ifCond .ne off, 3)) (hp : pc + 3 = pc') (ht : (pc : Int) + off = (tgt : Int)) (k1 : x = 0 → q_G X M Q ph σ pc' l st E1) (k2 : ¬ x = 0 → q_G X M Q ph σ tgt l st E2) : q_G X M Q ph σ pc l (.int x :: st) (if x = 0 then E1 else E2) := by
  subst hp
  exact fun hE p e s m args below meth c H locs ls C hP hz h6 hT hS h => lv_if_ne C.1 C.2.1 d ht (fun hc => by have hE2 := hE; rw [if_neg hc] at hE2; rw [if_neg hc]; exact k2 hc hE2 p e s m args below meth c H locs ls C hP hz h6 hT hS h) (fun hc => by have hE2 := hE; rw [if_pos hc] at hE2; rw [if_pos hc]; exact k1 hc hE2 p e s m args below meth c H locs ls C hP hz h6 hT hS h)
theorem gq_if_lt (d : decode M.2.1 pc = .ok (.ifCond .lt off, 3)) (hp : pc + 3 = pc') (ht : (pc : Int) + off = (tgt : Int)) (k1 : x < 0 → q_G X M Q ph σ tgt l st E1) (k2 : ¬ x < 0 → q_G X M Q ph σ pc' l st E2) : q_G X M Q ph σ pc l (.int x :: st) (if x < 0 then E1 else E2) := by
  subst hp
  exact fun hE p e s m args below meth c H locs ls C hP hz h6 hT hS h => lv_if_lt C.1 C.2.1 d ht (fun hc => by have hE2 := hE; rw [if_pos hc] at hE2; rw [if_pos hc]; exact k1 hc hE2 p e s m args below meth c H locs ls C hP hz h6 hT hS h) (fun hc => by have hE2 := hE; rw [if_neg hc] at hE2; rw [if_neg hc]; exact k2 hc hE2 p e s m args below meth c H locs ls C hP hz h6 hT hS h)
theorem gq_if_ge (d : decode M.2.1 pc = .ok (.ifCond .ge off, 3)) (hp : pc + 3 = pc') (ht : (pc : Int) + off = (tgt : Int)) (k1 : 0 ≤ x → q_G X M Q ph σ tgt l st E1) (k2 : ¬ 0 ≤ x → q_G X M Q ph σ pc' l st E2) : q_G X M Q ph σ pc l (.int x :: st) (if 0 ≤ x then E1 else E2) := by
  subst hp
  exact fun hE p e s m args below meth c H locs ls C hP hz h6 hT hS h => lv_if_ge C.1 C.2.1 d ht (fun hc => by have hE2 := hE; rw [if_pos hc] at hE2; rw [if_pos hc]; exact k1 hc hE2 p e s m args below meth c H locs ls C hP hz h6 hT hS h) (fun hc => by have hE2 := hE; rw [if_neg hc] at hE2; rw [if_neg hc]; exact k2 hc hE2 p e s m args below meth c H locs ls C hP hz h6 hT hS h)
theorem gq_if_gt (d : decode M.2.1 pc = .ok (.ifCond .gt off, 3)) (hp : pc + 3 = pc') (ht : (pc : Int) + off = (tgt : Int)) (k1 : 0 < x → q_G X M Q ph σ tgt l st E1) (k2 : ¬ 0 < x → q_G X M Q ph σ pc' l st E2) : q_G X M Q ph σ pc l (.int x :: st) (if 0 < x then E1 else E2) := by
  subst hp
  exact fun hE p e s m args below meth c H locs ls C hP hz h6 hT hS h => lv_if_gt C.1 C.2.1 d ht (fun hc => by have hE2 := hE; rw [if_pos hc] at hE2; rw [if_pos hc]; exact k1 hc hE2 p e s m args below meth c H locs ls C hP hz h6 hT hS h) (fun hc => by have hE2 := hE; rw [if_neg hc] at hE2; rw [if_neg hc]; exact k2 hc hE2 p e s m args below meth c H locs ls C hP hz h6 hT hS h)
theorem gq_if_le (d : decode M.2.1 pc = .ok (.ifCond .le off, 3)) (hp : pc + 3 = pc') (ht : (pc : Int) + off = (tgt : Int)) (k1 : x ≤ 0 → q_G X M Q ph σ tgt l st E1) (k2 : ¬ x ≤ 0 → q_G X M Q ph σ pc' l st E2) : q_G X M Q ph σ pc l (.int x :: st) (if x ≤ 0 then E1 else E2) := by
  subst hp
  exact fun hE p e s m args below meth c H locs ls C hP hz h6 hT hS h => lv_if_le C.1 C.2.1 d ht (fun hc => by have hE2 := hE; rw [if_pos hc] at hE2; rw [if_pos hc]; exact k1 hc hE2 p e s m args below meth c H locs ls C hP hz h6 hT hS h) (fun hc => by have hE2 := hE; rw [if_neg hc] at hE2; rw [if_neg hc]; exact k2 hc hE2 p e s m args below meth c H locs ls C hP hz h6 hT hS h)
theorem gq_icmp_eq (d : decode M.2.1 pc = .ok (.if_icmp .eq off, 3)) (hp : pc + 3 = pc') (ht : (pc : Int) + off = (tgt : Int)) (k1 : x = y → q_G X M Q ph σ tgt l st E1) (k2 : ¬ x = y → q_G X M Q ph σ pc' l st E2) : q_G X M Q ph σ pc l (.int y :: .int x :: st) (if x = y then E1 else E2) := by
  subst hp
  exact fun hE p e s m args below meth c H locs ls C hP hz h6 hT hS h => lv_icmp_eq C.1 C.2.1 d ht (fun hc => by have hE2 := hE; rw [if_pos hc] at hE2; rw [if_pos hc]; exact k1 hc hE2 p e s m args below meth c H locs ls C hP hz h6 hT hS h) (fun hc => by have hE2 := hE; rw [if_neg hc] at hE2; rw [if_neg hc]; exact k2 hc hE2 p e s m args below meth c H locs ls C hP hz h6 hT hS h)
theorem gq_icmp_ne (d : decode M.2.1 pc = .ok (.if_icmp .ne off, 3)) (hp : pc + 3 = pc') (ht : (pc : Int) + off = (tgt : Int)) (k1 : x = y → q_G X M Q ph σ pc' l st E1) (k2 : ¬ x = y → q_G X M Q ph σ tgt l st E2) : q_G X M Q ph σ pc l (.int y :: .int x :: st) (if x = y then E1 else E2) := by
  subst hp
  exact fun hE p e s m args below meth c H locs ls C hP hz h6 hT hS h => lv_icmp_ne C.1 C.2.1 d ht (fun hc => by have hE2 := hE; rw [if_neg hc] at hE2; rw [if_neg hc]; exact k2 hc hE2 p e s m args below meth c H locs ls C hP hz h6 hT hS h) (fun hc => by have hE2 := hE; rw [if_pos hc] at hE2; rw [if_pos hc]; exact k1 hc hE2 p e s m args below meth c H locs ls C hP hz h6 hT hS h)
theorem gq_icmp_lt (d : decode M.2.1 pc = .ok (.if_icmp .lt off, 3)) (hp : pc + 3 = pc') (ht : (pc : Int) + off = (tgt : Int)) (k1 : x < y → q_G X M Q ph σ tgt l st E1) (k2 : ¬ x < y → q_G X M Q ph σ pc' l st E2) : q_G X M Q ph σ pc l (.int y :: .int x :: st) (if x < y then E1 else E2) := by
  subst hp
  exact fun hE p e s m args below meth c H locs ls C hP hz h6 hT hS h => lv_icmp_lt C.1 C.2.1 d ht (fun hc => by have hE2 := hE; rw [if_pos hc] at hE2; rw [if_pos hc]; exact k1 hc hE2 p e s m args below meth c H locs ls C hP hz h6 hT hS h) (fun hc => by have hE2 := hE; rw [if_neg hc] at hE2; rw [if_neg hc]; exact k2 hc hE2 p e s m args below meth c H locs ls C hP hz h6 hT hS h)
theorem gq_icmp_ge (d : decode M.2.1 pc = .ok (.if_icmp .ge off, 3)) (hp : pc + 3 = pc') (ht : (pc : Int) + off = (tgt : Int)) (k1 : y ≤ x → q_G X M Q ph σ tgt l st E1) (k2 : ¬ y ≤ x → q_G X M Q ph σ pc' l st E2) : q_G X M Q ph σ pc l (.int y :: .int x :: st) (if y ≤ x then E1 else E2) := by
  subst hp
  exact fun hE p e s m args below meth c H locs ls C hP hz h6 hT hS h => lv_icmp_ge C.1 C.2.1 d ht (fun hc => by have hE2 := hE; rw [if_pos hc] at hE2; rw [if_pos hc]; exact k1 hc hE2 p e s m args below meth c H locs ls C hP hz h6 hT hS h) (fun hc => by have hE2 := hE; rw [if_neg hc] at hE2; rw [if_neg hc]; exact k2 hc hE2 p e s m args below meth c H locs ls C hP hz h6 hT hS h)
theorem gq_icmp_gt (d : decode M.2.1 pc = .ok (.if_icmp .gt off, 3)) (hp : pc + 3 = pc') (ht : (pc : Int) + off = (tgt : Int)) (k1 : y < x → q_G X M Q ph σ tgt l st E1) (k2 : ¬ y < x → q_G X M Q ph σ pc' l st E2) : q_G X M Q ph σ pc l (.int y :: .int x :: st) (if y < x then E1 else E2) := by
  subst hp
  exact fun hE p e s m args below meth c H locs ls C hP hz h6 hT hS h => lv_icmp_gt C.1 C.2.1 d ht (fun hc => by have hE2 := hE; rw [if_pos hc] at hE2; rw [if_pos hc]; exact k1 hc hE2 p e s m args below meth c H locs ls C hP hz h6 hT hS h) (fun hc => by have hE2 := hE; rw [if_neg hc] at hE2; rw [if_neg hc]; exact k2 hc hE2 p e s m args below meth c H locs ls C hP hz h6 hT hS h)
theorem gq_icmp_le (d : decode M.2.1 pc = .ok (.if_icmp .le off, 3)) (hp : pc + 3 = pc') (ht : (pc : Int) + off = (tgt : Int)) (k1 : x ≤ y → q_G X M Q ph σ tgt l st E1) (k2 : ¬ x ≤ y → q_G X M Q ph σ pc' l st E2) : q_G X M Q ph σ pc l (.int y :: .int x :: st) (if x ≤ y then E1 else E2) := by
  subst hp
  exact fun hE p e s m args below meth c H locs ls C hP hz h6 hT hS h => lv_icmp_le C.1 C.2.1 d ht (fun hc => by have hE2 := hE; rw [if_pos hc] at hE2; rw [if_pos hc]; exact k1 hc hE2 p e s m args below meth c H locs ls C hP hz h6 hT hS h) (fun hc => by have hE2 := hE; rw [if_neg hc] at hE2; rw [if_neg hc]; exact k2 hc hE2 p e s m args below meth c H locs ls C hP hz h6 hT hS h)
end QB
theorem gq_tswIn {dflt lo hi off : Int} {offs : Array Int} {len : Nat} {x k : Int32} {tgt : Nat} (hx : x = k) (d : decode M.2.1 pc = .ok (.tableswitch dflt lo hi offs, len)) (h1 : ¬ k.toInt < lo) (h2 : ¬ hi < k.toInt) (ho : offs[(k.toInt - lo).toNat]? = some off) (ht : (pc : Int) + off = (tgt : Int)) (kk : q_G X M Q ph σ tgt l st E) : q_G X M Q ph σ pc l (.int x :: st) E := by
  subst hx
  exact fun hE p e s m args below meth c H locs ls C hP hz h6 hT hS h => lv_tableIn C.1 C.2.1 d h1 h2 ho ht (kk hE p e s m args below meth c H locs ls C hP hz h6 hT hS h)
theorem gq_tswLo {dflt lo hi : Int} {offs : Array Int} {len : Nat} {x k : Int32} {tgt : Nat} (hx : x < k) (d : decode M.2.1 pc = .ok (.tableswitch dflt lo hi offs, len)) (h1 : k.toInt = lo) (ht : (pc : Int) + dflt = (tgt : Int)) (kk : q_G X M Q ph σ tgt l st E) : q_G X M Q ph σ pc l (.int x :: st) E := by
  have h3 : x.toInt < lo := by rw [← h1]; exact Int32.lt_iff_toInt_lt.mp hx
  exact fun hE p e s m args below meth c H locs ls C hP hz h6 hT hS h => lv_tableOut C.1 C.2.1 d (Or.inl h3) ht (kk hE p e s m args below meth c H locs ls C hP hz h6 hT hS h)
theorem gq_tswHi {dflt lo hi : Int} {offs : Array Int} {len : Nat} {x k : Int32} {tgt : Nat} (hx : k < x) (d : decode M.2.1 pc = .ok (.tableswitch dflt lo hi offs, len)) (h1 : k.toInt = hi) (ht : (pc : Int) + dflt = (tgt : Int)) (kk : q_G X M Q ph σ tgt l st E) : q_G X M Q ph σ pc l (.int x :: st) E := by
  have h3 : hi < x.toInt := by rw [← h1]; exact Int32.lt_iff_toInt_lt.mp hx
  exact fun hE p e s m args below meth c H locs ls C hP hz h6 hT hS h => lv_tableOut C.1 C.2.1 d (Or.inr h3) ht (kk hE p e s m args below meth c H locs ls C hP hz h6 hT hS h)
end QR
end
section
/-! THE LAYER's RULES: fields, arrays, statics, new cells -/
def q_FL (own : String) (idx ci : Nat) (C : String) (T : u_T) (N k : Nat) : Prop := Cond.fieldLink own idx (T k).1 (T k).2.1 (T k).2.2.1 ∈ lw_gd ∧ k < N ∧ vwCl[ci]? = some (C, T, N) ∧ ∀ w ∈ u_ws C T N, w ∈ lw_gd
def q_PL (C : String) (T : u_T) (N k : Nat) (ty : FieldType) (fin : Bool) : Prop := (T k).2.2.2 = fin ∧ parseFieldDescriptor (T k).2.2.1 = some ty ∧ (∃ ty0 : Nat → FieldType, ∀ k, k < N → parseFieldDescriptor (T k).2.2.1 = some (ty0 k)) ∧ ∀ a, a < N → ∀ b, b < N → a ≠ b → (T a).2.1 ≠ (T b).2.1
def q_RA (X : q_Cx) (Λ : q_Lay) (a n : Nat) : Prop := Λ[a]? = some (.inl (false, n)) ∨ (a = 105 ∧ n = xn X)
abbrev q_oob (i : Int32) (n : Nat) : Prop := i < 0 ∨ n ≤ i.toNatClampNeg
section QS
variable {p : Program} {l : Launch} {e : Env} {R : Room} {s : State} {m : MethodId} {args : Array Value} {below : List Frame} {meth : Method} {c : Code} {H : Heap} {locs : List Loc} {cells slots : Nat} {Q : State → Prop}
variable {cc : ByteArray} {pc : Nat} {ls : Array Slot} {rest : List Value} {D : va_G} {cl : List vw_C} {A : Nat → Prop} {a : Nat} {ws : va_W} {tys : List (ClassId × FieldType)} {H0 : Heap}
/-- va_put, va_putF, va_iast, va_zast with the heap's size told -/
theorem q_put (hexec : p.tables.exec = Jvm.exec) (hb : c.code = cc) {own C : String} {T : u_T} {N ci index : Nat} {Ts : List Cond} (hts : ∀ w ∈ Ts, w.before args s = true) (hin : ∀ w ∈ u_ws C T N, w ∈ Ts) (ty0 : Nat → FieldType) (hty : ∀ k, k < N → parseFieldDescriptor (T k).2.2.1 = some (ty0 k)) (hnm : ∀ a, a < N → ∀ b, b < N → a ≠ b → (T a).2.1 ≠ (T b).2.1) (hown : s.vm.findClass own = some m.cls) (hK : va_K D cl tys s) (hP : va_P D cl ws H) (hD : va_D A ws) (hS0 : va_S A H0 H locs) (q0 : Nat) {fs : List Value} (he : ws[q0]? = some (a, .inr (ci, fs))) (hc : cl[ci]? = some (C, T, N)) (k : Nat) (hk : k < N) (hlink : (Cond.fieldLink own index (T k).1 (T k).2.1 (T k).2.2.1).before args s = true) (hfin : (T k).2.2.2 = false) {ty : FieldType} {v : Value} (hd : parseFieldDescriptor (T k).2.2.1 = some ty) (hn : narrow ty v = v) (hfit : fits ty v = true) (hl : k < fs.length)
    (hdg : decode cc pc = .ok (.putfield index, 3)) (kk : ∀ (H1 : Heap) (locs1 : List Loc), H1.size = H.size → va_P D cl (ws.set q0 (a, .inr (ci, fs.set k v))) H1 → va_S A H0 H1 locs1 → W p l e R s m args below meth c H1 locs1 cells slots Q (F0 m (pc + 3) ls rest)) : W p l e R s m args below meth c H locs cells slots Q (F0 m pc ls (v :: .ref a :: rest)) := by
  have hap := va_apart (own := own) hts hin ty0 hty hnm hK hc
  obtain ⟨r, h1, cell, q1, q2, q3, q4⟩ := hP q0 _ he
  have hr : r = (C, T, N) := Option.some.inj (h1.symm.trans hc)
  subst hr
  obtain ⟨hS, hfc, kC, hkC, hkind⟩ := hK.1 ci _ hc
  obtain ⟨cf, kf, fi, f, hi, hsl⟩ := hS k hk
  have hlay := hts _ (hin _ (u_in_lay hk))
  unfold u_lay at hlay
  rw [if_neg (by rw [hfin]; decide)] at hlay
  have hst := (u_facts hfc hkC (u_lays hts hin hk) hi).1
  have h6 := u_store hfc hkC hkind hlay hi hd hn hfit
  refine W.putK hexec hb (f := f) ⟨hown, hlink, ⟨_, _, _, hi⟩, hst⟩ (by rw [q2]; exact h6) q1 q3 (by rw [hsl]; exact k2_hasslot (q4 k hk)) rfl rfl hdg fun H' e1 e2 e3 => ?_
  rw [hsl] at e1 ⊢
  exact kk H' _ e2 (hP.set hD he ⟨_, hc, t_OB.to (V := updV (vp_V fs) k v) ⟨_, e1, q2, q3, t_set q4 hap hk v⟩ (fun j _ => vp_updV_set hl v j)⟩ e3) (hS0.put e2 e3 (hD.2 q0 _ he))
theorem q_putF (hexec : p.tables.exec = Jvm.exec) (hb : c.code = cc) {own C : String} {T : u_T} {N ci index : Nat} {Ts : List Cond} (hts : ∀ w ∈ Ts, w.before args s = true) (hin : ∀ w ∈ u_ws C T N, w ∈ Ts) (ty0 : Nat → FieldType) (hty : ∀ k, k < N → parseFieldDescriptor (T k).2.2.1 = some (ty0 k)) (hnm : ∀ a, a < N → ∀ b, b < N → a ≠ b → (T a).2.1 ≠ (T b).2.1) (hown : s.vm.findClass own = some m.cls) (hK : va_K D cl tys s) (hP : va_P D cl ws H) (hD : va_D A ws) (hS0 : va_S A H0 H locs) (q0 : Nat) {fs : List Value} (he : ws[q0]? = some (a, .inr (ci, fs))) (hc : cl[ci]? = some (C, T, N)) (k : Nat) (hk : k < N) (hlink : (Cond.fieldLink own index (T k).1 (T k).2.1 (T k).2.2.1).before args s = true) (hfin : (T k).2.2.2 = true) (hin2 : meth.name = "<init>") (hdecl : (T k).1 = own) {ty : FieldType} {v : Value} (hd : parseFieldDescriptor (T k).2.2.1 = some ty) (hn : narrow ty v = v) (hfit : fits ty v = true) (hl : k < fs.length)
    (hdg : decode cc pc = .ok (.putfield index, 3)) (kk : ∀ (H1 : Heap) (locs1 : List Loc), H1.size = H.size → va_P D cl (ws.set q0 (a, .inr (ci, fs.set k v))) H1 → va_S A H0 H1 locs1 → W p l e R s m args below meth c H1 locs1 cells slots Q (F0 m (pc + 3) ls rest)) : W p l e R s m args below meth c H locs cells slots Q (F0 m pc ls (v :: .ref a :: rest)) := by
  have hap := va_apart (own := own) hts hin ty0 hty hnm hK hc
  obtain ⟨r, h1, cell, q1, q2, q3, q4⟩ := hP q0 _ he
  have hr : r = (C, T, N) := Option.some.inj (h1.symm.trans hc)
  subst hr
  obtain ⟨hS, hfc, kC, hkC, hkind⟩ := hK.1 ci _ hc
  obtain ⟨cf, kf, fi, f, hi, hsl⟩ := hS k hk
  have hlay := hts _ (hin _ (u_in_lay hk))
  unfold u_lay at hlay
  rw [if_pos hfin] at hlay
  have hst := (u_facts hfc hkC (u_lays hts hin hk) hi).1
  have hcf : m.cls = cf := by
    obtain ⟨_, _, c', _, _, _, -, -, hf', -, -, -, hown2, -⟩ := Cond.laysFinal_spec hlay
    have e1 : c' = cf := by have := hi.symm.trans hf'; simp at this; exact this.1.symm
    rw [hdecl] at hown2
    rw [← e1]; exact Option.some.inj (hown.symm.trans hown2)
  have h6 := u_fits hfc hkC hkind (Or.inr hlay) hi hd hn hfit
  refine W.putFinK hexec hb hown hlink hi hst hcf hin2 (by rw [q2]; exact h6) q1 q3 (by rw [hsl]; exact k2_hasslot (q4 k hk)) rfl rfl hdg fun H' e1 e2 e3 => ?_
  rw [hsl] at e1 ⊢
  exact kk H' _ e2 (hP.set hD he ⟨_, hc, t_OB.to (V := updV (vp_V fs) k v) ⟨_, e1, q2, q3, t_set q4 hap hk v⟩ (fun j _ => vp_updV_set hl v j)⟩ e3) (hS0.put e2 e3 (hD.2 q0 _ he))
theorem q_iast (hexec : p.tables.exec = Jvm.exec) (hb : c.code = cc) (hK : va_K D cl tys s) (hP : va_P D cl ws H) (hD : va_D A ws) (hS : va_S A H0 H locs) (q0 t0 : Nat) {cA : ClassId} {n : Nat} {f : Nat → Int32} (ha : ws[q0]? = some (a, .inl (cA, n, .inl f))) (ht : tys[t0]? = some (cA, .int)) {i : Int32} {x : Int32} (hin : vp_in i n) (hdg : decode cc pc = .ok (.iastore, 1))
    (kk : ∀ (H1 : Heap) (locs1 : List Loc), H1.size = H.size → va_P D cl (ws.set q0 (a, .inl (cA, n, .inl (upd f i.toNatClampNeg x)))) H1 → va_S A H0 H1 locs1 → W p l e R s m args below meth c H1 locs1 cells slots Q (F0 m (pc + 1) ls rest)) : W p l e R s m args below meth c H locs cells slots Q (F0 m pc ls (.int x :: .int i :: .ref a :: rest)) := by
  refine W.iast hexec hb (hP q0 _ ha) ((hK.2 t0 _ ht).1 n (fun j => .int (f j))) (fun q => by cases q) (by show ¬ (i < 0 ∨ (arrV _ _ _).slots.size ≤ _); rw [arrV_size]; exact hin) rfl rfl hdg fun H1 e z oq => ?_
  refine kk H1 _ z (hP.set hD ha ?_ oq) (hS.put z oq (hD.2 q0 _ ha))
  show H1[a]? = some (vp_cell _ _)
  rw [e]
  rw [vp_cell_i, vp_cell_i, arrV_store]
  congr 2
  funext q
  by_cases hq : q = i.toNatClampNeg
  · subst hq
    simp [updV, upd]
  · simp [updV, upd, hq]
theorem q_last (hexec : p.tables.exec = Jvm.exec) (hb : c.code = cc) (hK : va_K D cl tys s) (hP : va_P D cl ws H) (hD : va_D A ws) (hS : va_S A H0 H locs) (q0 t0 : Nat) {cA : ClassId} {n : Nat} {f : Nat → Int64} (ha : ws[q0]? = some (a, .inl (cA, n, .inr (.inl f)))) (ht : tys[t0]? = some (cA, .long)) {i : Int32} {x : Int64} (hin : vp_in i n) (hdg : decode cc pc = .ok (.lastore, 1))
    (kk : ∀ (H1 : Heap) (locs1 : List Loc), H1.size = H.size → va_P D cl (ws.set q0 (a, .inl (cA, n, .inr (.inl (vp_updL f i.toNatClampNeg x))))) H1 → va_S A H0 H1 locs1 → W p l e R s m args below meth c H1 locs1 cells slots Q (F0 m (pc + 1) ls rest)) : W p l e R s m args below meth c H locs cells slots Q (F0 m pc ls (.long x :: .int i :: .ref a :: rest)) := by
  refine W.last hexec hb (hP q0 _ ha) ((hK.2 t0 _ ht).1 n (fun j => .long (f j))) (fun q => by cases q) (by show ¬ (i < 0 ∨ (arrV _ _ _).slots.size ≤ _); rw [arrV_size]; exact hin) rfl rfl hdg fun H1 e z oq => ?_
  refine kk H1 _ z (hP.set hD ha ?_ oq) (hS.put z oq (hD.2 q0 _ ha))
  show H1[a]? = some (vp_cell _ _)
  rw [e]
  rw [vp_cell_l, vp_cell_l, arrV_store]
  congr 2
  funext q
  by_cases hq : q = i.toNatClampNeg
  · subst hq
    simp [updV, vp_updL]
  · simp [updV, vp_updL, hq]
end QS
section QH
variable {X : q_Cx} {M : q_Mt} {Q : q_Fin} {ph : q_Lay × Nat × Nat} {σ : Sg} {pc pc' : Nat} {l l' : List (Nat × Value)} {st rest : List Value} {E E1 E2 : Rs}
variable {idx ci N k o : Nat} {C : String} {T : u_T} {fs : List (Option (Option Nat))}
theorem gq_geti (d : decode M.2.1 pc = .ok (.getfield idx, 3)) (hp : pc + 3 = pc') (f : q_FL M.1.cls idx ci C T N k) (ho : ph.1[o]? = some (.inr (ci, fs))) (hf : fs[k]? = some none) (kk : q_G X M Q ph σ pc' l (.int (σ o k) :: st) E) : q_G X M Q ph σ pc l (.ref (xa X o) :: st) E := by
  subst hp
  obtain ⟨f1, f2, f3, f4⟩ := f
  intro hE p e s m args below meth c H locs ls V hP hz h6 hT hS h
  exact va_get V.1 V.2.1 V.2.2.2.2.2.1 f4 V.2.2.2.2.1 V.2.2.2.2.2.2.2.2.1 hP o (q_Wget ho) f3 k f2 (V.2.2.2.2.2.1 _ f1) (fun _ h9 => h9) (v := .int (σ o k)) (by simp [hf, q_fv]) d (kk hE p e s m args below meth c H locs ls V hP hz h6 hT hS h)
theorem gq_getr {t : Nat} (d : decode M.2.1 pc = .ok (.getfield idx, 3)) (hp : pc + 3 = pc') (f : q_FL M.1.cls idx ci C T N k) (ho : ph.1[o]? = some (.inr (ci, fs))) (hf : fs[k]? = some (some (some t))) (kk : q_G X M Q ph σ pc' l (.ref (xa X t) :: st) E) : q_G X M Q ph σ pc l (.ref (xa X o) :: st) E := by
  subst hp
  obtain ⟨f1, f2, f3, f4⟩ := f
  intro hE p e s m args below meth c H locs ls V hP hz h6 hT hS h
  exact va_get V.1 V.2.1 V.2.2.2.2.2.1 f4 V.2.2.2.2.1 V.2.2.2.2.2.2.2.2.1 hP o (q_Wget ho) f3 k f2 (V.2.2.2.2.2.1 _ f1) (fun _ h9 => h9) (v := .ref (xa X t)) (by simp [hf, q_fv]) d (kk hE p e s m args below meth c H locs ls V hP hz h6 hT hS h)
theorem gq_puti {ty : FieldType} {v : Int32} (d : decode M.2.1 pc = .ok (.putfield idx, 3)) (hp : pc + 3 = pc') (f : q_FL M.1.cls idx ci C T N k) (g : q_PL C T N k ty false) (ho : ph.1[o]? = some (.inr (ci, fs))) (hf : fs[k]? = some none) (hn : narrow ty (.int v) = .int v) (hfit : fits ty (.int v) = true) (kk : q_G X M Q ph (q_wr σ o k v) pc' l st E) : q_G X M Q ph σ pc l (.int v :: .ref (xa X o) :: st) E := by
  subst hp
  obtain ⟨f1, f2, f3, f4⟩ := f
  obtain ⟨g1, g2, ⟨ty0, g3⟩, g4⟩ := g
  intro hE p e s m args below meth c H locs ls V hP hz h6 hT hS h
  have hol := (List.getElem?_eq_some_iff.mp ho).1
  have hkl := (List.getElem?_eq_some_iff.mp hf).1
  refine q_put V.1 V.2.1 V.2.2.2.2.2.1 f4 ty0 g3 g4 V.2.2.2.2.1 V.2.2.2.2.2.2.2.2.1 hP (q_D V.2.2.2.2.2.2.2.2.2.2 h6) hS o (q_Wget ho) f3 k f2 (V.2.2.2.2.2.1 _ f1) g1 g2 hn hfit (by simpa using hkl) d (fun H1 locs1 hz1 hP1 hS1 => ?_)
  rw [q_Wset (σ' := q_wr σ o k v) (q_set_self ho) hol (q_fset hf) (fun o' h => q_wr_ne h)] at hP1
  exact kk hE p e s m args below meth c H1 locs1 ls V hP1 (hz1.trans hz) h6 (q_STw hT (fun o' h => q_wr_ne (by omega))) hS1 h
theorem gq_putr {ty : FieldType} {t : Nat} {r : Option (Option Nat)} {Λ : q_Lay} {cs ns : Nat} (d : decode M.2.1 pc = .ok (.putfield idx, 3)) (hp : pc + 3 = pc') (f : q_FL M.1.cls idx ci C T N k) (g : q_PL C T N k ty true) (hi : M.1.name = "<init>") (hd : (T k).1 = M.1.cls) (ho : Λ[o]? = some (.inr (ci, fs))) (hf : fs[k]? = some r) (hn : narrow ty (.ref (xa X t)) = .ref (xa X t)) (hfit : fits ty (.ref (xa X t)) = true) {Λ' : q_Lay} (hΛ : Λ.set o (.inr (ci, fs.set k (some (some t)))) = Λ') (kk : q_G X M Q (Λ', cs, ns) σ pc' l st E) : q_G X M Q (Λ, cs, ns) σ pc l (.ref (xa X t) :: .ref (xa X o) :: st) E := by
  subst hp
  subst hΛ
  obtain ⟨f1, f2, f3, f4⟩ := f
  obtain ⟨g1, g2, ⟨ty0, g3⟩, g4⟩ := g
  intro hE p e s m args below meth c H locs ls V hP hz h6 hT hS h
  have hol := (List.getElem?_eq_some_iff.mp ho).1
  have hkl := (List.getElem?_eq_some_iff.mp hf).1
  refine q_putF V.1 V.2.1 V.2.2.2.2.2.1 f4 ty0 g3 g4 V.2.2.2.2.1 V.2.2.2.2.2.2.2.2.1 hP (q_D V.2.2.2.2.2.2.2.2.2.2 h6) hS o (q_Wget ho) f3 k f2 (V.2.2.2.2.2.1 _ f1) g1 (V.2.2.2.2.2.2.2.1 hi) hd g2 hn hfit (by simpa using hkl) d (fun H1 locs1 hz1 hP1 hS1 => ?_)
  rw [q_Wset (σ' := σ) rfl hol (q_rset hkl) (fun o' h => rfl)] at hP1
  exact kk hE p e s m args below meth c H1 locs1 ls V hP1 (by rw [hz1, hz]; simp) (by simpa using h6) hT hS1 h
/-- a final int field in a constructor: none here; a boolean field: by gq_puti -/
theorem gq_iald {a n : Nat} {i : Int32} (d : decode M.2.1 pc = .ok (.iaload, 1)) (hp : pc + 1 = pc') (ha : q_RA X ph.1 a n) (kk : ¬ q_oob i n → q_G X M Q ph σ pc' l (.int (σ a i.toNatClampNeg) :: st) E) : q_G X M Q ph σ pc l (.int i :: .ref (xa X a) :: st) (if q_oob i n then none else E) := by
  subst hp
  refine gq_ite (fun _ => gq_none) (fun hb => ?_)
  intro hE p e s m args below meth c H locs ls V hP hz h6 hT hS h
  have k2 := kk hb hE p e s m args below meth c H locs ls V hP hz h6 hT hS h
  rcases ha with ha | ⟨rfl, rfl⟩
  · exact va_iald V.1 V.2.1 V.2.2.2.2.2.2.2.2.1 hP a 0 (q_Wget ha) rfl hb d k2
  · exact va_ti V.1 V.2.1 hT hS hb rfl d k2
theorem gq_lald {a n : Nat} {i : Int32} (d : decode M.2.1 pc = .ok (.laload, 1)) (hp : pc + 1 = pc') (ha : ph.1[a]? = some (.inl (true, n))) (kk : ¬ q_oob i n → q_G X M Q ph σ pc' l (.long (q_lg σ a i.toNatClampNeg) :: st) E) : q_G X M Q ph σ pc l (.int i :: .ref (xa X a) :: st) (if q_oob i n then none else E) := by
  subst hp
  refine gq_ite (fun _ => gq_none) (fun hb => ?_)
  intro hE p e s m args below meth c H locs ls V hP hz h6 hT hS h
  exact va_lald V.1 V.2.1 V.2.2.2.2.2.2.2.2.1 hP a 1 (q_Wget ha) rfl hb d (kk hb hE p e s m args below meth c H locs ls V hP hz h6 hT hS h)
theorem gq_alen {a n : Nat} {v : Int32} (d : decode M.2.1 pc = .ok (.arraylength, 1)) (hp : pc + 1 = pc') (ha : q_RA X ph.1 a n) (hv : Int32.ofNat n = v) (kk : q_G X M Q ph σ pc' l (.int v :: st) E) : q_G X M Q ph σ pc l (.ref (xa X a) :: st) E := by
  subst hp
  subst hv
  intro hE p e s m args below meth c H locs ls V hP hz h6 hT hS h
  have k2 := kk hE p e s m args below meth c H locs ls V hP hz h6 hT hS h
  rcases ha with ha | ⟨rfl, rfl⟩
  · exact va_alen V.1 V.2.1 V.2.2.2.2.2.2.2.2.1 hP a 0 (q_Wget ha) rfl rfl d k2
  · exact va_tlen V.1 V.2.1 hT hS rfl d k2
theorem gq_iast {a n : Nat} {i x : Int32} (d : decode M.2.1 pc = .ok (.iastore, 1)) (hp : pc + 1 = pc') (ha : ph.1[a]? = some (.inl (false, n))) (kk : ¬ q_oob i n → q_G X M Q ph (q_wr σ a i.toNatClampNeg x) pc' l st E) : q_G X M Q ph σ pc l (.int x :: .int i :: .ref (xa X a) :: st) (if q_oob i n then none else E) := by
  subst hp
  refine gq_ite (fun _ => gq_none) (fun hb => ?_)
  intro hE p e s m args below meth c H locs ls V hP hz h6 hT hS h
  have hol := (List.getElem?_eq_some_iff.mp ha).1
  refine q_iast V.1 V.2.1 V.2.2.2.2.2.2.2.2.1 hP (q_D V.2.2.2.2.2.2.2.2.2.2 h6) hS a 0 (q_Wget ha) rfl hb d (fun H1 locs1 hz1 hP1 hS1 => ?_)
  rw [q_Wset (σ' := q_wr σ a i.toNatClampNeg x) (q_set_self ha) hol q_aset (fun o' h => q_wr_ne h)] at hP1
  exact kk hb hE p e s m args below meth c H1 locs1 ls V hP1 (hz1.trans hz) h6 (q_STw hT (fun o' h => q_wr_ne (by omega))) hS1 h
theorem gq_last {a n : Nat} {i : Int32} {x : Int64} (d : decode M.2.1 pc = .ok (.lastore, 1)) (hp : pc + 1 = pc') (ha : ph.1[a]? = some (.inl (true, n))) (kk : ¬ q_oob i n → q_G X M Q ph (q_wrl σ a i.toNatClampNeg x) pc' l st E) : q_G X M Q ph σ pc l (.long x :: .int i :: .ref (xa X a) :: st) (if q_oob i n then none else E) := by
  subst hp
  refine gq_ite (fun _ => gq_none) (fun hb => ?_)
  intro hE p e s m args below meth c H locs ls V hP hz h6 hT hS h
  have hol := (List.getElem?_eq_some_iff.mp ha).1
  refine q_last V.1 V.2.1 V.2.2.2.2.2.2.2.2.1 hP (q_D V.2.2.2.2.2.2.2.2.2.2 h6) hS a 1 (q_Wget ha) rfl hb d (fun H1 locs1 hz1 hP1 hS1 => ?_)
  rw [q_Wset (σ' := q_wrl σ a i.toNatClampNeg x) (q_set_self ha) hol q_lset (fun o' h => q_wrl_ne h)] at hP1
  exact kk hb hE p e s m args below meth c H1 locs1 ls V hP1 (hz1.trans hz) h6 (q_STw hT (fun o' h => q_wrl_ne (by omega))) hS1 h
theorem gq_ldc2 {v : Int64} (d : decode M.2.1 pc = .ok (.ldc2_w idx, 3)) (hp : pc + 3 = pc') (hl : Cond.constantLong M.1.cls idx v ∈ lw_gd) (kk : q_G X M Q ph σ pc' l (.long v :: st) E) : q_G X M Q ph σ pc l st E := by
  subst hp
  intro hE p e s m args below meth c H locs ls V hP hz h6 hT hS h
  exact lv_ldc2 V.1 V.2.1 V.2.2.2.2.1 (V.2.2.2.2.2.1 _ hl) d (kk hE p e s m args below meth c H locs ls V hP hz h6 hT hS h)
end QH
end
section
/-! THE LAYER's RULES: calls, ends, new cells, a method's contract -/
theorem q_good : lw_gd.all goodWord = true := List.all_eq_true.mpr (fun w hw => (List.mem_filter.mp hw).2)
theorem q_gi {ws : List Cond} (h : ∀ w ∈ ws, w ∈ lw_gd) : GoodIn lw_gd ws := fun w hw => ⟨h w hw, good_of_word (List.all_eq_true.mp q_good w (h w hw))⟩
def q_MF (M : q_Mt) (n : Nat) : Prop := plainName M.1.cls = true ∧ (M.1.cls ≠ "java/lang/invoke/MethodHandle" ∧ M.1.cls ≠ "java/lang/invoke/VarHandle" ∧ (parseMethodDescriptor M.1.desc).map (fun d => d.parameters.length) = some n) ∧ Cond.initialized M.1.cls ∈ lw_gd ∧ Cond.code M.1 M.2.1 M.2.2.1 M.2.2.2.1 ∈ lw_gd
theorem q_wsin {M : q_Mt} {n : Nat} (h : q_MF M n) : ∀ w ∈ q_ws M, w ∈ lw_gd := fun w hw => by
  rcases List.mem_cons.mp hw with rfl | h1
  · exact h.2.2.2
  · exact h1
def q_LV (own : String) (idx : Nat) (y : MethodName) : Prop := Cond.methodLink own idx y ∈ lw_gd ∧ Cond.instanceMethod y ∈ lw_gd ∧ Cond.selects y.cls y y ∈ lw_gd
def q_LS (own : String) (idx : Nat) (y : MethodName) : Prop := Cond.methodLink own idx y ∈ lw_gd ∧ Cond.static y ∈ lw_gd
def q_LSN (own : String) (idx : Nat) (y : MethodName) : Prop := (own, idx, y) ∈ q_nests ∧ Cond.static y ∈ lw_gd
def q_LI (own : String) (idx : Nat) (y : MethodName) : Prop := Cond.methodLink own idx y ∈ lw_gd ∧ Cond.instanceMethod y ∈ lw_gd ∧ y.name = "<init>"
def q_LIN (own : String) (idx : Nat) (y : MethodName) : Prop := (own, idx, y) ∈ q_nests ∧ Cond.instanceMethod y ∈ lw_gd ∧ y.name = "<init>"
theorem q_Tback {X : q_Cx} {ty : FieldType} {a N : Nat} {f f' : Nat → Value} {s t : State} {H1 : Heap} {locs : List Loc} (h0 : va_T ty a N f (q_A X) s s.heap) (h1 : va_T ty a N f' (q_A X) t H1) (hS : va_S (q_A X) s.heap H1 locs) : va_T ty a N f' (q_A X) s s.heap := by
  obtain ⟨c0, a1, a2, a3, a4, a5, a6, a7⟩ := h0
  obtain ⟨c1, b1, b2, b3, b4, b5, b6, b7⟩ := h1
  rw [hS.2.1 a (Array.getElem?_eq_some_iff.mp a1).1 a7, a1] at b1
  cases b1
  exact ⟨c0, a1, a2, a3, a4, a5, b6, a7⟩
def q_isI (t : Option FieldType) : Bool := match t with
  | none => false
  | some .long => false
  | some _ => true
section QC
variable {X : q_Cx} {M Mc : q_Mt} {Q : q_Fin} {σ : Sg} {pc pc' cs ns cs' ns' idx n : Nat} {Λ Λe : q_Lay} {l : List (Nat × Value)} {st rest As : List Value} {Ec : Rs} {E' : Sg → Int32 → Rs}
/-- what a call site owes: that the callee's run is one -/
def q_Site (X : q_Cx) (M Mc : q_Mt) (Λ Λe : q_Lay) (cs ns : Nat) (σ : Sg) (pc : Nat) (l : List (Nat × Value)) (st rest : List Value) (Ec : Rs) : Prop :=
  (∃ x, Ec = some x) → ∀ (p : Program) (e : Env) (s : State) (m : MethodId) (args : Array Value) (below : List Frame) (meth : Method) (c : Code) (H : Heap) (locs : List Loc) (ls : Array Slot), q_MC X M p s m args meth c →
    va_P (xD X) vwCl (q_W X Λ σ) H → H.size = xb X + Λ.length → Λ.length ≤ 64 → q_ST X σ s s.heap → va_S (q_A X) s.heap H locs → lv_has ls M.2.2.1 l →
    va_Run p (xl X) e M.2.2.2.2 s m args below meth c H locs cs ns Mc.2.2.2.2.cells Mc.2.2.2.2.slots (F0 m pc ls st) rest (q_QE X Λe Mc Ec #[]) (q_A X)
theorem gq_call (hr : q_Site X M Mc Λ Λe cs ns σ pc l st rest Ec) (hc : cs + Mc.2.2.2.2.cells = cs') (hn : ns + Mc.2.2.2.2.slots = ns') (hp : pc + 3 = pc')
    (kk : ∀ (σ' : Sg) (r : Int32), Ec = some (σ', r) → q_G X M Q (Λe, cs', ns') σ' pc' l ((q_rv Mc.2.2.2.1 σ' r).toList ++ rest) (E' σ' r)) : q_G X M Q (Λ, cs, ns) σ pc l st (q_bnd Ec E') := by
  subst hc; subst hn; subst hp
  intro hE p e s m args below meth c H locs ls V hP hz h6 hT hS h
  have hEc : ∃ x, Ec = some x := by
    cases hx : Ec with
    | none => rw [hx] at hE; obtain ⟨x, hE⟩ := hE; cases hE
    | some x => exact ⟨x, rfl⟩
  intro T hTT Xs
  obtain ⟨v, st₀, t, T', L, h0, X', hL, e1, e2, ⟨σ', r, hEr, hv, ⟨i1, i2, i3, i4, i5⟩, hF1, hF2⟩, stp⟩ := hr hEc p e s m args below meth c H locs ls V hP hz h6 hT hS h T hTT Xs
  cases hv
  rw [h0] at hF1 hF2
  have hS1 : va_S (q_A X) s.heap T'.heap (locs ++ L) := ⟨Nat.le_trans hS.1 (by rw [e1]; exact hF1), fun q h1 h2 => by rw [e1, hF2 q (Nat.lt_of_lt_of_le h1 hS.1) h2]; exact hS.2.1 q h1 h2, fun q hq => by
    rcases List.mem_append.mp hq with h | h
    · exact hS.2.2 q h
    · exact hL q h⟩
  have hT1 : q_ST X σ' s s.heap := q_Tback hT i5 (by rw [← e1]; exact hS1)
  have hE2 : ∃ x, E' σ' r = some x := by rw [hEr] at hE; exact hE
  have hQ : q_bnd Ec E' = E' σ' r := by rw [hEr]; rfl
  obtain ⟨t2, a1, b1⟩ := kk σ' r hEr hE2 p e s m args below meth c T'.heap (locs ++ L) ls V (by rw [e1]; exact i1) (by rw [e1]; exact i2) i3 hT1 hS1 h T' rfl X'
  rw [hQ]
  exact ⟨t2, stp t2 a1, b1⟩
theorem gq_callj (hr : q_Site X M Mc Λ Λe cs ns σ pc l st rest Ec) (hc : cs + Mc.2.2.2.2.cells = cs') (hn : ns + Mc.2.2.2.2.slots = ns') (hp : pc + 3 = pc') (ht : Mc.2.2.2.1 = some .long)
    (kk : ∀ (σ' : Sg) (r : Int32), Ec = some (σ', r) → q_G X M Q (Λe, cs', ns') σ' pc' l (.long (q_lg σ' 200 0) :: rest) (E' σ' r)) : q_G X M Q (Λ, cs, ns) σ pc l st (q_bnd Ec E') := by
  refine gq_call hr hc hn hp (fun σ' r hh => ?_)
  have h1 : (q_rv Mc.2.2.2.1 σ' r).toList ++ rest = .long (q_lg σ' 200 0) :: rest := by rw [ht]; rfl
  rw [h1]
  exact kk σ' r hh
theorem gq_calli (hr : q_Site X M Mc Λ Λe cs ns σ pc l st rest Ec) (hc : cs + Mc.2.2.2.2.cells = cs') (hn : ns + Mc.2.2.2.2.slots = ns') (hp : pc + 3 = pc') (ht : q_isI Mc.2.2.2.1 = true)
    (kk : ∀ (σ' : Sg) (r : Int32), Ec = some (σ', r) → q_G X M Q (Λe, cs', ns') σ' pc' l (.int r :: rest) (E' σ' r)) : q_G X M Q (Λ, cs, ns) σ pc l st (q_bnd Ec E') := by
  refine gq_call hr hc hn hp (fun σ' r hh => ?_)
  have h1 : (q_rv Mc.2.2.2.1 σ' r).toList ++ rest = .int r :: rest := by
    generalize Mc.2.2.2.1 = z at ht
    cases z with
    | none => cases ht
    | some t => cases t <;> first | rfl | cases ht
  rw [h1]
  exact kk σ' r hh
theorem gq_callv (hr : q_Site X M Mc Λ Λe cs ns σ pc l st rest Ec) (hc : cs + Mc.2.2.2.2.cells = cs') (hn : ns + Mc.2.2.2.2.slots = ns') (hp : pc + 3 = pc') (ht : Mc.2.2.2.1 = none)
    (kk : ∀ (σ' : Sg) (r : Int32), Ec = some (σ', r) → q_G X M Q (Λe, cs', ns') σ' pc' l rest (E' σ' r)) : q_G X M Q (Λ, cs, ns) σ pc l st (q_bnd Ec E') := by
  refine gq_call hr hc hn hp (fun σ' r hh => ?_)
  have h1 : (q_rv Mc.2.2.2.1 σ' r).toList ++ rest = rest := by rw [ht]; rfl
  rw [h1]
  exact kk σ' r hh
/-- the callee's start, out of the caller's world -/
theorem q_pre {args0 : List Value} {s : State} {H : Heap} {locs : List Loc} (hEc : ∃ x, Ec = some x) (hX : q_FX X s) (hP : va_P (xD X) vwCl (q_W X Λ σ) H) (hz : H.size = xb X + Λ.length) (h6 : Λ.length ≤ 64) (hT : q_ST X σ s s.heap) (hS : va_S (q_A X) s.heap H locs) :
    PreS s H (va_Pc args0 (fun U => (∃ x, Ec = some x) ∧ q_INV X Λ σ U)) args0 := by
  refine ⟨fun a U g mk q => ⟨q.1, q.2.1, q.2.2.1, q.2.2.2.1, q.2.2.2.2.1, q.2.2.2.2.2.1.same (u := U) (U := U.calling g mk a) rfl, q.2.2.2.2.2.2.moved (u := U) (U := U.calling g mk a) (Vm.Alike.refl U.vm) (fun _ _ _ => rfl)⟩, fun U hU hW => ?_⟩
  refine ⟨rfl, hEc, by rw [hU]; exact hP, by rw [hU]; exact hz, h6, hX.moved hW, hT.moved hW.alike ?_⟩
  intro a h1 h2
  rw [hU]
  exact hS.2.1 a h1 h2
theorem gq_siteV {o ci N : Nat} {T : u_T} {fs : List (Option (Option Nat))} (d : decode M.2.1 pc = .ok (.invokevirtual idx, 3)) (lk : q_LV M.1.cls idx Mc.1) (mf : q_MF Mc n) (hx : q_Ex X Mc Λ Λe (.ref (xa X o) :: As) σ Ec) (ho : Λ[o]? = some (.inr (ci, fs))) (hci : vwCl[ci]? = some (Mc.1.cls, T, N)) (hn : As.length = n)
    (hR : Mc.2.2.2.2.frames + 1 ≤ M.2.2.2.2.frames ∧ 8 + (Mc.2.2.1 + 11) + Mc.2.2.2.2.locals ≤ M.2.2.2.2.locals) (hf : cs + Mc.2.2.2.2.cells ≤ M.2.2.2.2.cells ∧ ns + Mc.2.2.2.2.slots ≤ M.2.2.2.2.slots) (hst : st = As.reverse ++ .ref (xa X o) :: rest) (hw : (rest.map fun v => v.category).sum ≤ 8) : q_Site X M Mc Λ Λe cs ns σ pc l st rest Ec := by
  subst hst
  intro hEc p e s m args below meth c H locs ls V hP hz h6 hT hS h
  have hG : GoodIn lw_gd (wsV M.1.cls idx Mc.1.cls Mc.1 (q_ws Mc)) := q_gi (fun w hw => by
    rcases List.mem_append.mp hw with h1 | h1
    · simp only [List.mem_cons, List.not_mem_nil, or_false] at h1
      rcases h1 with rfl | rfl | rfl | rfl
      · exact lk.1
      · exact lk.2.1
      · exact lk.2.2
      · exact mf.2.2.1
    · exact q_wsin mf w h1)
  have hpre := q_pre (args0 := .ref (xa X o) :: As) hEc V.2.2.2.2.2.2.2.2 hP hz h6 hT hS
  exact va_runV (As := As) (rest := rest) ⟨V.1, V.2.1, V.2.2.2.1, V.2.2.2.2.1, V.2.2.2.2.2.1⟩ hx (cwV n V.2.2.2.2.2.1 hG rfl rfl rfl ⟨rfl, mf.2.1⟩ hR) ⟨hpre.1, va_recv V.2.2.2.2.2.2.2.2.1 hP hci (q_Wget ho), hpre.2⟩ rfl hn h.1 rfl (lv_room hw) d hf
theorem gq_siteS (d : decode M.2.1 pc = .ok (.invokestatic idx, 3)) (lk : q_LS M.1.cls idx Mc.1) (mf : q_MF Mc n) (hx : q_Ex X Mc Λ Λe As σ Ec) (hn : As.length = n)
    (hR : Mc.2.2.2.2.frames + 1 ≤ M.2.2.2.2.frames ∧ 8 + (Mc.2.2.1 + 11) + Mc.2.2.2.2.locals ≤ M.2.2.2.2.locals) (hf : cs + Mc.2.2.2.2.cells ≤ M.2.2.2.2.cells ∧ ns + Mc.2.2.2.2.slots ≤ M.2.2.2.2.slots) (hst : st = As.reverse ++ rest) (hw : (rest.map fun v => v.category).sum ≤ 8) : q_Site X M Mc Λ Λe cs ns σ pc l st rest Ec := by
  subst hst
  intro hEc p e s m args below meth c H locs ls V hP hz h6 hT hS h
  have hG : GoodIn lw_gd (va_wsS M.1.cls idx Mc.1 (q_ws Mc)) := q_gi (fun w hw => by
    rcases List.mem_append.mp hw with h1 | h1
    · simp only [List.mem_cons, List.not_mem_nil, or_false] at h1
      rcases h1 with rfl | rfl | rfl
      · exact lk.1
      · exact lk.2
      · exact mf.2.2.1
    · exact q_wsin mf w h1)
  have hpre := q_pre (args0 := As) hEc V.2.2.2.2.2.2.2.2 hP hz h6 hT hS
  exact va_runS (As := As) (rest := rest) ⟨V.1, V.2.1, V.2.2.2.1, V.2.2.2.2.1, V.2.2.2.2.2.1⟩ hx (va_cwS n V.2.2.2.2.2.1 hG rfl rfl rfl mf.2.1 hR) hpre rfl hn h.1 rfl (lv_room hw) d hf
theorem gq_siteSN (d : decode M.2.1 pc = .ok (.invokestatic idx, 3)) (lk : q_LSN M.1.cls idx Mc.1) (mf : q_MF Mc n) (hx : q_Ex X Mc Λ Λe As σ Ec) (hn : As.length = n)
    (hR : Mc.2.2.2.2.frames + 1 ≤ M.2.2.2.2.frames ∧ 8 + (Mc.2.2.1 + 11) + Mc.2.2.2.2.locals ≤ M.2.2.2.2.locals) (hf : cs + Mc.2.2.2.2.cells ≤ M.2.2.2.2.cells ∧ ns + Mc.2.2.2.2.slots ≤ M.2.2.2.2.slots) (hst : st = As.reverse ++ rest) (hw : (rest.map fun v => v.category).sum ≤ 8) : q_Site X M Mc Λ Λe cs ns σ pc l st rest Ec := by
  subst hst
  intro hEc p e s m args below meth c H locs ls V hP hz h6 hT hS h
  have hpre := q_pre (args0 := As) hEc V.2.2.2.2.2.2.2.2 hP hz h6 hT hS
  exact va_runSN (As := As) (rest := rest) ⟨V.1, V.2.1, V.2.2.2.1, V.2.2.2.2.1, V.2.2.2.2.2.1⟩ hx ⟨va_cnB n V.2.2.2.2.2.1 (q_gi (q_wsin mf)) rfl rfl rfl (V.2.2.2.2.2.2.2.2.2.1 _ lk.1) (V.2.2.2.2.2.1 _ mf.2.2.1) mf.2.1 hR, V.2.2.2.2.2.1 _ lk.2, trivial⟩ hpre rfl hn h.1 rfl (lv_room hw) d hf
theorem gq_siteI {o : Nat} (d : decode M.2.1 pc = .ok (.invokespecial idx, 3)) (lk : q_LI M.1.cls idx Mc.1) (mf : q_MF Mc n) (hret : Mc.2.2.2.1 = none) (hx : q_Ex X Mc Λ Λe (.ref (xa X o) :: As) σ Ec) (hn : As.length = n)
    (hR : Mc.2.2.2.2.frames + 1 ≤ M.2.2.2.2.frames ∧ 8 + (Mc.2.2.1 + 11) + Mc.2.2.2.2.locals ≤ M.2.2.2.2.locals) (hf : cs + Mc.2.2.2.2.cells ≤ M.2.2.2.2.cells ∧ ns + Mc.2.2.2.2.slots ≤ M.2.2.2.2.slots) (hst : st = As.reverse ++ .ref (xa X o) :: rest) (hw : (rest.map fun v => v.category).sum ≤ 8) : q_Site X M Mc Λ Λe cs ns σ pc l st rest Ec := by
  subst hst
  intro hEc p e s m args below meth c H locs ls V hP hz h6 hT hS h
  have hpre := q_pre (args0 := .ref (xa X o) :: As) hEc V.2.2.2.2.2.2.2.2 hP hz h6 hT hS
  exact va_runI (As := As) (rest := rest) ⟨V.1, V.2.1, V.2.2.2.1, V.2.2.2.2.1, V.2.2.2.2.2.1⟩ hx (cwI n V.2.2.2.2.2.1 (q_gi (q_wsin mf)) (by unfold q_ws; rw [hret]) rfl rfl (V.2.2.2.2.2.1 _ mf.2.2.1) (V.2.2.2.2.2.1 _ lk.1) (V.2.2.2.2.2.1 _ lk.2.1) lk.2.2 mf.2.1 hR) hpre rfl hn h.1 rfl (lv_room hw) d hf
theorem gq_siteIN {o : Nat} (d : decode M.2.1 pc = .ok (.invokespecial idx, 3)) (lk : q_LIN M.1.cls idx Mc.1) (mf : q_MF Mc n) (hret : Mc.2.2.2.1 = none) (hx : q_Ex X Mc Λ Λe (.ref (xa X o) :: As) σ Ec) (hn : As.length = n)
    (hR : Mc.2.2.2.2.frames + 1 ≤ M.2.2.2.2.frames ∧ 8 + (Mc.2.2.1 + 11) + Mc.2.2.2.2.locals ≤ M.2.2.2.2.locals) (hf : cs + Mc.2.2.2.2.cells ≤ M.2.2.2.2.cells ∧ ns + Mc.2.2.2.2.slots ≤ M.2.2.2.2.slots) (hst : st = As.reverse ++ .ref (xa X o) :: rest) (hw : (rest.map fun v => v.category).sum ≤ 8) : q_Site X M Mc Λ Λe cs ns σ pc l st rest Ec := by
  subst hst
  intro hEc p e s m args below meth c H locs ls V hP hz h6 hT hS h
  have hpre := q_pre (args0 := .ref (xa X o) :: As) hEc V.2.2.2.2.2.2.2.2 hP hz h6 hT hS
  exact va_runIN (As := As) (rest := rest) ⟨V.1, V.2.1, V.2.2.2.1, V.2.2.2.2.1, V.2.2.2.2.2.1⟩ hx ⟨va_cnB n V.2.2.2.2.2.1 (q_gi (q_wsin mf)) (by unfold q_ws; rw [hret]) rfl rfl (V.2.2.2.2.2.2.2.2.2.1 _ lk.1) (V.2.2.2.2.2.1 _ mf.2.2.1) mf.2.1 hR, lk.2.2, V.2.2.2.2.2.1 _ lk.2.1⟩ hpre rfl hn h.1 rfl (lv_room hw) d hf
end QC
end
section
/-! THE LAYER's RULES: ends, new cells, a method's contract out of its walk -/
section QN
variable {X : q_Cx} {M Mc : q_Mt} {Q : q_Fin} {ph : q_Lay × Nat × Nat} {σ : Sg} {pc pc' cs ns cs' ns' idx n : Nat} {Λ Λ' Λe : q_Lay} {l : List (Nat × Value)} {st rest As : List Value} {E : Rs}
theorem q_fin {E : Rs} {σ : Sg} {r : Int32} {s t : State} {args : Array Value} {H : Heap} {locs : List Loc} {p : Program} {m : MethodId} {meth : Method} {c : Code} (V : q_MC X M p s m args meth c) (hEr : E = some (σ, r)) (hP : va_P (xD X) vwCl (q_W X Λe σ) H) (hz : H.size = xb X + Λe.length) (h6 : Λe.length ≤ 64) (hT : q_ST X σ s s.heap) (hS : va_S (q_A X) s.heap H locs) (ht : t.heap = H) (hW : s.WarmedH t.vm) {o : Outcome} (ho : o = .returned (q_rv M.2.2.2.1 σ r)) : q_QE X Λe M E args s o t :=
  ⟨σ, r, hEr, ho, ⟨by rw [ht]; exact hP, by rw [ht]; exact hz, h6, V.2.2.2.2.2.2.2.2.moved hW, hT.moved hW.alike (by rw [ht]; exact hS.2.1)⟩, hS.F ht⟩
theorem gq_iret {r : Int32} (d : decode M.2.1 pc = .ok (.ireturn, 1)) (ht : M.2.2.2.1 = some .int) (hc : M.2.2.2.2.cells = cs) (hn : M.2.2.2.2.slots = ns) : q_G X M (q_QM X Λ M) (Λ, cs, ns) σ pc l [.int r] (some (σ, r)) := by
  subst hc; subst hn
  intro hE p e s m args below meth c H locs ls V hP hz h6 hT hS h
  exact W.iret (v := r) V.1 V.2.1 (V.2.2.1.trans ht) (fun t ht' hW => q_fin V rfl hP hz h6 hT hS ht' hW (by rw [ht]; rfl)) hS.2.2 d V.2.2.2.2.2.2.1
theorem gq_zret {r : Int32} (d : decode M.2.1 pc = .ok (.ireturn, 1)) (ht : M.2.2.2.1 = some .boolean) (hr : narrow .boolean (.int r) = .int r) (hc : M.2.2.2.2.cells = cs) (hn : M.2.2.2.2.slots = ns) : q_G X M (q_QM X Λ M) (Λ, cs, ns) σ pc l [.int r] (some (σ, r)) := by
  subst hc; subst hn
  intro hE p e s m args below meth c H locs ls V hP hz h6 hT hS h
  exact W.zret (v := r) V.1 V.2.1 (V.2.2.1.trans ht) hr (fun t ht' hW => q_fin V rfl hP hz h6 hT hS ht' hW (by rw [ht]; rfl)) hS.2.2 d V.2.2.2.2.2.2.1
/-- a boolean that isn't written out: nothing is said where it isn't one -/
theorem gq_zretq {r : Int32} (d : decode M.2.1 pc = .ok (.ireturn, 1)) (ht : M.2.2.2.1 = some .boolean) (hc : M.2.2.2.2.cells = cs) (hn : M.2.2.2.2.slots = ns) : q_G X M (q_QM X Λ M) (Λ, cs, ns) σ pc l [.int r] (if vp_nar .boolean r = r then some (σ, r) else none) := by
  refine gq_ite (fun h => gq_zret d ht ?_ hc hn) (fun _ => gq_none)
  have e : narrow .boolean (.int r) = .int (vp_nar .boolean r) := rfl
  rw [e, h]
theorem gq_vret (d : decode M.2.1 pc = .ok (.return_, 1)) (ht : M.2.2.2.1 = none) (hc : M.2.2.2.2.cells = cs) (hn : M.2.2.2.2.slots = ns) : q_G X M (q_QM X Λ M) (Λ, cs, ns) σ pc l [] (some (σ, 0)) := by
  subst hc; subst hn
  intro hE p e s m args below meth c H locs ls V hP hz h6 hT hS h
  exact W.vret V.1 V.2.1 (V.2.2.1.trans ht) (fun t ht' hW => q_fin V rfl hP hz h6 hT hS ht' hW (by rw [ht]; rfl)) hS.2.2 d V.2.2.2.2.2.2.1
theorem gq_lret {v : Int64} (d : decode M.2.1 pc = .ok (.lreturn, 1)) (ht : M.2.2.2.1 = some .long) (hc : M.2.2.2.2.cells = cs) (hn : M.2.2.2.2.slots = ns) : q_G X M (q_QM X Λ M) (Λ, cs, ns) σ pc l [.long v] (some (q_wrl σ 200 0 v, 0)) := by
  subst hc; subst hn
  intro hE p e s m args below meth c H locs ls V hP hz h6 hT hS h
  have hw : ∀ o, o ≠ 200 → q_wrl σ 200 0 v o = σ o := fun o ho => q_wrl_ne ho
  have eW : q_W X Λ (q_wrl σ 200 0 v) = q_W X Λ σ := by
    apply List.ext_getElem?
    intro i
    simp only [q_W, List.getElem?_mapIdx]
    by_cases hi : i < Λ.length
    · rw [List.getElem?_eq_getElem hi]
      simp [q_cell_ne (hw i (by have h7 : Λ.length ≤ 64 := h6; omega))]
    · rw [List.getElem?_eq_none (by omega)]
      rfl
  exact W.lret (v := v) V.1 V.2.1 (V.2.2.1.trans ht) (fun t ht' hW => q_fin (r := 0) V rfl (by rw [eW]; exact hP) hz h6 (q_STw hT (fun o ho => hw o (by omega))) hS ht' hW (by rw [ht]; show _ = Outcome.returned (some (.long (q_lg (q_wrl σ 200 0 v) 200 0))); rw [q_lg_wrl])) hS.2.2 d V.2.2.2.2.2.2.1
/-- a method's contract out of its walk -/
theorem gq_ex {args : List Value} (mf : q_MF M n) (hl : (lg_sl args).length ≤ M.2.2.1) (hG : q_G X M (q_QM X Λe M) (Λ, 0, 0) σ 0 (lv_args 0 args) [] E) : q_Ex X M Λ Λe args σ E := by
  refine Met.ofW (cc := M.2.1) (maxL := M.2.2.1) (ret := M.2.2.2.1) mf.1 rfl ?_
  intro p e s m args' below meth c s₁ B hml hv
  obtain ⟨rfl, hE, hP, hsz, h64, hFX, hST⟩ := hv
  have hts := atoms_spec (ws := q_ws M) B.pre
  rw [lg_entry_eq]
  exact hG hE p e s m _ below meth c s.heap [] _ ⟨B.exec, B.bytes, B.returns, hml, findClass_of_methodNamed B.named, fun w h => hts w (List.mem_cons_of_mem _ h), B.notSynchronized, fun h => (name_of_methodNamed B.named B.method).1.trans h, hFX⟩ hP hsz h64 hST va_S.rf (lv_entry args hl)
/-- Object's constructor -/
theorem gq_objI {a : Nat} (d : decode M.2.1 pc = .ok (.invokespecial idx, 3)) (hp : pc + 3 = pc') (h1 : Cond.methodLink M.1.cls idx Lib.objectInit ∈ lw_gd) (h2 : Cond.instanceMethod Lib.objectInit ∈ lw_gd) (h3 : Cond.code Lib.objectInit ⟨#[0xb1]⟩ 1 none ∈ lw_gd) (hf : 1 ≤ M.2.2.2.2.frames) (hlo : (st.map fun v => v.category).sum + 12 ≤ M.2.2.2.2.locals) (kk : q_G X M Q ph σ pc' l st E) : q_G X M Q ph σ pc l (.ref a :: st) E := by
  subst hp
  intro hE p e s m args below meth c H locs ls V hP hz h6 hT hS h
  refine W.objInit V.1 V.2.1 V.2.2.2.2.1 (V.2.2.2.2.2.1 _ h1) (V.2.2.2.2.2.1 _ h2) (V.2.2.2.2.2.1 _ h3) rfl (by rw [V.2.2.2.1]; exact h.1) rfl d hf ?_ ?_
  · have e : (F0 m pc ls (.ref a :: st)).monitorRoom = 0 := rfl
    rw [e]; omega
  · exact W.eq (g2 := F0 m (pc + 3) ls st) rfl (kk hE p e s m args below meth c H locs ls V hP hz h6 hT hS h)
/-- a new object: the next one -/
theorem gq_new {ci N : Nat} {C : String} {T : u_T} {ty : Nat → FieldType} {fs : List (Option (Option Nat))} (d : decode M.2.1 pc = .ok (.new idx, 3)) (hp : pc + 3 = pc') (h1 : Cond.classLink M.1.cls idx C ∈ lw_gd) (h2 : Cond.instantiable C N ∈ lw_gd) (h3 : Cond.initialized C ∈ lw_gd) (hin : ∀ w ∈ u_ws C T N, w ∈ lw_gd) (hty : ∀ k, k < N → parseFieldDescriptor (T k).2.2.1 = some (ty k)) (hc : vwCl[ci]? = some (C, T, N))
    (hfs : ∀ j, j < N → defaultValue (ty j) = (match fs[j]? with | some none => .int 0 | _ => .null)) (hfl : fs.length = N) (hfn : ∀ t ∈ fs, t = none ∨ t = some none) (hcs : cs + 1 ≤ M.2.2.2.2.cells) (hns : ns + N ≤ M.2.2.2.2.slots) {o : Nat} (ho : Λ.length = o) (h64 : o < 64) (hcs' : cs + 1 = cs') (hns' : ns + N = ns') (hΛ : Λ ++ [.inr (ci, fs)] = Λ')
    (kk : q_G X M Q (Λ', cs', ns') (q_clr σ o) pc' l (.ref (xa X o) :: st) E) : q_G X M Q (Λ, cs, ns) σ pc l st E := by
  subst hp; subst ho; subst hcs'; subst hns'; subst hΛ
  intro hE p e s m args below meth c H locs ls V hP hz h6 hT hS h
  have hK := V.2.2.2.2.2.2.2.2.1
  have hKn := hK.1 ci _ hc
  have hb := V.2.2.2.2.2.2.2.2.2.2 Λ.length h64
  have hzz : H.size = xa X Λ.length := by rw [hb]; exact hz
  refine W.newcK V.1 V.2.1 V.2.2.2.2.1 (V.2.2.2.2.2.1 _ h1) (V.2.2.2.2.2.1 _ h2) (V.2.2.2.2.2.1 _ h3) rfl d hcs hns hKn.2.1 rfl fun H1 kC hkC e1 z1 o1 => ?_
  have hk : ∀ (k : Nat) (x : Nat × va_E), (q_W X Λ σ)[k]? = some x → H1[x.1]? = H[x.1]? := fun k x hx => o1 x.1 ((hP k x hx).lt)
  have hcell : q_cell X (q_clr σ Λ.length) Λ.length (.inr (ci, fs)) = .inr (ci, fs.mapIdx (fun k r => q_fv X (q_clr σ Λ.length) Λ.length k r)) := rfl
  have hP1 : va_P (xD X) vwCl (q_W X (Λ ++ [.inr (ci, fs)]) (q_clr σ Λ.length)) H1 := by
    rw [← q_Wpush hcell]
    refine (hP.kept hk).app (fun k x hx => ?_)
    have hz : k < 1 := (List.getElem?_eq_some_iff.mp hx).1
    rw [show k = 0 by omega] at hx
    cases hx
    refine ⟨_, hc, (u_born ty V.2.2.2.2.2.1 hin hKn hkC (by rw [← hzz]; exact e1) hty).to (fun j hj => ?_)⟩
    rw [hfs j hj]
    have hj2 : j < fs.length := by omega
    simp only [vp_V, List.getD_eq_getElem?_getD, List.getElem?_mapIdx, List.getElem?_eq_getElem hj2, Option.map_some, Option.getD_some]
    rcases hfn _ (List.getElem_mem hj2) with h | h <;> rw [h] <;> simp [q_fv, q_clr]
  rw [hzz]
  exact kk hE p e s m args below meth c H1 locs ls V hP1 (by rw [z1, hz]; simp; omega) (by simp; omega) (q_STw hT (fun o' h => q_clr_ne (by omega))) ⟨Nat.le_trans hS.1 (by omega), fun x h1 h2 => (o1 x (Nat.lt_of_lt_of_le h1 hS.1)).trans (hS.2.1 x h1 h2), hS.2.2⟩ h
theorem gq_newa {atype : ArrayType} {v : Int32} (d : decode M.2.1 pc = .ok (.newarray atype, 2)) (hp : pc + 2 = pc') (h1 : Cond.arrayClass (newarray.typeOf atype) ∈ lw_gd) (hz0 : newarray.typeOf atype = .int) (hn : ¬ v < 0) (hN : v.toNatClampNeg = n) (hbytes : n * componentBytes (newarray.typeOf atype) ≤ 536870912) (hcs : cs + 1 ≤ M.2.2.2.2.cells) (hns : ns + n ≤ M.2.2.2.2.slots) {o : Nat} (ho : Λ.length = o) (h64 : o < 64) (hcs' : cs + 1 = cs') (hns' : ns + n = ns') (hΛ : Λ ++ [.inl (false, n)] = Λ')
    (kk : q_G X M Q (Λ', cs', ns') (q_clr σ o) pc' l (.ref (xa X o) :: st) E) : q_G X M Q (Λ, cs, ns) σ pc l (.int v :: st) E := by
  subst hp; subst ho; subst hcs'; subst hns'; subst hΛ
  intro hE p e s m args below meth c H locs ls V hP hz h6 hT hS h
  have hK := V.2.2.2.2.2.2.2.2.1
  have hb := V.2.2.2.2.2.2.2.2.2.2 Λ.length h64
  have hzz : H.size = xa X Λ.length := by rw [hb]; exact hz
  refine va_newaK V.1 V.2.1 (V.2.2.2.2.2.1 _ h1) rfl d rfl hn hN hbytes hcs hns hzz fun H1 cA e1 z1 o1 hAr hNm => ?_
  have hk : ∀ (k : Nat) (x : Nat × va_E), (q_W X Λ σ)[k]? = some x → H1[x.1]? = H[x.1]? := fun k x hx => o1 x.1 (by rw [← hzz]; exact (hP k x hx).lt)
  have hcA : cA = xI X := by
    have h2 := (hK.2 0 (xI X, .int) rfl).2
    rw [hz0] at hNm
    exact Option.some.inj (hNm.symm.trans h2)
  have hcell : q_cell X (q_clr σ Λ.length) Λ.length (.inl (false, n)) = .inl (cA, n, .inl (fun _ => 0)) := by
    rw [hcA]; simp [q_cell, q_clr]
  have hP1 : va_P (xD X) vwCl (q_W X (Λ ++ [.inl (false, n)]) (q_clr σ Λ.length)) H1 := by
    rw [← q_Wpush hcell]
    refine (hP.kept hk).app (fun k x hx => ?_)
    have hz : k < 1 := (List.getElem?_eq_some_iff.mp hx).1
    rw [show k = 0 by omega] at hx
    cases hx
    show H1[_]? = some (vp_cell _ _)
    rw [e1, vp_cell_i, hz0]
    rfl
  exact kk hE p e s m args below meth c H1 locs ls V hP1 (by rw [z1, ← hzz, hz]; simp; omega) (by simp; omega) (q_STw hT (fun o' h => q_clr_ne (by omega))) ⟨Nat.le_trans hS.1 (by omega), fun x h1 h2 => (o1 x (by rw [← hzz]; exact Nat.lt_of_lt_of_le h1 hS.1)).trans (hS.2.1 x h1 h2), hS.2.2⟩ h
theorem gq_newl {atype : ArrayType} {v : Int32} (d : decode M.2.1 pc = .ok (.newarray atype, 2)) (hp : pc + 2 = pc') (h1 : Cond.arrayClass (newarray.typeOf atype) ∈ lw_gd) (hz0 : newarray.typeOf atype = .long) (hn : ¬ v < 0) (hN : v.toNatClampNeg = n) (hbytes : n * componentBytes (newarray.typeOf atype) ≤ 536870912) (hcs : cs + 1 ≤ M.2.2.2.2.cells) (hns : ns + n ≤ M.2.2.2.2.slots) {o : Nat} (ho : Λ.length = o) (h64 : o < 64) (hcs' : cs + 1 = cs') (hns' : ns + n = ns') (hΛ : Λ ++ [.inl (true, n)] = Λ')
    (kk : q_G X M Q (Λ', cs', ns') (q_clr σ o) pc' l (.ref (xa X o) :: st) E) : q_G X M Q (Λ, cs, ns) σ pc l (.int v :: st) E := by
  subst hp; subst ho; subst hcs'; subst hns'; subst hΛ
  intro hE p e s m args below meth c H locs ls V hP hz h6 hT hS h
  have hK := V.2.2.2.2.2.2.2.2.1
  have hb := V.2.2.2.2.2.2.2.2.2.2 Λ.length h64
  have hzz : H.size = xa X Λ.length := by rw [hb]; exact hz
  refine va_newaK V.1 V.2.1 (V.2.2.2.2.2.1 _ h1) rfl d rfl hn hN hbytes hcs hns hzz fun H1 cA e1 z1 o1 hAr hNm => ?_
  have hk : ∀ (k : Nat) (x : Nat × va_E), (q_W X Λ σ)[k]? = some x → H1[x.1]? = H[x.1]? := fun k x hx => o1 x.1 (by rw [← hzz]; exact (hP k x hx).lt)
  have hcA : cA = xZ X := by
    have h2 := (hK.2 1 (xZ X, .long) rfl).2
    rw [hz0] at hNm
    exact Option.some.inj (hNm.symm.trans h2)
  have hcell : q_cell X (q_clr σ Λ.length) Λ.length (.inl (true, n)) = .inl (cA, n, .inr (.inl (fun _ => 0))) := by
    rw [hcA]
    have e : q_lg (q_clr σ Λ.length) Λ.length = fun _ => 0 := funext (fun k => q_lg_clr σ _ k)
    simp [q_cell, e]
  have hP1 : va_P (xD X) vwCl (q_W X (Λ ++ [.inl (true, n)]) (q_clr σ Λ.length)) H1 := by
    rw [← q_Wpush hcell]
    refine (hP.kept hk).app (fun k x hx => ?_)
    have hz : k < 1 := (List.getElem?_eq_some_iff.mp hx).1
    rw [show k = 0 by omega] at hx
    cases hx
    show H1[_]? = some (vp_cell _ _)
    rw [e1, vp_cell_l, hz0]
    rfl
  exact kk hE p e s m args below meth c H1 locs ls V hP1 (by rw [z1, ← hzz, hz]; simp; omega) (by simp; omega) (q_STw hT (fun o' h => q_clr_ne (by omega))) ⟨Nat.le_trans hS.1 (by omega), fun x h1 h2 => (o1 x (by rw [← hzz]; exact Nat.lt_of_lt_of_le h1 hS.1)).trans (hS.2.1 x h1 h2), hS.2.2⟩ h
end QN
end
