-- names of the classes, fields, methods; decode rows: out of the claim's own printed NAMES text, by wip/gen/names.py
-- ===== PART A: goes FIRST, ahead of the names: the tables' words, and 'selects' of the private methods out of them =====
/-- a private method of a class that the tables say can be made, by its rows of tables_1 -/
def lw_okq (q : MethodName × Nat) : Prop := (q.1.cls ≠ "java/lang/invoke/MethodHandle" ∧ q.1.cls ≠ "java/lang/invoke/VarHandle") ∧ Cond.instantiable q.1.cls q.2 ∈ tables_1 ∧ Cond.privateMethod q.1 ∈ tables_1 ∧ Cond.instanceMethod q.1 ∈ tables_1
theorem lw_p0 : lw_okq (⟨"CroquetLawn$Position", "allowsFree", "()Z"⟩, 8) := ⟨⟨by decide +kernel, by decide +kernel⟩, List.mem_of_getElem? (i := 24) (by decide +kernel), List.mem_of_getElem? (i := 233) (by decide +kernel), List.mem_of_getElem? (i := 234) (by decide +kernel)⟩
theorem lw_p1 : lw_okq (⟨"CroquetLawn$Position", "allowsFresh", "(II)Z"⟩, 8) := ⟨⟨by decide +kernel, by decide +kernel⟩, List.mem_of_getElem? (i := 24) (by decide +kernel), List.mem_of_getElem? (i := 237) (by decide +kernel), List.mem_of_getElem? (i := 238) (by decide +kernel)⟩
theorem lw_p2 : lw_okq (⟨"CroquetLawn$Play", "noteStriker", "(I)V"⟩, 13) := ⟨⟨by decide +kernel, by decide +kernel⟩, List.mem_of_getElem? (i := 18) (by decide +kernel), List.mem_of_getElem? (i := 248) (by decide +kernel), List.mem_of_getElem? (i := 249) (by decide +kernel)⟩
theorem lw_p3 : lw_okq (⟨"CroquetLawn$Position", "bringIn", "(I)V"⟩, 8) := ⟨⟨by decide +kernel, by decide +kernel⟩, List.mem_of_getElem? (i := 24) (by decide +kernel), List.mem_of_getElem? (i := 264) (by decide +kernel), List.mem_of_getElem? (i := 265) (by decide +kernel)⟩
theorem lw_p4 : lw_okq (⟨"CroquetLawn$Position", "roquet", "(I)V"⟩, 8) := ⟨⟨by decide +kernel, by decide +kernel⟩, List.mem_of_getElem? (i := 24) (by decide +kernel), List.mem_of_getElem? (i := 272) (by decide +kernel), List.mem_of_getElem? (i := 273) (by decide +kernel)⟩
theorem lw_p5 : lw_okq (⟨"CroquetLawn$Position", "croquet", "()V"⟩, 8) := ⟨⟨by decide +kernel, by decide +kernel⟩, List.mem_of_getElem? (i := 24) (by decide +kernel), List.mem_of_getElem? (i := 276) (by decide +kernel), List.mem_of_getElem? (i := 277) (by decide +kernel)⟩
theorem lw_p6 : lw_okq (⟨"CroquetLawn$Position", "spendFree", "()V"⟩, 8) := ⟨⟨by decide +kernel, by decide +kernel⟩, List.mem_of_getElem? (i := 24) (by decide +kernel), List.mem_of_getElem? (i := 280) (by decide +kernel), List.mem_of_getElem? (i := 281) (by decide +kernel)⟩
theorem lw_p7 : lw_okq (⟨"CroquetLawn$Play", "has", "(I)Z"⟩, 13) := ⟨⟨by decide +kernel, by decide +kernel⟩, List.mem_of_getElem? (i := 18) (by decide +kernel), List.mem_of_getElem? (i := 292) (by decide +kernel), List.mem_of_getElem? (i := 293) (by decide +kernel)⟩
theorem lw_p8 : lw_okq (⟨"CroquetLawn$Play", "leadTo", "(LCroquetLawn$Position;I)V"⟩, 13) := ⟨⟨by decide +kernel, by decide +kernel⟩, List.mem_of_getElem? (i := 18) (by decide +kernel), List.mem_of_getElem? (i := 305) (by decide +kernel), List.mem_of_getElem? (i := 306) (by decide +kernel)⟩
theorem lw_p9 : lw_okq (⟨"CroquetLawn$Play", "takeAway", "(I)I"⟩, 13) := ⟨⟨by decide +kernel, by decide +kernel⟩, List.mem_of_getElem? (i := 18) (by decide +kernel), List.mem_of_getElem? (i := 331) (by decide +kernel), List.mem_of_getElem? (i := 332) (by decide +kernel)⟩
theorem lw_p10 : lw_okq (⟨"CroquetLawn$Play", "stopTurn", "(I)I"⟩, 13) := ⟨⟨by decide +kernel, by decide +kernel⟩, List.mem_of_getElem? (i := 18) (by decide +kernel), List.mem_of_getElem? (i := 335) (by decide +kernel), List.mem_of_getElem? (i := 336) (by decide +kernel)⟩
theorem lw_p11 : lw_okq (⟨"CroquetLawn$Play", "counts", "(II)Z"⟩, 13) := ⟨⟨by decide +kernel, by decide +kernel⟩, List.mem_of_getElem? (i := 18) (by decide +kernel), List.mem_of_getElem? (i := 347) (by decide +kernel), List.mem_of_getElem? (i := 348) (by decide +kernel)⟩
theorem lw_p12 : lw_okq (⟨"CroquetLawn$Laws", "read", "()I"⟩, 7) := ⟨⟨by decide +kernel, by decide +kernel⟩, List.mem_of_getElem? (i := 96) (by decide +kernel), List.mem_of_getElem? (i := 403) (by decide +kernel), List.mem_of_getElem? (i := 404) (by decide +kernel)⟩
theorem lw_p13 : lw_okq (⟨"CroquetLawn$Laws", "atEnd", "()Z"⟩, 7) := ⟨⟨by decide +kernel, by decide +kernel⟩, List.mem_of_getElem? (i := 96) (by decide +kernel), List.mem_of_getElem? (i := 407) (by decide +kernel), List.mem_of_getElem? (i := 408) (by decide +kernel)⟩
theorem lw_p14 : lw_okq (⟨"CroquetLawn$Laws", "skipBlanks", "()V"⟩, 7) := ⟨⟨by decide +kernel, by decide +kernel⟩, List.mem_of_getElem? (i := 96) (by decide +kernel), List.mem_of_getElem? (i := 411) (by decide +kernel), List.mem_of_getElem? (i := 412) (by decide +kernel)⟩
theorem lw_p15 : lw_okq (⟨"CroquetLawn$Laws", "here", "()I"⟩, 7) := ⟨⟨by decide +kernel, by decide +kernel⟩, List.mem_of_getElem? (i := 96) (by decide +kernel), List.mem_of_getElem? (i := 415) (by decide +kernel), List.mem_of_getElem? (i := 416) (by decide +kernel)⟩
def lw_privs_1 : List (MethodName × Nat) := [(⟨"CroquetLawn$Position", "allowsFree", "()Z"⟩, 8), (⟨"CroquetLawn$Position", "allowsFresh", "(II)Z"⟩, 8), (⟨"CroquetLawn$Play", "noteStriker", "(I)V"⟩, 13), (⟨"CroquetLawn$Position", "bringIn", "(I)V"⟩, 8), (⟨"CroquetLawn$Position", "roquet", "(I)V"⟩, 8), (⟨"CroquetLawn$Position", "croquet", "()V"⟩, 8), (⟨"CroquetLawn$Position", "spendFree", "()V"⟩, 8), (⟨"CroquetLawn$Play", "has", "(I)Z"⟩, 13), (⟨"CroquetLawn$Play", "leadTo", "(LCroquetLawn$Position;I)V"⟩, 13), (⟨"CroquetLawn$Play", "takeAway", "(I)I"⟩, 13), (⟨"CroquetLawn$Play", "stopTurn", "(I)I"⟩, 13), (⟨"CroquetLawn$Play", "counts", "(II)Z"⟩, 13), (⟨"CroquetLawn$Laws", "read", "()I"⟩, 7), (⟨"CroquetLawn$Laws", "atEnd", "()Z"⟩, 7), (⟨"CroquetLawn$Laws", "skipBlanks", "()V"⟩, 7), (⟨"CroquetLawn$Laws", "here", "()I"⟩, 7)]
theorem lw_r1 : ∀ q ∈ lw_privs_1, lw_okq q := List.forall_mem_cons.mpr ⟨lw_p0, List.forall_mem_cons.mpr ⟨lw_p1, List.forall_mem_cons.mpr ⟨lw_p2, List.forall_mem_cons.mpr ⟨lw_p3, List.forall_mem_cons.mpr ⟨lw_p4, List.forall_mem_cons.mpr ⟨lw_p5, List.forall_mem_cons.mpr ⟨lw_p6, List.forall_mem_cons.mpr ⟨lw_p7, List.forall_mem_cons.mpr ⟨lw_p8, List.forall_mem_cons.mpr ⟨lw_p9, List.forall_mem_cons.mpr ⟨lw_p10, List.forall_mem_cons.mpr ⟨lw_p11, List.forall_mem_cons.mpr ⟨lw_p12, List.forall_mem_cons.mpr ⟨lw_p13, List.forall_mem_cons.mpr ⟨lw_p14, List.forall_mem_cons.mpr ⟨lw_p15, fun _ h => absurd h List.not_mem_nil⟩⟩⟩⟩⟩⟩⟩⟩⟩⟩⟩⟩⟩⟩⟩⟩
theorem lw_p16 : lw_okq (⟨"CroquetLawn$Laws", "readClause", "()Z"⟩, 7) := ⟨⟨by decide +kernel, by decide +kernel⟩, List.mem_of_getElem? (i := 96) (by decide +kernel), List.mem_of_getElem? (i := 419) (by decide +kernel), List.mem_of_getElem? (i := 420) (by decide +kernel)⟩
theorem lw_p17 : lw_okq (⟨"CroquetLawn$Laws", "readNumber", "()I"⟩, 7) := ⟨⟨by decide +kernel, by decide +kernel⟩, List.mem_of_getElem? (i := 96) (by decide +kernel), List.mem_of_getElem? (i := 423) (by decide +kernel), List.mem_of_getElem? (i := 424) (by decide +kernel)⟩
theorem lw_p18 : lw_okq (⟨"CroquetLawn$Laws", "adoptDraft", "()V"⟩, 7) := ⟨⟨by decide +kernel, by decide +kernel⟩, List.mem_of_getElem? (i := 96) (by decide +kernel), List.mem_of_getElem? (i := 430) (by decide +kernel), List.mem_of_getElem? (i := 431) (by decide +kernel)⟩
def lw_privs_2 : List (MethodName × Nat) := [(⟨"CroquetLawn$Laws", "readClause", "()Z"⟩, 7), (⟨"CroquetLawn$Laws", "readNumber", "()I"⟩, 7), (⟨"CroquetLawn$Laws", "adoptDraft", "()V"⟩, 7)]
theorem lw_r2 : ∀ q ∈ lw_privs_2, lw_okq q := List.forall_mem_cons.mpr ⟨lw_p16, List.forall_mem_cons.mpr ⟨lw_p17, List.forall_mem_cons.mpr ⟨lw_p18, fun _ h => absurd h List.not_mem_nil⟩⟩⟩
def lw_privs : List (MethodName × Nat) := lw_privs_1 ++ (lw_privs_2)
def lw_tbl : List Cond := k2_sels lw_privs ++ tables_1
theorem lw_privs_ok : ∀ q ∈ lw_privs, lw_okq q := by
  show ∀ q ∈ lw_privs_1 ++ (lw_privs_2), lw_okq q
  exact List.forall_mem_append.mpr ⟨lw_r1, lw_r2⟩

def RX0 : String := "CroquetLawn$Laws"
def TX0 : u_T := fun k => match k with
  | 0 => ("CroquetLawn$Laws", "tape", "[I", true)
  | 1 => ("CroquetLawn$Laws", "length", "I", false)
  | 2 => ("CroquetLawn$Laws", "place", "I", false)
  | 3 => ("CroquetLawn$Laws", "limits", "[I", true)
  | 4 => ("CroquetLawn$Laws", "letters", "[I", true)
  | 5 => ("CroquetLawn$Laws", "draftLimits", "[I", true)
  | _ => ("CroquetLawn$Laws", "draftLetters", "[I", true)
def tyX0 : Nat → FieldType := fun k => match k with
  | 0 => .array .int
  | 1 => .int
  | 2 => .int
  | 3 => .array .int
  | 4 => .array .int
  | 5 => .array .int
  | _ => .array .int
abbrev wsX00 : List Cond := u_ws RX0 TX0 7
theorem nmX0 : ∀ a, a < 7 → ∀ b, b < 7 → a ≠ b → (TX0 a).2.1 ≠ (TX0 b).2.1 := by decide +kernel
theorem tyX0_ok : ∀ k, k < 7 → parseFieldDescriptor (TX0 k).2.2.1 = some (tyX0 k) := by decide +kernel
abbrev cX0_init : ByteArray := prog_2_method_1_code
def yX0_init : MethodName := ⟨RX0, "<init>", "()V"⟩
abbrev cX0_letterFor : ByteArray := prog_2_method_2_code
def yX0_letterFor : MethodName := ⟨RX0, "letterFor", "(II)I"⟩
abbrev cX0_append : ByteArray := prog_2_method_3_code
def yX0_append : MethodName := ⟨RX0, "append", "(JI)I"⟩
abbrev cX0_byteOf : ByteArray := prog_2_method_4_code
def yX0_byteOf : MethodName := ⟨RX0, "byteOf", "(JI)I"⟩
abbrev cX0_takeTape : ByteArray := prog_2_method_5_code
def yX0_takeTape : MethodName := ⟨RX0, "takeTape", "()I"⟩
abbrev cX0_adoptDraft : ByteArray := prog_2_method_6_code
def yX0_adoptDraft : MethodName := ⟨RX0, "adoptDraft", "()V"⟩
abbrev cX0_read : ByteArray := prog_2_method_7_code
def yX0_read : MethodName := ⟨RX0, "read", "()I"⟩
abbrev cX0_readClause : ByteArray := prog_2_method_8_code
def yX0_readClause : MethodName := ⟨RX0, "readClause", "()Z"⟩
abbrev cX0_readNumber : ByteArray := prog_2_method_9_code
def yX0_readNumber : MethodName := ⟨RX0, "readNumber", "()I"⟩
abbrev cX0_skipBlanks : ByteArray := prog_2_method_10_code
def yX0_skipBlanks : MethodName := ⟨RX0, "skipBlanks", "()V"⟩
abbrev cX0_atEnd : ByteArray := prog_2_method_11_code
def yX0_atEnd : MethodName := ⟨RX0, "atEnd", "()Z"⟩
abbrev cX0_here : ByteArray := prog_2_method_12_code
def yX0_here : MethodName := ⟨RX0, "here", "()I"⟩
def RX1 : String := "CroquetLawn$Meeting"
def TX1 : u_T := fun k => match k with
  | 0 => ("CroquetLawn$Meeting", "winners", "[I", true)
  | 1 => ("CroquetLawn$Meeting", "hours", "[I", true)
  | _ => ("CroquetLawn$Meeting", "lawnCount", "I", false)
def tyX1 : Nat → FieldType := fun k => match k with
  | 0 => .array .int
  | 1 => .array .int
  | _ => .int
abbrev wsX10 : List Cond := u_ws RX1 TX1 3
theorem nmX1 : ∀ a, a < 3 → ∀ b, b < 3 → a ≠ b → (TX1 a).2.1 ≠ (TX1 b).2.1 := by decide +kernel
theorem tyX1_ok : ∀ k, k < 3 → parseFieldDescriptor (TX1 k).2.2.1 = some (tyX1 k) := by decide +kernel
abbrev cX1_init : ByteArray := prog_3_method_1_code
def yX1_init : MethodName := ⟨RX1, "<init>", "()V"⟩
def RX2 : String := "CroquetLawn$Play"
def TX2 : u_T := fun k => match k with
  | 0 => ("CroquetLawn$Play", "kinds", "[I", true)
  | 1 => ("CroquetLawn$Play", "aims", "[I", true)
  | 2 => ("CroquetLawn$Play", "strikers", "[I", true)
  | 3 => ("CroquetLawn$Play", "sides", "[I", true)
  | 4 => ("CroquetLawn$Play", "wrongs", "[I", true)
  | 5 => ("CroquetLawn$Play", "rulings", "[I", true)
  | 6 => ("CroquetLawn$Play", "players", "[I", true)
  | 7 => ("CroquetLawn$Play", "now", "LCroquetLawn$Position;", true)
  | 8 => ("CroquetLawn$Play", "past", "LCroquetLawn$Position;", true)
  | 9 => ("CroquetLawn$Play", "on", "Z", false)
  | 10 => ("CroquetLawn$Play", "size", "I", false)
  | 11 => ("CroquetLawn$Play", "free0", "I", false)
  | _ => ("CroquetLawn$Play", "free1", "I", false)
def tyX2 : Nat → FieldType := fun k => match k with
  | 0 => .array .int
  | 1 => .array .int
  | 2 => .array .int
  | 3 => .array .int
  | 4 => .array .int
  | 5 => .array .int
  | 6 => .array .int
  | 7 => .object "CroquetLawn$Position"
  | 8 => .object "CroquetLawn$Position"
  | 9 => .boolean
  | 10 => .int
  | 11 => .int
  | _ => .int
abbrev wsX20 : List Cond := u_ws RX2 TX2 13
theorem nmX2 : ∀ a, a < 13 → ∀ b, b < 13 → a ≠ b → (TX2 a).2.1 ≠ (TX2 b).2.1 := by decide +kernel
theorem tyX2_ok : ∀ k, k < 13 → parseFieldDescriptor (TX2 k).2.2.1 = some (tyX2 k) := by decide +kernel
abbrev cX2_init : ByteArray := prog_4_method_1_code
def yX2_init : MethodName := ⟨RX2, "<init>", "()V"⟩
abbrev cX2_begin : ByteArray := prog_4_method_2_code
def yX2_begin : MethodName := ⟨RX2, "begin", "(IIII)V"⟩
abbrev cX2_take : ByteArray := prog_4_method_6_code
def yX2_take : MethodName := ⟨RX2, "take", "(II)I"⟩
abbrev cX2_begins : ByteArray := prog_4_method_7_code
def yX2_begins : MethodName := ⟨RX2, "begins", "(I)Z"⟩
abbrev cX2_noteStriker : ByteArray := prog_4_method_8_code
def yX2_noteStriker : MethodName := ⟨RX2, "noteStriker", "(I)V"⟩
abbrev cX2_has : ByteArray := prog_4_method_9_code
def yX2_has : MethodName := ⟨RX2, "has", "(I)Z"⟩
abbrev cX2_tell : ByteArray := prog_4_method_10_code
def yX2_tell : MethodName := ⟨RX2, "tell", "(II)I"⟩
abbrev cX2_asOf : ByteArray := prog_4_method_12_code
def yX2_asOf : MethodName := ⟨RX2, "asOf", "(II)I"⟩
abbrev cX2_leadTo : ByteArray := prog_4_method_13_code
def yX2_leadTo : MethodName := ⟨RX2, "leadTo", "(LCroquetLawn$Position;I)V"⟩
abbrev cX2_obey : ByteArray := prog_4_method_14_code
def yX2_obey : MethodName := ⟨RX2, "obey", "(LCroquetLawn$Position;I)V"⟩
abbrev cX2_find : ByteArray := prog_4_method_15_code
def yX2_find : MethodName := ⟨RX2, "find", "(ILCroquetLawn$Laws;)I"⟩
abbrev cX2_takeAway : ByteArray := prog_4_method_16_code
def yX2_takeAway : MethodName := ⟨RX2, "takeAway", "(I)I"⟩
abbrev cX2_stopTurn : ByteArray := prog_4_method_17_code
def yX2_stopTurn : MethodName := ⟨RX2, "stopTurn", "(I)I"⟩
abbrev cX2_total : ByteArray := prog_4_method_18_code
def yX2_total : MethodName := ⟨RX2, "total", "(I)I"⟩
abbrev cX2_counts : ByteArray := prog_4_method_19_code
def yX2_counts : MethodName := ⟨RX2, "counts", "(II)Z"⟩
def RX3 : String := "CroquetLawn$Position"
def TX3 : u_T := fun k => match k with
  | 0 => ("CroquetLawn$Position", "run", "[I", true)
  | 1 => ("CroquetLawn$Position", "freeLeft", "[I", true)
  | 2 => ("CroquetLawn$Position", "side", "I", false)
  | 3 => ("CroquetLawn$Position", "inPlay", "I", false)
  | 4 => ("CroquetLawn$Position", "toGo", "I", false)
  | 5 => ("CroquetLawn$Position", "live", "I", false)
  | 6 => ("CroquetLawn$Position", "mustCroquet", "I", false)
  | _ => ("CroquetLawn$Position", "freeBall", "I", false)
def tyX3 : Nat → FieldType := fun k => match k with
  | 0 => .array .int
  | 1 => .array .int
  | 2 => .int
  | 3 => .int
  | 4 => .int
  | 5 => .int
  | 6 => .int
  | _ => .int
abbrev wsX30 : List Cond := u_ws RX3 TX3 8
theorem nmX3 : ∀ a, a < 8 → ∀ b, b < 8 → a ≠ b → (TX3 a).2.1 ≠ (TX3 b).2.1 := by decide +kernel
theorem tyX3_ok : ∀ k, k < 8 → parseFieldDescriptor (TX3 k).2.2.1 = some (tyX3 k) := by decide +kernel
abbrev cX3_init : ByteArray := prog_5_method_1_code
def yX3_init : MethodName := ⟨RX3, "<init>", "()V"⟩
abbrev cX3_begin : ByteArray := prog_5_method_2_code
def yX3_begin : MethodName := ⟨RX3, "begin", "(II)V"⟩
abbrev cX3_allows : ByteArray := prog_5_method_3_code
def yX3_allows : MethodName := ⟨RX3, "allows", "(II)Z"⟩
abbrev cX3_allowsFree : ByteArray := prog_5_method_4_code
def yX3_allowsFree : MethodName := ⟨RX3, "allowsFree", "()Z"⟩
abbrev cX3_allowsFresh : ByteArray := prog_5_method_5_code
def yX3_allowsFresh : MethodName := ⟨RX3, "allowsFresh", "(II)Z"⟩
abbrev cX3_isWrong : ByteArray := prog_5_method_6_code
def yX3_isWrong : MethodName := ⟨RX3, "isWrong", "(II)Z"⟩
abbrev cX3_lead : ByteArray := prog_5_method_7_code
def yX3_lead : MethodName := ⟨RX3, "lead", "(II)V"⟩
abbrev cX3_bringIn : ByteArray := prog_5_method_8_code
def yX3_bringIn : MethodName := ⟨RX3, "bringIn", "(I)V"⟩
abbrev cX3_roquet : ByteArray := prog_5_method_9_code
def yX3_roquet : MethodName := ⟨RX3, "roquet", "(I)V"⟩
abbrev cX3_croquet : ByteArray := prog_5_method_10_code
def yX3_croquet : MethodName := ⟨RX3, "croquet", "()V"⟩
abbrev cX3_spendFree : ByteArray := prog_5_method_11_code
def yX3_spendFree : MethodName := ⟨RX3, "spendFree", "()V"⟩
abbrev cX3_endTurn : ByteArray := prog_5_method_12_code
def yX3_endTurn : MethodName := ⟨RX3, "endTurn", "()V"⟩
abbrev cX3_stopFor : ByteArray := prog_5_method_13_code
def yX3_stopFor : MethodName := ⟨RX3, "stopFor", "(I)V"⟩
abbrev cX3_isOut : ByteArray := prog_5_method_14_code
def yX3_isOut : MethodName := ⟨RX3, "isOut", "(I)Z"⟩
abbrev cX3_winner : ByteArray := prog_5_method_15_code
def yX3_winner : MethodName := ⟨RX3, "winner", "()I"⟩
abbrev cX3_side : ByteArray := prog_5_method_16_code
def yX3_side : MethodName := ⟨RX3, "side", "()I"⟩
abbrev cX3_inPlay : ByteArray := prog_5_method_17_code
def yX3_inPlay : MethodName := ⟨RX3, "inPlay", "()I"⟩
abbrev cX3_tell : ByteArray := prog_5_method_18_code
def yX3_tell : MethodName := ⟨RX3, "tell", "(I)I"⟩
def RX4 : String := "CroquetLawn$Roster"
def TX4 : u_T := fun k => match k with
  | _ => ("CroquetLawn$Roster", "indexes", "[I", true)
def tyX4 : Nat → FieldType := fun k => match k with
  | _ => .array .int
abbrev wsX40 : List Cond := u_ws RX4 TX4 1
theorem nmX4 : ∀ a, a < 1 → ∀ b, b < 1 → a ≠ b → (TX4 a).2.1 ≠ (TX4 b).2.1 := by decide +kernel
theorem tyX4_ok : ∀ k, k < 1 → parseFieldDescriptor (TX4 k).2.2.1 = some (tyX4 k) := by decide +kernel
abbrev cX4_init : ByteArray := prog_6_method_1_code
def yX4_init : MethodName := ⟨RX4, "<init>", "()V"⟩
abbrev cX4_put : ByteArray := prog_6_method_2_code
def yX4_put : MethodName := ⟨RX4, "put", "(II)I"⟩
abbrev cX4_handicapOf : ByteArray := prog_6_method_3_code
def yX4_handicapOf : MethodName := ⟨RX4, "handicapOf", "(I)I"⟩
abbrev cX4_freeTurnsOfOther : ByteArray := prog_6_method_4_code
def yX4_freeTurnsOfOther : MethodName := ⟨RX4, "freeTurnsOfOther", "(II)I"⟩
def RX5 : String := "CroquetLawn"
def TX5 : u_T := fun k => match k with
  | 0 => ("CroquetLawn", "play", "LCroquetLawn$Play;", true)
  | 1 => ("CroquetLawn", "book", "LCroquetLawn$Laws;", true)
  | 2 => ("CroquetLawn", "roster", "LCroquetLawn$Roster;", true)
  | _ => ("CroquetLawn", "meeting", "LCroquetLawn$Meeting;", true)
def tyX5 : Nat → FieldType := fun k => match k with
  | 0 => .object "CroquetLawn$Play"
  | 1 => .object "CroquetLawn$Laws"
  | 2 => .object "CroquetLawn$Roster"
  | _ => .object "CroquetLawn$Meeting"
abbrev wsX50 : List Cond := u_ws RX5 TX5 4
theorem nmX5 : ∀ a, a < 4 → ∀ b, b < 4 → a ≠ b → (TX5 a).2.1 ≠ (TX5 b).2.1 := by decide +kernel
theorem tyX5_ok : ∀ k, k < 4 → parseFieldDescriptor (TX5 k).2.2.1 = some (tyX5 k) := by decide +kernel
abbrev cX5_init : ByteArray := prog_1_method_1_code
def yX5_init : MethodName := ⟨RX5, "<init>", "()V"⟩
abbrev cX5_game : ByteArray := prog_1_method_2_code
def yX5_game : MethodName := ⟨RX5, "game", "(II)I"⟩
abbrev cX5_stroke : ByteArray := prog_1_method_3_code
def yX5_stroke : MethodName := ⟨RX5, "stroke", "(II)I"⟩
abbrev cX5_told : ByteArray := prog_1_method_4_code
def yX5_told : MethodName := ⟨RX5, "told", "(II)I"⟩
abbrev cX5_state : ByteArray := prog_1_method_6_code
def yX5_state : MethodName := ⟨RX5, "state", "(II)I"⟩
abbrev cX5_found : ByteArray := prog_1_method_7_code
def yX5_found : MethodName := ⟨RX5, "found", "(I)I"⟩
abbrev cX5_type : ByteArray := prog_1_method_8_code
def yX5_type : MethodName := ⟨RX5, "type", "(JI)I"⟩
abbrev cX5_laws : ByteArray := prog_1_method_9_code
def yX5_laws : MethodName := ⟨RX5, "laws", "()I"⟩
abbrev cX5_count : ByteArray := prog_1_method_10_code
def yX5_count : MethodName := ⟨RX5, "count", "(I)I"⟩
abbrev cX5_index : ByteArray := prog_1_method_11_code
def yX5_index : MethodName := ⟨RX5, "index", "(II)I"⟩
abbrev cX5_within : ByteArray := prog_1_method_22_code
def yX5_within : MethodName := ⟨RX5, "within", "(III)Z"⟩
abbrev cX5_isPlayer : ByteArray := prog_1_method_23_code
def yX5_isPlayer : MethodName := ⟨RX5, "isPlayer", "(I)Z"⟩
abbrev cX5_at : ByteArray := prog_1_method_24_code
def yX5_at : MethodName := ⟨RX5, "at", "([II)I"⟩
abbrev cX5_set : ByteArray := prog_1_method_25_code
def yX5_set : MethodName := ⟨RX5, "set", "([III)V"⟩
def RX6 : String := "CroquetLawnModel"
def TX6 : u_T := fun k => match k with
  | _ => ("", "", "", false)
def tyX6 : Nat → FieldType := fun k => match k with
  | _ => .int
abbrev wsX60 : List Cond := u_ws RX6 TX6 0
theorem nmX6 : ∀ a, a < 0 → ∀ b, b < 0 → a ≠ b → (TX6 a).2.1 ≠ (TX6 b).2.1 := by decide +kernel
theorem tyX6_ok : ∀ k, k < 0 → parseFieldDescriptor (TX6 k).2.2.1 = some (tyX6 k) := by decide +kernel
def RJ9 : String := "java/lang/Math"
def TJ9 : u_T := fun k => match k with
  | _ => ("", "", "", false)
def tyJ9 : Nat → FieldType := fun k => match k with
  | _ => .int
abbrev wsJ90 : List Cond := u_ws RJ9 TJ9 0
theorem nmJ9 : ∀ a, a < 0 → ∀ b, b < 0 → a ≠ b → (TJ9 a).2.1 ≠ (TJ9 b).2.1 := by decide +kernel
theorem tyJ9_ok : ∀ k, k < 0 → parseFieldDescriptor (TJ9 k).2.2.1 = some (tyJ9 k) := by decide +kernel
abbrev cJ9_abs_0f7a4 : ByteArray := prog_9_method_59_code
def yJ9_abs_0f7a4 : MethodName := ⟨RJ9, "abs", "(I)I"⟩
abbrev cJ9_max_7cf53 : ByteArray := prog_9_method_65_code
def yJ9_max_7cf53 : MethodName := ⟨RJ9, "max", "(II)I"⟩
abbrev cJ9_min_7cf53 : ByteArray := prog_9_method_69_code
def yJ9_min_7cf53 : MethodName := ⟨RJ9, "min", "(II)I"⟩
def RJ7 : String := "java/util/Arrays"
def TJ7 : u_T := fun k => match k with
  | _ => ("", "", "", false)
def tyJ7 : Nat → FieldType := fun k => match k with
  | _ => .int
abbrev wsJ70 : List Cond := u_ws RJ7 TJ7 0
theorem nmJ7 : ∀ a, a < 0 → ∀ b, b < 0 → a ≠ b → (TJ7 a).2.1 ≠ (TJ7 b).2.1 := by decide +kernel
theorem tyJ7_ok : ∀ k, k < 0 → parseFieldDescriptor (TJ7 k).2.2.1 = some (tyJ7 k) := by decide +kernel
abbrev cJ7_fill_53178 : ByteArray := prog_10_method_103_code
def yJ7_fill_53178 : MethodName := ⟨RJ7, "fill", "([II)V"⟩
def RL : String := "CroquetLawnLaw"
abbrev cL_cell : ByteArray := method_2_code
def yL_cell : MethodName := ⟨RL, "cell", "([II)I"⟩
abbrev cL_some : ByteArray := method_3_code
def yL_some : MethodName := ⟨RL, "some", "(II)I"⟩
abbrev cL_told : ByteArray := method_4_code
def yL_told : MethodName := ⟨RL, "told", "(LCroquetLawn;I)J"⟩
abbrev cL_laws : ByteArray := method_5_code
def yL_laws : MethodName := ⟨RL, "laws", "(LCroquetLawn;IIII)Z"⟩
abbrev cL_law : ByteArray := code
def yL_law : MethodName := ⟨RL, "law", "([I)Z"⟩
abbrev vwCl : List vw_C := [(RX0, TX0, 7), (RX1, TX1, 3), (RX2, TX2, 13), (RX3, TX3, 8), (RX4, TX4, 1), (RX5, TX5, 4)]
