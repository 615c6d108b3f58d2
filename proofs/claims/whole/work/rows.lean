section
-- names of the classes, fields, methods; decode rows: out of the claim's own printed NAMES text, by wip/gen/names.py
-- ===== PART A: goes FIRST, ahead of the names: the tables' words, and 'selects' of the private methods out of them =====
/-- a private method of a class that the tables say can be made, by its rows of tables_1 -/
def lw_okq (q : MethodName × Nat) : Prop := (q.1.cls ≠ "java/lang/invoke/MethodHandle" ∧ q.1.cls ≠ "java/lang/invoke/VarHandle") ∧ Cond.instantiable q.1.cls q.2 ∈ tables_1 ∧ Cond.privateMethod q.1 ∈ tables_1 ∧ Cond.instanceMethod q.1 ∈ tables_1
theorem lw_p0 : lw_okq (⟨"CroquetLawn$Position", "allowsFree", "()Z"⟩, 8) := ⟨⟨by decide +kernel, by decide +kernel⟩, List.mem_of_getElem? (i := 25) (by decide +kernel), List.mem_of_getElem? (i := 234) (by decide +kernel), List.mem_of_getElem? (i := 235) (by decide +kernel)⟩
theorem lw_p1 : lw_okq (⟨"CroquetLawn$Position", "allowsFresh", "(II)Z"⟩, 8) := ⟨⟨by decide +kernel, by decide +kernel⟩, List.mem_of_getElem? (i := 25) (by decide +kernel), List.mem_of_getElem? (i := 238) (by decide +kernel), List.mem_of_getElem? (i := 239) (by decide +kernel)⟩
theorem lw_p2 : lw_okq (⟨"CroquetLawn$Play", "noteStriker", "(I)V"⟩, 13) := ⟨⟨by decide +kernel, by decide +kernel⟩, List.mem_of_getElem? (i := 19) (by decide +kernel), List.mem_of_getElem? (i := 249) (by decide +kernel), List.mem_of_getElem? (i := 250) (by decide +kernel)⟩
theorem lw_p3 : lw_okq (⟨"CroquetLawn$Position", "bringIn", "(I)V"⟩, 8) := ⟨⟨by decide +kernel, by decide +kernel⟩, List.mem_of_getElem? (i := 25) (by decide +kernel), List.mem_of_getElem? (i := 265) (by decide +kernel), List.mem_of_getElem? (i := 266) (by decide +kernel)⟩
theorem lw_p4 : lw_okq (⟨"CroquetLawn$Position", "roquet", "(I)V"⟩, 8) := ⟨⟨by decide +kernel, by decide +kernel⟩, List.mem_of_getElem? (i := 25) (by decide +kernel), List.mem_of_getElem? (i := 273) (by decide +kernel), List.mem_of_getElem? (i := 274) (by decide +kernel)⟩
theorem lw_p5 : lw_okq (⟨"CroquetLawn$Position", "croquet", "()V"⟩, 8) := ⟨⟨by decide +kernel, by decide +kernel⟩, List.mem_of_getElem? (i := 25) (by decide +kernel), List.mem_of_getElem? (i := 277) (by decide +kernel), List.mem_of_getElem? (i := 278) (by decide +kernel)⟩
theorem lw_p6 : lw_okq (⟨"CroquetLawn$Position", "spendFree", "()V"⟩, 8) := ⟨⟨by decide +kernel, by decide +kernel⟩, List.mem_of_getElem? (i := 25) (by decide +kernel), List.mem_of_getElem? (i := 281) (by decide +kernel), List.mem_of_getElem? (i := 282) (by decide +kernel)⟩
theorem lw_p7 : lw_okq (⟨"CroquetLawn$Play", "has", "(I)Z"⟩, 13) := ⟨⟨by decide +kernel, by decide +kernel⟩, List.mem_of_getElem? (i := 19) (by decide +kernel), List.mem_of_getElem? (i := 293) (by decide +kernel), List.mem_of_getElem? (i := 294) (by decide +kernel)⟩
theorem lw_p8 : lw_okq (⟨"CroquetLawn$Play", "leadTo", "(LCroquetLawn$Position;I)V"⟩, 13) := ⟨⟨by decide +kernel, by decide +kernel⟩, List.mem_of_getElem? (i := 19) (by decide +kernel), List.mem_of_getElem? (i := 314) (by decide +kernel), List.mem_of_getElem? (i := 315) (by decide +kernel)⟩
theorem lw_p9 : lw_okq (⟨"CroquetLawn$Play", "takeAway", "(I)I"⟩, 13) := ⟨⟨by decide +kernel, by decide +kernel⟩, List.mem_of_getElem? (i := 19) (by decide +kernel), List.mem_of_getElem? (i := 340) (by decide +kernel), List.mem_of_getElem? (i := 341) (by decide +kernel)⟩
theorem lw_p10 : lw_okq (⟨"CroquetLawn$Play", "stopTurn", "(I)I"⟩, 13) := ⟨⟨by decide +kernel, by decide +kernel⟩, List.mem_of_getElem? (i := 19) (by decide +kernel), List.mem_of_getElem? (i := 344) (by decide +kernel), List.mem_of_getElem? (i := 345) (by decide +kernel)⟩
theorem lw_p11 : lw_okq (⟨"CroquetLawn$Laws", "read", "()I"⟩, 7) := ⟨⟨by decide +kernel, by decide +kernel⟩, List.mem_of_getElem? (i := 97) (by decide +kernel), List.mem_of_getElem? (i := 370) (by decide +kernel), List.mem_of_getElem? (i := 371) (by decide +kernel)⟩
theorem lw_p12 : lw_okq (⟨"CroquetLawn$Laws", "atEnd", "()Z"⟩, 7) := ⟨⟨by decide +kernel, by decide +kernel⟩, List.mem_of_getElem? (i := 97) (by decide +kernel), List.mem_of_getElem? (i := 374) (by decide +kernel), List.mem_of_getElem? (i := 375) (by decide +kernel)⟩
theorem lw_p13 : lw_okq (⟨"CroquetLawn$Laws", "skipBlanks", "()V"⟩, 7) := ⟨⟨by decide +kernel, by decide +kernel⟩, List.mem_of_getElem? (i := 97) (by decide +kernel), List.mem_of_getElem? (i := 378) (by decide +kernel), List.mem_of_getElem? (i := 379) (by decide +kernel)⟩
theorem lw_p14 : lw_okq (⟨"CroquetLawn$Laws", "here", "()I"⟩, 7) := ⟨⟨by decide +kernel, by decide +kernel⟩, List.mem_of_getElem? (i := 97) (by decide +kernel), List.mem_of_getElem? (i := 382) (by decide +kernel), List.mem_of_getElem? (i := 383) (by decide +kernel)⟩
theorem lw_p15 : lw_okq (⟨"CroquetLawn$Laws", "readClause", "()Z"⟩, 7) := ⟨⟨by decide +kernel, by decide +kernel⟩, List.mem_of_getElem? (i := 97) (by decide +kernel), List.mem_of_getElem? (i := 386) (by decide +kernel), List.mem_of_getElem? (i := 387) (by decide +kernel)⟩
def lw_privs_1 : List (MethodName × Nat) := [(⟨"CroquetLawn$Position", "allowsFree", "()Z"⟩, 8), (⟨"CroquetLawn$Position", "allowsFresh", "(II)Z"⟩, 8), (⟨"CroquetLawn$Play", "noteStriker", "(I)V"⟩, 13), (⟨"CroquetLawn$Position", "bringIn", "(I)V"⟩, 8), (⟨"CroquetLawn$Position", "roquet", "(I)V"⟩, 8), (⟨"CroquetLawn$Position", "croquet", "()V"⟩, 8), (⟨"CroquetLawn$Position", "spendFree", "()V"⟩, 8), (⟨"CroquetLawn$Play", "has", "(I)Z"⟩, 13), (⟨"CroquetLawn$Play", "leadTo", "(LCroquetLawn$Position;I)V"⟩, 13), (⟨"CroquetLawn$Play", "takeAway", "(I)I"⟩, 13), (⟨"CroquetLawn$Play", "stopTurn", "(I)I"⟩, 13), (⟨"CroquetLawn$Laws", "read", "()I"⟩, 7), (⟨"CroquetLawn$Laws", "atEnd", "()Z"⟩, 7), (⟨"CroquetLawn$Laws", "skipBlanks", "()V"⟩, 7), (⟨"CroquetLawn$Laws", "here", "()I"⟩, 7), (⟨"CroquetLawn$Laws", "readClause", "()Z"⟩, 7)]
theorem lw_r1 : ∀ q ∈ lw_privs_1, lw_okq q := List.forall_mem_cons.mpr ⟨lw_p0, List.forall_mem_cons.mpr ⟨lw_p1, List.forall_mem_cons.mpr ⟨lw_p2, List.forall_mem_cons.mpr ⟨lw_p3, List.forall_mem_cons.mpr ⟨lw_p4, List.forall_mem_cons.mpr ⟨lw_p5, List.forall_mem_cons.mpr ⟨lw_p6, List.forall_mem_cons.mpr ⟨lw_p7, List.forall_mem_cons.mpr ⟨lw_p8, List.forall_mem_cons.mpr ⟨lw_p9, List.forall_mem_cons.mpr ⟨lw_p10, List.forall_mem_cons.mpr ⟨lw_p11, List.forall_mem_cons.mpr ⟨lw_p12, List.forall_mem_cons.mpr ⟨lw_p13, List.forall_mem_cons.mpr ⟨lw_p14, List.forall_mem_cons.mpr ⟨lw_p15, fun _ h => absurd h List.not_mem_nil⟩⟩⟩⟩⟩⟩⟩⟩⟩⟩⟩⟩⟩⟩⟩⟩
theorem lw_p16 : lw_okq (⟨"CroquetLawn$Laws", "readNumber", "()I"⟩, 7) := ⟨⟨by decide +kernel, by decide +kernel⟩, List.mem_of_getElem? (i := 97) (by decide +kernel), List.mem_of_getElem? (i := 390) (by decide +kernel), List.mem_of_getElem? (i := 391) (by decide +kernel)⟩
theorem lw_p17 : lw_okq (⟨"CroquetLawn$Laws", "adoptDraft", "()V"⟩, 7) := ⟨⟨by decide +kernel, by decide +kernel⟩, List.mem_of_getElem? (i := 97) (by decide +kernel), List.mem_of_getElem? (i := 397) (by decide +kernel), List.mem_of_getElem? (i := 398) (by decide +kernel)⟩
theorem lw_p18 : lw_okq (⟨"CroquetLawn$Play", "counts", "(II)Z"⟩, 13) := ⟨⟨by decide +kernel, by decide +kernel⟩, List.mem_of_getElem? (i := 19) (by decide +kernel), List.mem_of_getElem? (i := 409) (by decide +kernel), List.mem_of_getElem? (i := 410) (by decide +kernel)⟩
theorem lw_p19 : lw_okq (⟨"CroquetLawn$Meeting", "hasTwoWinners", "()Z"⟩, 3) := ⟨⟨by decide +kernel, by decide +kernel⟩, List.mem_of_getElem? (i := 141) (by decide +kernel), List.mem_of_getElem? (i := 466) (by decide +kernel), List.mem_of_getElem? (i := 467) (by decide +kernel)⟩
theorem lw_p20 : lw_okq (⟨"CroquetLawn$Meeting", "laid", "()I"⟩, 3) := ⟨⟨by decide +kernel, by decide +kernel⟩, List.mem_of_getElem? (i := 141) (by decide +kernel), List.mem_of_getElem? (i := 514) (by decide +kernel), List.mem_of_getElem? (i := 515) (by decide +kernel)⟩
theorem lw_p21 : lw_okq (⟨"CroquetLawn$Meeting", "isFree", "(II)Z"⟩, 3) := ⟨⟨by decide +kernel, by decide +kernel⟩, List.mem_of_getElem? (i := 141) (by decide +kernel), List.mem_of_getElem? (i := 527) (by decide +kernel), List.mem_of_getElem? (i := 528) (by decide +kernel)⟩
theorem lw_p22 : lw_okq (⟨"CroquetLawn$Meeting", "plays", "(II)Z"⟩, 3) := ⟨⟨by decide +kernel, by decide +kernel⟩, List.mem_of_getElem? (i := 141) (by decide +kernel), List.mem_of_getElem? (i := 531) (by decide +kernel), List.mem_of_getElem? (i := 532) (by decide +kernel)⟩
theorem lw_p23 : lw_okq (⟨"CroquetLawnModel", "handicapOf", "(I)I"⟩, 32) := ⟨⟨by decide +kernel, by decide +kernel⟩, List.mem_of_getElem? (i := 551) (by decide +kernel), List.mem_of_getElem? (i := 669) (by decide +kernel), List.mem_of_getElem? (i := 670) (by decide +kernel)⟩
theorem lw_p24 : lw_okq (⟨"CroquetLawnModel", "forget", "(I)V"⟩, 32) := ⟨⟨by decide +kernel, by decide +kernel⟩, List.mem_of_getElem? (i := 551) (by decide +kernel), List.mem_of_getElem? (i := 677) (by decide +kernel), List.mem_of_getElem? (i := 678) (by decide +kernel)⟩
theorem lw_p25 : lw_okq (⟨"CroquetLawnModel", "goTo", "(I)V"⟩, 32) := ⟨⟨by decide +kernel, by decide +kernel⟩, List.mem_of_getElem? (i := 551) (by decide +kernel), List.mem_of_getElem? (i := 685) (by decide +kernel), List.mem_of_getElem? (i := 686) (by decide +kernel)⟩
theorem lw_p26 : lw_okq (⟨"CroquetLawnModel", "turnTo", "(I)V"⟩, 32) := ⟨⟨by decide +kernel, by decide +kernel⟩, List.mem_of_getElem? (i := 551) (by decide +kernel), List.mem_of_getElem? (i := 689) (by decide +kernel), List.mem_of_getElem? (i := 690) (by decide +kernel)⟩
theorem lw_p27 : lw_okq (⟨"CroquetLawnModel", "endTurn", "()V"⟩, 32) := ⟨⟨by decide +kernel, by decide +kernel⟩, List.mem_of_getElem? (i := 551) (by decide +kernel), List.mem_of_getElem? (i := 693) (by decide +kernel), List.mem_of_getElem? (i := 694) (by decide +kernel)⟩
theorem lw_p28 : lw_okq (⟨"CroquetLawnModel", "make", "(II)V"⟩, 32) := ⟨⟨by decide +kernel, by decide +kernel⟩, List.mem_of_getElem? (i := 551) (by decide +kernel), List.mem_of_getElem? (i := 697) (by decide +kernel), List.mem_of_getElem? (i := 698) (by decide +kernel)⟩
theorem lw_p29 : lw_okq (⟨"CroquetLawnModel", "begin", "(II)V"⟩, 32) := ⟨⟨by decide +kernel, by decide +kernel⟩, List.mem_of_getElem? (i := 551) (by decide +kernel), List.mem_of_getElem? (i := 701) (by decide +kernel), List.mem_of_getElem? (i := 702) (by decide +kernel)⟩
theorem lw_p30 : lw_okq (⟨"CroquetLawnModel", "others", "()I"⟩, 32) := ⟨⟨by decide +kernel, by decide +kernel⟩, List.mem_of_getElem? (i := 551) (by decide +kernel), List.mem_of_getElem? (i := 705) (by decide +kernel), List.mem_of_getElem? (i := 706) (by decide +kernel)⟩
theorem lw_p31 : lw_okq (⟨"CroquetLawnModel", "won", "()I"⟩, 32) := ⟨⟨by decide +kernel, by decide +kernel⟩, List.mem_of_getElem? (i := 551) (by decide +kernel), List.mem_of_getElem? (i := 709) (by decide +kernel), List.mem_of_getElem? (i := 710) (by decide +kernel)⟩
def lw_privs_2 : List (MethodName × Nat) := [(⟨"CroquetLawn$Laws", "readNumber", "()I"⟩, 7), (⟨"CroquetLawn$Laws", "adoptDraft", "()V"⟩, 7), (⟨"CroquetLawn$Play", "counts", "(II)Z"⟩, 13), (⟨"CroquetLawn$Meeting", "hasTwoWinners", "()Z"⟩, 3), (⟨"CroquetLawn$Meeting", "laid", "()I"⟩, 3), (⟨"CroquetLawn$Meeting", "isFree", "(II)Z"⟩, 3), (⟨"CroquetLawn$Meeting", "plays", "(II)Z"⟩, 3), (⟨"CroquetLawnModel", "handicapOf", "(I)I"⟩, 32), (⟨"CroquetLawnModel", "forget", "(I)V"⟩, 32), (⟨"CroquetLawnModel", "goTo", "(I)V"⟩, 32), (⟨"CroquetLawnModel", "turnTo", "(I)V"⟩, 32), (⟨"CroquetLawnModel", "endTurn", "()V"⟩, 32), (⟨"CroquetLawnModel", "make", "(II)V"⟩, 32), (⟨"CroquetLawnModel", "begin", "(II)V"⟩, 32), (⟨"CroquetLawnModel", "others", "()I"⟩, 32), (⟨"CroquetLawnModel", "won", "()I"⟩, 32)]
theorem lw_r2 : ∀ q ∈ lw_privs_2, lw_okq q := List.forall_mem_cons.mpr ⟨lw_p16, List.forall_mem_cons.mpr ⟨lw_p17, List.forall_mem_cons.mpr ⟨lw_p18, List.forall_mem_cons.mpr ⟨lw_p19, List.forall_mem_cons.mpr ⟨lw_p20, List.forall_mem_cons.mpr ⟨lw_p21, List.forall_mem_cons.mpr ⟨lw_p22, List.forall_mem_cons.mpr ⟨lw_p23, List.forall_mem_cons.mpr ⟨lw_p24, List.forall_mem_cons.mpr ⟨lw_p25, List.forall_mem_cons.mpr ⟨lw_p26, List.forall_mem_cons.mpr ⟨lw_p27, List.forall_mem_cons.mpr ⟨lw_p28, List.forall_mem_cons.mpr ⟨lw_p29, List.forall_mem_cons.mpr ⟨lw_p30, List.forall_mem_cons.mpr ⟨lw_p31, fun _ h => absurd h List.not_mem_nil⟩⟩⟩⟩⟩⟩⟩⟩⟩⟩⟩⟩⟩⟩⟩⟩
theorem lw_p32 : lw_okq (⟨"CroquetLawnModel", "canDo", "(II)Z"⟩, 32) := ⟨⟨by decide +kernel, by decide +kernel⟩, List.mem_of_getElem? (i := 551) (by decide +kernel), List.mem_of_getElem? (i := 713) (by decide +kernel), List.mem_of_getElem? (i := 714) (by decide +kernel)⟩
theorem lw_p33 : lw_okq (⟨"CroquetLawnModel", "isWrong", "(II)Z"⟩, 32) := ⟨⟨by decide +kernel, by decide +kernel⟩, List.mem_of_getElem? (i := 551) (by decide +kernel), List.mem_of_getElem? (i := 717) (by decide +kernel), List.mem_of_getElem? (i := 718) (by decide +kernel)⟩
theorem lw_p34 : lw_okq (⟨"CroquetLawnModel", "isStroke", "(I)Z"⟩, 32) := ⟨⟨by decide +kernel, by decide +kernel⟩, List.mem_of_getElem? (i := 551) (by decide +kernel), List.mem_of_getElem? (i := 725) (by decide +kernel), List.mem_of_getElem? (i := 726) (by decide +kernel)⟩
theorem lw_p35 : lw_okq (⟨"CroquetLawnModel", "readLaws", "()I"⟩, 32) := ⟨⟨by decide +kernel, by decide +kernel⟩, List.mem_of_getElem? (i := 551) (by decide +kernel), List.mem_of_getElem? (i := 754) (by decide +kernel), List.mem_of_getElem? (i := 755) (by decide +kernel)⟩
theorem lw_p36 : lw_okq (⟨"CroquetLawnModel", "next", "()I"⟩, 32) := ⟨⟨by decide +kernel, by decide +kernel⟩, List.mem_of_getElem? (i := 551) (by decide +kernel), List.mem_of_getElem? (i := 758) (by decide +kernel), List.mem_of_getElem? (i := 759) (by decide +kernel)⟩
theorem lw_p37 : lw_okq (⟨"CroquetLawnModel", "readClause", "()Z"⟩, 32) := ⟨⟨by decide +kernel, by decide +kernel⟩, List.mem_of_getElem? (i := 551) (by decide +kernel), List.mem_of_getElem? (i := 762) (by decide +kernel), List.mem_of_getElem? (i := 763) (by decide +kernel)⟩
theorem lw_p38 : lw_okq (⟨"CroquetLawnModel", "playerOf", "(II)I"⟩, 32) := ⟨⟨by decide +kernel, by decide +kernel⟩, List.mem_of_getElem? (i := 551) (by decide +kernel), List.mem_of_getElem? (i := 780) (by decide +kernel), List.mem_of_getElem? (i := 781) (by decide +kernel)⟩
theorem lw_p39 : lw_okq (⟨"CroquetLawnModel", "laid", "()I"⟩, 32) := ⟨⟨by decide +kernel, by decide +kernel⟩, List.mem_of_getElem? (i := 551) (by decide +kernel), List.mem_of_getElem? (i := 806) (by decide +kernel), List.mem_of_getElem? (i := 807) (by decide +kernel)⟩
theorem lw_p40 : lw_okq (⟨"CroquetLawnModel", "isFree", "(II)Z"⟩, 32) := ⟨⟨by decide +kernel, by decide +kernel⟩, List.mem_of_getElem? (i := 551) (by decide +kernel), List.mem_of_getElem? (i := 814) (by decide +kernel), List.mem_of_getElem? (i := 815) (by decide +kernel)⟩
theorem lw_p41 : lw_okq (⟨"CroquetLawnModel", "isIn", "(II)Z"⟩, 32) := ⟨⟨by decide +kernel, by decide +kernel⟩, List.mem_of_getElem? (i := 551) (by decide +kernel), List.mem_of_getElem? (i := 818) (by decide +kernel), List.mem_of_getElem? (i := 819) (by decide +kernel)⟩
def lw_privs_3 : List (MethodName × Nat) := [(⟨"CroquetLawnModel", "canDo", "(II)Z"⟩, 32), (⟨"CroquetLawnModel", "isWrong", "(II)Z"⟩, 32), (⟨"CroquetLawnModel", "isStroke", "(I)Z"⟩, 32), (⟨"CroquetLawnModel", "readLaws", "()I"⟩, 32), (⟨"CroquetLawnModel", "next", "()I"⟩, 32), (⟨"CroquetLawnModel", "readClause", "()Z"⟩, 32), (⟨"CroquetLawnModel", "playerOf", "(II)I"⟩, 32), (⟨"CroquetLawnModel", "laid", "()I"⟩, 32), (⟨"CroquetLawnModel", "isFree", "(II)Z"⟩, 32), (⟨"CroquetLawnModel", "isIn", "(II)Z"⟩, 32)]
theorem lw_r3 : ∀ q ∈ lw_privs_3, lw_okq q := List.forall_mem_cons.mpr ⟨lw_p32, List.forall_mem_cons.mpr ⟨lw_p33, List.forall_mem_cons.mpr ⟨lw_p34, List.forall_mem_cons.mpr ⟨lw_p35, List.forall_mem_cons.mpr ⟨lw_p36, List.forall_mem_cons.mpr ⟨lw_p37, List.forall_mem_cons.mpr ⟨lw_p38, List.forall_mem_cons.mpr ⟨lw_p39, List.forall_mem_cons.mpr ⟨lw_p40, List.forall_mem_cons.mpr ⟨lw_p41, fun _ h => absurd h List.not_mem_nil⟩⟩⟩⟩⟩⟩⟩⟩⟩⟩
def lw_privs : List (MethodName × Nat) := lw_privs_1 ++ (lw_privs_2 ++ (lw_privs_3))
def lw_tbl : List Cond := k2_sels lw_privs ++ tables_1
theorem lw_privs_ok : ∀ q ∈ lw_privs, lw_okq q := by
  show ∀ q ∈ lw_privs_1 ++ (lw_privs_2 ++ (lw_privs_3)), lw_okq q
  exact List.forall_mem_append.mpr ⟨lw_r1, List.forall_mem_append.mpr ⟨lw_r2, lw_r3⟩⟩

def RX0 : String := "CroquetLawn$Laws"
def TX0 : u_T := fun k => match k with
  | 0 => ("CroquetLawn$Laws", "tape", "[I", true)
  | 1 => ("CroquetLawn$Laws", "length", "I", false)
  | 2 => ("CroquetLawn$Laws", "place", "I", false)
  | 3 => ("CroquetLawn$Laws", "limits", "[I", true)
  | 4 => ("CroquetLawn$Laws", "letters", "[I", true)
  | 5 => ("CroquetLawn$Laws", "draftLimits", "[I", true)
  | _ => ("CroquetLawn$Laws", "draftLetters", "[I", true)
def tyX0 : Nat → FieldType := fun k => match k with
  | 0 => .array .int
  | 1 => .int
  | 2 => .int
  | 3 => .array .int
  | 4 => .array .int
  | 5 => .array .int
  | _ => .array .int
abbrev wsX00 : List Cond := u_ws RX0 TX0 7
theorem nmX0 : ∀ a, a < 7 → ∀ b, b < 7 → a ≠ b → (TX0 a).2.1 ≠ (TX0 b).2.1 := by decide +kernel
theorem tyX0_ok : ∀ k, k < 7 → parseFieldDescriptor (TX0 k).2.2.1 = some (tyX0 k) := by decide +kernel
abbrev cX0_init : ByteArray := prog_2_method_1_code
def yX0_init : MethodName := ⟨RX0, "<init>", "()V"⟩
abbrev cX0_letterFor : ByteArray := prog_2_method_2_code
def yX0_letterFor : MethodName := ⟨RX0, "letterFor", "(II)I"⟩
abbrev cX0_append : ByteArray := prog_2_method_3_code
def yX0_append : MethodName := ⟨RX0, "append", "(JI)I"⟩
abbrev cX0_byteOf : ByteArray := prog_2_method_4_code
def yX0_byteOf : MethodName := ⟨RX0, "byteOf", "(JI)I"⟩
abbrev cX0_takeTape : ByteArray := prog_2_method_5_code
def yX0_takeTape : MethodName := ⟨RX0, "takeTape", "()I"⟩
abbrev cX0_adoptDraft : ByteArray := prog_2_method_6_code
def yX0_adoptDraft : MethodName := ⟨RX0, "adoptDraft", "()V"⟩
abbrev cX0_read : ByteArray := prog_2_method_7_code
def yX0_read : MethodName := ⟨RX0, "read", "()I"⟩
abbrev cX0_readClause : ByteArray := prog_2_method_8_code
def yX0_readClause : MethodName := ⟨RX0, "readClause", "()Z"⟩
abbrev cX0_readNumber : ByteArray := prog_2_method_9_code
def yX0_readNumber : MethodName := ⟨RX0, "readNumber", "()I"⟩
abbrev cX0_skipBlanks : ByteArray := prog_2_method_10_code
def yX0_skipBlanks : MethodName := ⟨RX0, "skipBlanks", "()V"⟩
abbrev cX0_atEnd : ByteArray := prog_2_method_11_code
def yX0_atEnd : MethodName := ⟨RX0, "atEnd", "()Z"⟩
abbrev cX0_here : ByteArray := prog_2_method_12_code
def yX0_here : MethodName := ⟨RX0, "here", "()I"⟩
def RX1 : String := "CroquetLawn$Meeting"
def TX1 : u_T := fun k => match k with
  | 0 => ("CroquetLawn$Meeting", "winners", "[I", true)
  | 1 => ("CroquetLawn$Meeting", "hours", "[I", true)
  | _ => ("CroquetLawn$Meeting", "lawnCount", "I", false)
def tyX1 : Nat → FieldType := fun k => match k with
  | 0 => .array .int
  | 1 => .array .int
  | _ => .int
abbrev wsX10 : List Cond := u_ws RX1 TX1 3
theorem nmX1 : ∀ a, a < 3 → ∀ b, b < 3 → a ≠ b → (TX1 a).2.1 ≠ (TX1 b).2.1 := by decide +kernel
theorem tyX1_ok : ∀ k, k < 3 → parseFieldDescriptor (TX1 k).2.2.1 = some (tyX1 k) := by decide +kernel
abbrev cX1_init : ByteArray := prog_3_method_1_code
def yX1_init : MethodName := ⟨RX1, "<init>", "()V"⟩
abbrev cX1_isMatch : ByteArray := prog_3_method_2_code
def yX1_isMatch : MethodName := ⟨RX1, "isMatch", "(I)Z"⟩
abbrev cX1_who : ByteArray := prog_3_method_3_code
def yX1_who : MethodName := ⟨RX1, "who", "(II)I"⟩
abbrev cX1_hasTwoWinners : ByteArray := prog_3_method_4_code
def yX1_hasTwoWinners : MethodName := ⟨RX1, "hasTwoWinners", "()Z"⟩
abbrev cX1_give : ByteArray := prog_3_method_5_code
def yX1_give : MethodName := ⟨RX1, "give", "(II)I"⟩
abbrev cX1_takeBack : ByteArray := prog_3_method_6_code
def yX1_takeBack : MethodName := ⟨RX1, "takeBack", "(I)I"⟩
abbrev cX1_best : ByteArray := prog_3_method_7_code
def yX1_best : MethodName := ⟨RX1, "best", "()I"⟩
abbrev cX1_setLawns : ByteArray := prog_3_method_8_code
def yX1_setLawns : MethodName := ⟨RX1, "setLawns", "(I)I"⟩
abbrev cX1_laid : ByteArray := prog_3_method_9_code
def yX1_laid : MethodName := ⟨RX1, "laid", "()I"⟩
abbrev cX1_hourOf : ByteArray := prog_3_method_10_code
def yX1_hourOf : MethodName := ⟨RX1, "hourOf", "(I)I"⟩
abbrev cX1_place : ByteArray := prog_3_method_11_code
def yX1_place : MethodName := ⟨RX1, "place", "(I)I"⟩
abbrev cX1_isFree : ByteArray := prog_3_method_12_code
def yX1_isFree : MethodName := ⟨RX1, "isFree", "(II)Z"⟩
abbrev cX1_plays : ByteArray := prog_3_method_13_code
def yX1_plays : MethodName := ⟨RX1, "plays", "(II)Z"⟩
abbrev cX1_liftAll : ByteArray := prog_3_method_14_code
def yX1_liftAll : MethodName := ⟨RX1, "liftAll", "()I"⟩
def RX2 : String := "CroquetLawn$Play"
def TX2 : u_T := fun k => match k with
  | 0 => ("CroquetLawn$Play", "kinds", "[I", true)
  | 1 => ("CroquetLawn$Play", "aims", "[I", true)
  | 2 => ("CroquetLawn$Play", "strikers", "[I", true)
  | 3 => ("CroquetLawn$Play", "sides", "[I", true)
  | 4 => ("CroquetLawn$Play", "wrongs", "[I", true)
  | 5 => ("CroquetLawn$Play", "rulings", "[I", true)
  | 6 => ("CroquetLawn$Play", "players", "[I", true)
  | 7 => ("CroquetLawn$Play", "now", "LCroquetLawn$Position;", true)
  | 8 => ("CroquetLawn$Play", "past", "LCroquetLawn$Position;", true)
  | 9 => ("CroquetLawn$Play", "on", "Z", false)
  | 10 => ("CroquetLawn$Play", "size", "I", false)
  | 11 => ("CroquetLawn$Play", "free0", "I", false)
  | _ => ("CroquetLawn$Play", "free1", "I", false)
def tyX2 : Nat → FieldType := fun k => match k with
  | 0 => .array .int
  | 1 => .array .int
  | 2 => .array .int
  | 3 => .array .int
  | 4 => .array .int
  | 5 => .array .int
  | 6 => .array .int
  | 7 => .object "CroquetLawn$Position"
  | 8 => .object "CroquetLawn$Position"
  | 9 => .boolean
  | 10 => .int
  | 11 => .int
  | _ => .int
abbrev wsX20 : List Cond := u_ws RX2 TX2 13
theorem nmX2 : ∀ a, a < 13 → ∀ b, b < 13 → a ≠ b → (TX2 a).2.1 ≠ (TX2 b).2.1 := by decide +kernel
theorem tyX2_ok : ∀ k, k < 13 → parseFieldDescriptor (TX2 k).2.2.1 = some (tyX2 k) := by decide +kernel
abbrev cX2_init : ByteArray := prog_4_method_1_code
def yX2_init : MethodName := ⟨RX2, "<init>", "()V"⟩
abbrev cX2_begin : ByteArray := prog_4_method_2_code
def yX2_begin : MethodName := ⟨RX2, "begin", "(IIII)V"⟩
abbrev cX2_end : ByteArray := prog_4_method_3_code
def yX2_end : MethodName := ⟨RX2, "end", "()V"⟩
abbrev cX2_winner : ByteArray := prog_4_method_4_code
def yX2_winner : MethodName := ⟨RX2, "winner", "()I"⟩
abbrev cX2_playerOf : ByteArray := prog_4_method_5_code
def yX2_playerOf : MethodName := ⟨RX2, "playerOf", "(I)I"⟩
abbrev cX2_take : ByteArray := prog_4_method_6_code
def yX2_take : MethodName := ⟨RX2, "take", "(II)I"⟩
abbrev cX2_begins : ByteArray := prog_4_method_7_code
def yX2_begins : MethodName := ⟨RX2, "begins", "(I)Z"⟩
abbrev cX2_noteStriker : ByteArray := prog_4_method_8_code
def yX2_noteStriker : MethodName := ⟨RX2, "noteStriker", "(I)V"⟩
abbrev cX2_has : ByteArray := prog_4_method_9_code
def yX2_has : MethodName := ⟨RX2, "has", "(I)Z"⟩
abbrev cX2_tell : ByteArray := prog_4_method_10_code
def yX2_tell : MethodName := ⟨RX2, "tell", "(II)I"⟩
abbrev cX2_roqueted : ByteArray := prog_4_method_11_code
def yX2_roqueted : MethodName := ⟨RX2, "roqueted", "(I)I"⟩
abbrev cX2_asOf : ByteArray := prog_4_method_12_code
def yX2_asOf : MethodName := ⟨RX2, "asOf", "(II)I"⟩
abbrev cX2_leadTo : ByteArray := prog_4_method_13_code
def yX2_leadTo : MethodName := ⟨RX2, "leadTo", "(LCroquetLawn$Position;I)V"⟩
abbrev cX2_obey : ByteArray := prog_4_method_14_code
def yX2_obey : MethodName := ⟨RX2, "obey", "(LCroquetLawn$Position;I)V"⟩
abbrev cX2_find : ByteArray := prog_4_method_15_code
def yX2_find : MethodName := ⟨RX2, "find", "(ILCroquetLawn$Laws;)I"⟩
abbrev cX2_takeAway : ByteArray := prog_4_method_16_code
def yX2_takeAway : MethodName := ⟨RX2, "takeAway", "(I)I"⟩
abbrev cX2_stopTurn : ByteArray := prog_4_method_17_code
def yX2_stopTurn : MethodName := ⟨RX2, "stopTurn", "(I)I"⟩
abbrev cX2_total : ByteArray := prog_4_method_18_code
def yX2_total : MethodName := ⟨RX2, "total", "(I)I"⟩
abbrev cX2_counts : ByteArray := prog_4_method_19_code
def yX2_counts : MethodName := ⟨RX2, "counts", "(II)Z"⟩
def RX3 : String := "CroquetLawn$Position"
def TX3 : u_T := fun k => match k with
  | 0 => ("CroquetLawn$Position", "run", "[I", true)
  | 1 => ("CroquetLawn$Position", "freeLeft", "[I", true)
  | 2 => ("CroquetLawn$Position", "side", "I", false)
  | 3 => ("CroquetLawn$Position", "inPlay", "I", false)
  | 4 => ("CroquetLawn$Position", "toGo", "I", false)
  | 5 => ("CroquetLawn$Position", "live", "I", false)
  | 6 => ("CroquetLawn$Position", "mustCroquet", "I", false)
  | _ => ("CroquetLawn$Position", "freeBall", "I", false)
def tyX3 : Nat → FieldType := fun k => match k with
  | 0 => .array .int
  | 1 => .array .int
  | 2 => .int
  | 3 => .int
  | 4 => .int
  | 5 => .int
  | 6 => .int
  | _ => .int
abbrev wsX30 : List Cond := u_ws RX3 TX3 8
theorem nmX3 : ∀ a, a < 8 → ∀ b, b < 8 → a ≠ b → (TX3 a).2.1 ≠ (TX3 b).2.1 := by decide +kernel
theorem tyX3_ok : ∀ k, k < 8 → parseFieldDescriptor (TX3 k).2.2.1 = some (tyX3 k) := by decide +kernel
abbrev cX3_init : ByteArray := prog_5_method_1_code
def yX3_init : MethodName := ⟨RX3, "<init>", "()V"⟩
abbrev cX3_begin : ByteArray := prog_5_method_2_code
def yX3_begin : MethodName := ⟨RX3, "begin", "(II)V"⟩
abbrev cX3_allows : ByteArray := prog_5_method_3_code
def yX3_allows : MethodName := ⟨RX3, "allows", "(II)Z"⟩
abbrev cX3_allowsFree : ByteArray := prog_5_method_4_code
def yX3_allowsFree : MethodName := ⟨RX3, "allowsFree", "()Z"⟩
abbrev cX3_allowsFresh : ByteArray := prog_5_method_5_code
def yX3_allowsFresh : MethodName := ⟨RX3, "allowsFresh", "(II)Z"⟩
abbrev cX3_isWrong : ByteArray := prog_5_method_6_code
def yX3_isWrong : MethodName := ⟨RX3, "isWrong", "(II)Z"⟩
abbrev cX3_lead : ByteArray := prog_5_method_7_code
def yX3_lead : MethodName := ⟨RX3, "lead", "(II)V"⟩
abbrev cX3_bringIn : ByteArray := prog_5_method_8_code
def yX3_bringIn : MethodName := ⟨RX3, "bringIn", "(I)V"⟩
abbrev cX3_roquet : ByteArray := prog_5_method_9_code
def yX3_roquet : MethodName := ⟨RX3, "roquet", "(I)V"⟩
abbrev cX3_croquet : ByteArray := prog_5_method_10_code
def yX3_croquet : MethodName := ⟨RX3, "croquet", "()V"⟩
abbrev cX3_spendFree : ByteArray := prog_5_method_11_code
def yX3_spendFree : MethodName := ⟨RX3, "spendFree", "()V"⟩
abbrev cX3_endTurn : ByteArray := prog_5_method_12_code
def yX3_endTurn : MethodName := ⟨RX3, "endTurn", "()V"⟩
abbrev cX3_stopFor : ByteArray := prog_5_method_13_code
def yX3_stopFor : MethodName := ⟨RX3, "stopFor", "(I)V"⟩
abbrev cX3_isOut : ByteArray := prog_5_method_14_code
def yX3_isOut : MethodName := ⟨RX3, "isOut", "(I)Z"⟩
abbrev cX3_winner : ByteArray := prog_5_method_15_code
def yX3_winner : MethodName := ⟨RX3, "winner", "()I"⟩
abbrev cX3_side : ByteArray := prog_5_method_16_code
def yX3_side : MethodName := ⟨RX3, "side", "()I"⟩
abbrev cX3_inPlay : ByteArray := prog_5_method_17_code
def yX3_inPlay : MethodName := ⟨RX3, "inPlay", "()I"⟩
abbrev cX3_tell : ByteArray := prog_5_method_18_code
def yX3_tell : MethodName := ⟨RX3, "tell", "(I)I"⟩
def RX4 : String := "CroquetLawn$Roster"
def TX4 : u_T := fun k => match k with
  | _ => ("CroquetLawn$Roster", "indexes", "[I", true)
def tyX4 : Nat → FieldType := fun k => match k with
  | _ => .array .int
abbrev wsX40 : List Cond := u_ws RX4 TX4 1
theorem nmX4 : ∀ a, a < 1 → ∀ b, b < 1 → a ≠ b → (TX4 a).2.1 ≠ (TX4 b).2.1 := by decide +kernel
theorem tyX4_ok : ∀ k, k < 1 → parseFieldDescriptor (TX4 k).2.2.1 = some (tyX4 k) := by decide +kernel
abbrev cX4_init : ByteArray := prog_6_method_1_code
def yX4_init : MethodName := ⟨RX4, "<init>", "()V"⟩
abbrev cX4_put : ByteArray := prog_6_method_2_code
def yX4_put : MethodName := ⟨RX4, "put", "(II)I"⟩
abbrev cX4_handicapOf : ByteArray := prog_6_method_3_code
def yX4_handicapOf : MethodName := ⟨RX4, "handicapOf", "(I)I"⟩
abbrev cX4_freeTurnsOfOther : ByteArray := prog_6_method_4_code
def yX4_freeTurnsOfOther : MethodName := ⟨RX4, "freeTurnsOfOther", "(II)I"⟩
abbrev cX4_move : ByteArray := prog_6_method_5_code
def yX4_move : MethodName := ⟨RX4, "move", "(II)I"⟩
abbrev cX4_held : ByteArray := prog_6_method_6_code
def yX4_held : MethodName := ⟨RX4, "held", "(III)I"⟩
def RX5 : String := "CroquetLawn"
def TX5 : u_T := fun k => match k with
  | 0 => ("CroquetLawn", "play", "LCroquetLawn$Play;", true)
  | 1 => ("CroquetLawn", "book", "LCroquetLawn$Laws;", true)
  | 2 => ("CroquetLawn", "roster", "LCroquetLawn$Roster;", true)
  | _ => ("CroquetLawn", "meeting", "LCroquetLawn$Meeting;", true)
def tyX5 : Nat → FieldType := fun k => match k with
  | 0 => .object "CroquetLawn$Play"
  | 1 => .object "CroquetLawn$Laws"
  | 2 => .object "CroquetLawn$Roster"
  | _ => .object "CroquetLawn$Meeting"
abbrev wsX50 : List Cond := u_ws RX5 TX5 4
theorem nmX5 : ∀ a, a < 4 → ∀ b, b < 4 → a ≠ b → (TX5 a).2.1 ≠ (TX5 b).2.1 := by decide +kernel
theorem tyX5_ok : ∀ k, k < 4 → parseFieldDescriptor (TX5 k).2.2.1 = some (tyX5 k) := by decide +kernel
abbrev cX5_init : ByteArray := prog_1_method_1_code
def yX5_init : MethodName := ⟨RX5, "<init>", "()V"⟩
abbrev cX5_game : ByteArray := prog_1_method_2_code
def yX5_game : MethodName := ⟨RX5, "game", "(II)I"⟩
abbrev cX5_stroke : ByteArray := prog_1_method_3_code
def yX5_stroke : MethodName := ⟨RX5, "stroke", "(II)I"⟩
abbrev cX5_told : ByteArray := prog_1_method_4_code
def yX5_told : MethodName := ⟨RX5, "told", "(II)I"⟩
abbrev cX5_hit : ByteArray := prog_1_method_5_code
def yX5_hit : MethodName := ⟨RX5, "hit", "(I)I"⟩
abbrev cX5_state : ByteArray := prog_1_method_6_code
def yX5_state : MethodName := ⟨RX5, "state", "(II)I"⟩
abbrev cX5_found : ByteArray := prog_1_method_7_code
def yX5_found : MethodName := ⟨RX5, "found", "(I)I"⟩
abbrev cX5_type : ByteArray := prog_1_method_8_code
def yX5_type : MethodName := ⟨RX5, "type", "(JI)I"⟩
abbrev cX5_laws : ByteArray := prog_1_method_9_code
def yX5_laws : MethodName := ⟨RX5, "laws", "()I"⟩
abbrev cX5_count : ByteArray := prog_1_method_10_code
def yX5_count : MethodName := ⟨RX5, "count", "(I)I"⟩
abbrev cX5_index : ByteArray := prog_1_method_11_code
def yX5_index : MethodName := ⟨RX5, "index", "(II)I"⟩
abbrev cX5_handicap : ByteArray := prog_1_method_12_code
def yX5_handicap : MethodName := ⟨RX5, "handicap", "(I)I"⟩
abbrev cX5_settle : ByteArray := prog_1_method_13_code
def yX5_settle : MethodName := ⟨RX5, "settle", "()I"⟩
abbrev cX5_match : ByteArray := prog_1_method_14_code
def yX5_match : MethodName := ⟨RX5, "match", "(II)I"⟩
abbrev cX5_win : ByteArray := prog_1_method_15_code
def yX5_win : MethodName := ⟨RX5, "win", "(II)I"⟩
abbrev cX5_unwin : ByteArray := prog_1_method_16_code
def yX5_unwin : MethodName := ⟨RX5, "unwin", "(I)I"⟩
abbrev cX5_champion : ByteArray := prog_1_method_17_code
def yX5_champion : MethodName := ⟨RX5, "champion", "()I"⟩
abbrev cX5_lawns : ByteArray := prog_1_method_18_code
def yX5_lawns : MethodName := ⟨RX5, "lawns", "(I)I"⟩
abbrev cX5_lay : ByteArray := prog_1_method_19_code
def yX5_lay : MethodName := ⟨RX5, "lay", "(I)I"⟩
abbrev cX5_hour : ByteArray := prog_1_method_20_code
def yX5_hour : MethodName := ⟨RX5, "hour", "(I)I"⟩
abbrev cX5_clear : ByteArray := prog_1_method_21_code
def yX5_clear : MethodName := ⟨RX5, "clear", "()I"⟩
abbrev cX5_within : ByteArray := prog_1_method_22_code
def yX5_within : MethodName := ⟨RX5, "within", "(III)Z"⟩
abbrev cX5_isPlayer : ByteArray := prog_1_method_23_code
def yX5_isPlayer : MethodName := ⟨RX5, "isPlayer", "(I)Z"⟩
abbrev cX5_at : ByteArray := prog_1_method_24_code
def yX5_at : MethodName := ⟨RX5, "at", "([II)I"⟩
abbrev cX5_set : ByteArray := prog_1_method_25_code
def yX5_set : MethodName := ⟨RX5, "set", "([III)V"⟩
def RX6 : String := "CroquetLawnModel"
def TX6 : u_T := fun k => match k with
  | 0 => ("CroquetLawnModel", "indexes", "[I", true)
  | 1 => ("CroquetLawnModel", "hasGame", "Z", false)
  | 2 => ("CroquetLawnModel", "players", "[I", true)
  | 3 => ("CroquetLawnModel", "frees", "[I", true)
  | 4 => ("CroquetLawnModel", "strokes", "I", false)
  | 5 => ("CroquetLawnModel", "kinds", "[I", true)
  | 6 => ("CroquetLawnModel", "hits", "[I", true)
  | 7 => ("CroquetLawnModel", "strikers", "[I", true)
  | 8 => ("CroquetLawnModel", "sides", "[I", true)
  | 9 => ("CroquetLawnModel", "wrong", "[Z", true)
  | 10 => ("CroquetLawnModel", "turnedTo", "[I", true)
  | 11 => ("CroquetLawnModel", "ended", "[Z", true)
  | 12 => ("CroquetLawnModel", "hoops", "[I", true)
  | 13 => ("CroquetLawnModel", "left", "[I", true)
  | 14 => ("CroquetLawnModel", "side", "I", false)
  | 15 => ("CroquetLawnModel", "ball", "I", false)
  | 16 => ("CroquetLawnModel", "go", "I", false)
  | 17 => ("CroquetLawnModel", "live", "I", false)
  | 18 => ("CroquetLawnModel", "must", "I", false)
  | 19 => ("CroquetLawnModel", "lastBall", "I", false)
  | 20 => ("CroquetLawnModel", "lastSide", "I", false)
  | 21 => ("CroquetLawnModel", "turnSide", "I", false)
  | 22 => ("CroquetLawnModel", "numbers", "[I", true)
  | 23 => ("CroquetLawnModel", "letters", "[I", true)
  | 24 => ("CroquetLawnModel", "readNumbers", "[I", true)
  | 25 => ("CroquetLawnModel", "readLetters", "[I", true)
  | 26 => ("CroquetLawnModel", "tape", "[I", true)
  | 27 => ("CroquetLawnModel", "taped", "I", false)
  | 28 => ("CroquetLawnModel", "at", "I", false)
  | 29 => ("CroquetLawnModel", "winners", "[I", true)
  | 30 => ("CroquetLawnModel", "hours", "[I", true)
  | _ => ("CroquetLawnModel", "lawns", "I", false)
def tyX6 : Nat → FieldType := fun k => match k with
  | 0 => .array .int
  | 1 => .boolean
  | 2 => .array .int
  | 3 => .array .int
  | 4 => .int
  | 5 => .array .int
  | 6 => .array .int
  | 7 => .array .int
  | 8 => .array .int
  | 9 => .array .boolean
  | 10 => .array .int
  | 11 => .array .boolean
  | 12 => .array .int
  | 13 => .array .int
  | 14 => .int
  | 15 => .int
  | 16 => .int
  | 17 => .int
  | 18 => .int
  | 19 => .int
  | 20 => .int
  | 21 => .int
  | 22 => .array .int
  | 23 => .array .int
  | 24 => .array .int
  | 25 => .array .int
  | 26 => .array .int
  | 27 => .int
  | 28 => .int
  | 29 => .array .int
  | 30 => .array .int
  | _ => .int
abbrev wsX60 : List Cond := u_ws RX6 TX6 32
theorem nmX6 : ∀ a, a < 32 → ∀ b, b < 32 → a ≠ b → (TX6 a).2.1 ≠ (TX6 b).2.1 := by decide +kernel
theorem tyX6_ok : ∀ k, k < 32 → parseFieldDescriptor (TX6 k).2.2.1 = some (tyX6 k) := by decide +kernel
abbrev cX6_in : ByteArray := prog_8_method_1_code
def yX6_in : MethodName := ⟨RX6, "in", "(III)Z"⟩
abbrev cX6_init : ByteArray := prog_8_method_2_code
def yX6_init : MethodName := ⟨RX6, "<init>", "()V"⟩
abbrev cX6_isPlayer : ByteArray := prog_8_method_3_code
def yX6_isPlayer : MethodName := ⟨RX6, "isPlayer", "(I)Z"⟩
abbrev cX6_index : ByteArray := prog_8_method_4_code
def yX6_index : MethodName := ⟨RX6, "index", "(II)I"⟩
abbrev cX6_handicapOf : ByteArray := prog_8_method_5_code
def yX6_handicapOf : MethodName := ⟨RX6, "handicapOf", "(I)I"⟩
abbrev cX6_handicap : ByteArray := prog_8_method_6_code
def yX6_handicap : MethodName := ⟨RX6, "handicap", "(I)I"⟩
abbrev cX6_game : ByteArray := prog_8_method_7_code
def yX6_game : MethodName := ⟨RX6, "game", "(II)I"⟩
abbrev cX6_forget : ByteArray := prog_8_method_8_code
def yX6_forget : MethodName := ⟨RX6, "forget", "(I)V"⟩
abbrev cX6_others : ByteArray := prog_8_method_9_code
def yX6_others : MethodName := ⟨RX6, "others", "()I"⟩
abbrev cX6_begin : ByteArray := prog_8_method_10_code
def yX6_begin : MethodName := ⟨RX6, "begin", "(II)V"⟩
abbrev cX6_endTurn : ByteArray := prog_8_method_11_code
def yX6_endTurn : MethodName := ⟨RX6, "endTurn", "()V"⟩
abbrev cX6_turnTo : ByteArray := prog_8_method_12_code
def yX6_turnTo : MethodName := ⟨RX6, "turnTo", "(I)V"⟩
abbrev cX6_won : ByteArray := prog_8_method_13_code
def yX6_won : MethodName := ⟨RX6, "won", "()I"⟩
abbrev cX6_canDo : ByteArray := prog_8_method_14_code
def yX6_canDo : MethodName := ⟨RX6, "canDo", "(II)Z"⟩
abbrev cX6_isWrong : ByteArray := prog_8_method_15_code
def yX6_isWrong : MethodName := ⟨RX6, "isWrong", "(II)Z"⟩
abbrev cX6_make : ByteArray := prog_8_method_16_code
def yX6_make : MethodName := ⟨RX6, "make", "(II)V"⟩
abbrev cX6_goTo : ByteArray := prog_8_method_17_code
def yX6_goTo : MethodName := ⟨RX6, "goTo", "(I)V"⟩
abbrev cX6_stroke : ByteArray := prog_8_method_18_code
def yX6_stroke : MethodName := ⟨RX6, "stroke", "(II)I"⟩
abbrev cX6_isStroke : ByteArray := prog_8_method_19_code
def yX6_isStroke : MethodName := ⟨RX6, "isStroke", "(I)Z"⟩
abbrev cX6_told : ByteArray := prog_8_method_20_code
def yX6_told : MethodName := ⟨RX6, "told", "(II)I"⟩
abbrev cX6_hit : ByteArray := prog_8_method_21_code
def yX6_hit : MethodName := ⟨RX6, "hit", "(I)I"⟩
abbrev cX6_state : ByteArray := prog_8_method_22_code
def yX6_state : MethodName := ⟨RX6, "state", "(II)I"⟩
abbrev cX6_count : ByteArray := prog_8_method_23_code
def yX6_count : MethodName := ⟨RX6, "count", "(I)I"⟩
abbrev cX6_found : ByteArray := prog_8_method_24_code
def yX6_found : MethodName := ⟨RX6, "found", "(I)I"⟩
abbrev cX6_type : ByteArray := prog_8_method_25_code
def yX6_type : MethodName := ⟨RX6, "type", "(JI)I"⟩
abbrev cX6_next : ByteArray := prog_8_method_26_code
def yX6_next : MethodName := ⟨RX6, "next", "()I"⟩
abbrev cX6_readClause : ByteArray := prog_8_method_27_code
def yX6_readClause : MethodName := ⟨RX6, "readClause", "()Z"⟩
abbrev cX6_readLaws : ByteArray := prog_8_method_28_code
def yX6_readLaws : MethodName := ⟨RX6, "readLaws", "()I"⟩
abbrev cX6_laws : ByteArray := prog_8_method_29_code
def yX6_laws : MethodName := ⟨RX6, "laws", "()I"⟩
abbrev cX6_held : ByteArray := prog_8_method_30_code
def yX6_held : MethodName := ⟨RX6, "held", "(III)I"⟩
abbrev cX6_settle : ByteArray := prog_8_method_31_code
def yX6_settle : MethodName := ⟨RX6, "settle", "()I"⟩
abbrev cX6_isMatch : ByteArray := prog_8_method_32_code
def yX6_isMatch : MethodName := ⟨RX6, "isMatch", "(I)Z"⟩
abbrev cX6_isFirst : ByteArray := prog_8_method_33_code
def yX6_isFirst : MethodName := ⟨RX6, "isFirst", "(I)Z"⟩
abbrev cX6_from : ByteArray := prog_8_method_34_code
def yX6_from : MethodName := ⟨RX6, "from", "(II)I"⟩
abbrev cX6_playerOf : ByteArray := prog_8_method_35_code
def yX6_playerOf : MethodName := ⟨RX6, "playerOf", "(II)I"⟩
abbrev cX6_match : ByteArray := prog_8_method_36_code
def yX6_match : MethodName := ⟨RX6, "match", "(II)I"⟩
abbrev cX6_win : ByteArray := prog_8_method_37_code
def yX6_win : MethodName := ⟨RX6, "win", "(II)I"⟩
abbrev cX6_unwin : ByteArray := prog_8_method_38_code
def yX6_unwin : MethodName := ⟨RX6, "unwin", "(I)I"⟩
abbrev cX6_champion : ByteArray := prog_8_method_39_code
def yX6_champion : MethodName := ⟨RX6, "champion", "()I"⟩
abbrev cX6_laid : ByteArray := prog_8_method_40_code
def yX6_laid : MethodName := ⟨RX6, "laid", "()I"⟩
abbrev cX6_lawns : ByteArray := prog_8_method_41_code
def yX6_lawns : MethodName := ⟨RX6, "lawns", "(I)I"⟩
abbrev cX6_isIn : ByteArray := prog_8_method_42_code
def yX6_isIn : MethodName := ⟨RX6, "isIn", "(II)Z"⟩
abbrev cX6_isFree : ByteArray := prog_8_method_43_code
def yX6_isFree : MethodName := ⟨RX6, "isFree", "(II)Z"⟩
abbrev cX6_lay : ByteArray := prog_8_method_44_code
def yX6_lay : MethodName := ⟨RX6, "lay", "(I)I"⟩
abbrev cX6_hour : ByteArray := prog_8_method_45_code
def yX6_hour : MethodName := ⟨RX6, "hour", "(I)I"⟩
abbrev cX6_clear : ByteArray := prog_8_method_46_code
def yX6_clear : MethodName := ⟨RX6, "clear", "()I"⟩
def RJ9 : String := "java/lang/Math"
def TJ9 : u_T := fun k => match k with
  | _ => ("", "", "", false)
def tyJ9 : Nat → FieldType := fun k => match k with
  | _ => .int
abbrev wsJ90 : List Cond := u_ws RJ9 TJ9 0
theorem nmJ9 : ∀ a, a < 0 → ∀ b, b < 0 → a ≠ b → (TJ9 a).2.1 ≠ (TJ9 b).2.1 := by decide +kernel
theorem tyJ9_ok : ∀ k, k < 0 → parseFieldDescriptor (TJ9 k).2.2.1 = some (tyJ9 k) := by decide +kernel
abbrev cJ9_abs_0f7a4 : ByteArray := prog_9_method_59_code
def yJ9_abs_0f7a4 : MethodName := ⟨RJ9, "abs", "(I)I"⟩
abbrev cJ9_max_7cf53 : ByteArray := prog_9_method_65_code
def yJ9_max_7cf53 : MethodName := ⟨RJ9, "max", "(II)I"⟩
abbrev cJ9_min_7cf53 : ByteArray := prog_9_method_69_code
def yJ9_min_7cf53 : MethodName := ⟨RJ9, "min", "(II)I"⟩
def RJ7 : String := "java/util/Arrays"
def TJ7 : u_T := fun k => match k with
  | _ => ("", "", "", false)
def tyJ7 : Nat → FieldType := fun k => match k with
  | _ => .int
abbrev wsJ70 : List Cond := u_ws RJ7 TJ7 0
theorem nmJ7 : ∀ a, a < 0 → ∀ b, b < 0 → a ≠ b → (TJ7 a).2.1 ≠ (TJ7 b).2.1 := by decide +kernel
theorem tyJ7_ok : ∀ k, k < 0 → parseFieldDescriptor (TJ7 k).2.2.1 = some (tyJ7 k) := by decide +kernel
abbrev cJ7_fill_53178 : ByteArray := prog_10_method_103_code
def yJ7_fill_53178 : MethodName := ⟨RJ7, "fill", "([II)V"⟩
def RL : String := "CroquetLawnLaw"
abbrev cL_law : ByteArray := code
def yL_law : MethodName := ⟨RL, "law", "([I)Z"⟩
abbrev vwCl : List vw_C := [(RX0, TX0, 7), (RX1, TX1, 3), (RX2, TX2, 13), (RX3, TX3, 8), (RX4, TX4, 1), (RX5, TX5, 4), (RX6, TX6, 32)]
end
section
-- names of the classes, fields, methods; decode rows: out of the claim's own printed NAMES text, by wip/gen/names.py
theorem dX0_init_0 : decode cX0_init 0 = .ok (.aload_n 0, 1) := by decide +kernel
theorem dX0_init_1 : decode cX0_init 1 = .ok (.invokespecial 3, 3) := by decide +kernel
theorem dX0_init_4 : decode cX0_init 4 = .ok (.aload_n 0, 1) := by decide +kernel
theorem dX0_init_5 : decode cX0_init 5 = .ok (.bipush 30, 2) := by decide +kernel
theorem dX0_init_7 : decode cX0_init 7 = .ok (.newarray .int, 2) := by decide +kernel
theorem dX0_init_9 : decode cX0_init 9 = .ok (.putfield 11, 3) := by decide +kernel
theorem dX0_init_12 : decode cX0_init 12 = .ok (.aload_n 0, 1) := by decide +kernel
theorem dX0_init_13 : decode cX0_init 13 = .ok (.iconst 2, 1) := by decide +kernel
theorem dX0_init_14 : decode cX0_init 14 = .ok (.newarray .int, 2) := by decide +kernel
theorem dX0_init_16 : decode cX0_init 16 = .ok (.putfield 15, 3) := by decide +kernel
theorem dX0_init_19 : decode cX0_init 19 = .ok (.aload_n 0, 1) := by decide +kernel
theorem dX0_init_20 : decode cX0_init 20 = .ok (.iconst 2, 1) := by decide +kernel
theorem dX0_init_21 : decode cX0_init 21 = .ok (.newarray .int, 2) := by decide +kernel
theorem dX0_init_23 : decode cX0_init 23 = .ok (.putfield 18, 3) := by decide +kernel
theorem dX0_init_26 : decode cX0_init 26 = .ok (.aload_n 0, 1) := by decide +kernel
theorem dX0_init_27 : decode cX0_init 27 = .ok (.iconst 2, 1) := by decide +kernel
theorem dX0_init_28 : decode cX0_init 28 = .ok (.newarray .int, 2) := by decide +kernel
theorem dX0_init_30 : decode cX0_init 30 = .ok (.putfield 21, 3) := by decide +kernel
theorem dX0_init_33 : decode cX0_init 33 = .ok (.aload_n 0, 1) := by decide +kernel
theorem dX0_init_34 : decode cX0_init 34 = .ok (.iconst 2, 1) := by decide +kernel
theorem dX0_init_35 : decode cX0_init 35 = .ok (.newarray .int, 2) := by decide +kernel
theorem dX0_init_37 : decode cX0_init 37 = .ok (.putfield 24, 3) := by decide +kernel
theorem dX0_init_40 : decode cX0_init 40 = .ok (.aload_n 0, 1) := by decide +kernel
theorem dX0_init_41 : decode cX0_init 41 = .ok (.getfield 15, 3) := by decide +kernel
theorem dX0_init_44 : decode cX0_init 44 = .ok (.iconst 0, 1) := by decide +kernel
theorem dX0_init_45 : decode cX0_init 45 = .ok (.iconst 5, 1) := by decide +kernel
theorem dX0_init_46 : decode cX0_init 46 = .ok (.invokestatic 27, 3) := by decide +kernel
theorem dX0_init_49 : decode cX0_init 49 = .ok (.aload_n 0, 1) := by decide +kernel
theorem dX0_init_50 : decode cX0_init 50 = .ok (.getfield 18, 3) := by decide +kernel
theorem dX0_init_53 : decode cX0_init 53 = .ok (.iconst 0, 1) := by decide +kernel
theorem dX0_init_54 : decode cX0_init 54 = .ok (.bipush 82, 2) := by decide +kernel
theorem dX0_init_56 : decode cX0_init 56 = .ok (.invokestatic 27, 3) := by decide +kernel
theorem dX0_init_59 : decode cX0_init 59 = .ok (.aload_n 0, 1) := by decide +kernel
theorem dX0_init_60 : decode cX0_init 60 = .ok (.getfield 15, 3) := by decide +kernel
theorem dX0_init_63 : decode cX0_init 63 = .ok (.iconst 1, 1) := by decide +kernel
theorem dX0_init_64 : decode cX0_init 64 = .ok (.iconst 2, 1) := by decide +kernel
theorem dX0_init_65 : decode cX0_init 65 = .ok (.invokestatic 27, 3) := by decide +kernel
theorem dX0_init_68 : decode cX0_init 68 = .ok (.aload_n 0, 1) := by decide +kernel
theorem dX0_init_69 : decode cX0_init 69 = .ok (.getfield 18, 3) := by decide +kernel
theorem dX0_init_72 : decode cX0_init 72 = .ok (.iconst 1, 1) := by decide +kernel
theorem dX0_init_73 : decode cX0_init 73 = .ok (.bipush 78, 2) := by decide +kernel
theorem dX0_init_75 : decode cX0_init 75 = .ok (.invokestatic 27, 3) := by decide +kernel
theorem dX0_init_78 : decode cX0_init 78 = .ok (.return_, 1) := by decide +kernel
theorem dX0_letterFor_0 : decode cX0_letterFor 0 = .ok (.iload_n 1, 1) := by decide +kernel
theorem dX0_letterFor_1 : decode cX0_letterFor 1 = .ok (.ifCond .ne 7, 3) := by decide +kernel
theorem dX0_letterFor_4 : decode cX0_letterFor 4 = .ok (.iconst 0, 1) := by decide +kernel
theorem dX0_letterFor_5 : decode cX0_letterFor 5 = .ok (.goto 4, 3) := by decide +kernel
theorem dX0_letterFor_8 : decode cX0_letterFor 8 = .ok (.iconst 1, 1) := by decide +kernel
theorem dX0_letterFor_9 : decode cX0_letterFor 9 = .ok (.istore_n 3, 1) := by decide +kernel
theorem dX0_letterFor_10 : decode cX0_letterFor 10 = .ok (.iload_n 2, 1) := by decide +kernel
theorem dX0_letterFor_11 : decode cX0_letterFor 11 = .ok (.aload_n 0, 1) := by decide +kernel
theorem dX0_letterFor_12 : decode cX0_letterFor 12 = .ok (.getfield 15, 3) := by decide +kernel
theorem dX0_letterFor_15 : decode cX0_letterFor 15 = .ok (.iload_n 3, 1) := by decide +kernel
theorem dX0_letterFor_16 : decode cX0_letterFor 16 = .ok (.invokestatic 31, 3) := by decide +kernel
theorem dX0_letterFor_19 : decode cX0_letterFor 19 = .ok (.if_icmp .gt 14, 3) := by decide +kernel
theorem dX0_letterFor_22 : decode cX0_letterFor 22 = .ok (.aload_n 0, 1) := by decide +kernel
theorem dX0_letterFor_23 : decode cX0_letterFor 23 = .ok (.getfield 18, 3) := by decide +kernel
theorem dX0_letterFor_26 : decode cX0_letterFor 26 = .ok (.iload_n 3, 1) := by decide +kernel
theorem dX0_letterFor_27 : decode cX0_letterFor 27 = .ok (.invokestatic 31, 3) := by decide +kernel
theorem dX0_letterFor_30 : decode cX0_letterFor 30 = .ok (.goto 5, 3) := by decide +kernel
theorem dX0_letterFor_33 : decode cX0_letterFor 33 = .ok (.bipush (-4), 2) := by decide +kernel
theorem dX0_letterFor_35 : decode cX0_letterFor 35 = .ok (.ireturn, 1) := by decide +kernel
theorem dX0_append_0 : decode cX0_append 0 = .ok (.iload_n 3, 1) := by decide +kernel
theorem dX0_append_1 : decode cX0_append 1 = .ok (.iconst 1, 1) := by decide +kernel
theorem dX0_append_2 : decode cX0_append 2 = .ok (.bipush 8, 2) := by decide +kernel
theorem dX0_append_4 : decode cX0_append 4 = .ok (.invokestatic 35, 3) := by decide +kernel
theorem dX0_append_7 : decode cX0_append 7 = .ok (.ifCond .ne 5, 3) := by decide +kernel
theorem dX0_append_10 : decode cX0_append 10 = .ok (.iconst (-1), 1) := by decide +kernel
theorem dX0_append_11 : decode cX0_append 11 = .ok (.ireturn, 1) := by decide +kernel
theorem dX0_append_12 : decode cX0_append 12 = .ok (.iconst 0, 1) := by decide +kernel
theorem dX0_append_13 : decode cX0_append 13 = .ok (.istore 4, 2) := by decide +kernel
theorem dX0_append_15 : decode cX0_append 15 = .ok (.iload 4, 2) := by decide +kernel
theorem dX0_append_17 : decode cX0_append 17 = .ok (.iload_n 3, 1) := by decide +kernel
theorem dX0_append_18 : decode cX0_append 18 = .ok (.if_icmp .ge 27, 3) := by decide +kernel
theorem dX0_append_21 : decode cX0_append 21 = .ok (.lload_n 1, 1) := by decide +kernel
theorem dX0_append_22 : decode cX0_append 22 = .ok (.iload 4, 2) := by decide +kernel
theorem dX0_append_24 : decode cX0_append 24 = .ok (.invokestatic 39, 3) := by decide +kernel
theorem dX0_append_27 : decode cX0_append 27 = .ok (.bipush 32, 2) := by decide +kernel
theorem dX0_append_29 : decode cX0_append 29 = .ok (.bipush 126, 2) := by decide +kernel
theorem dX0_append_31 : decode cX0_append 31 = .ok (.invokestatic 35, 3) := by decide +kernel
theorem dX0_append_34 : decode cX0_append 34 = .ok (.ifCond .ne 5, 3) := by decide +kernel
theorem dX0_append_37 : decode cX0_append 37 = .ok (.iconst (-1), 1) := by decide +kernel
theorem dX0_append_38 : decode cX0_append 38 = .ok (.ireturn, 1) := by decide +kernel
theorem dX0_append_39 : decode cX0_append 39 = .ok (.iinc 4 1, 3) := by decide +kernel
theorem dX0_append_42 : decode cX0_append 42 = .ok (.goto (-27), 3) := by decide +kernel
theorem dX0_append_45 : decode cX0_append 45 = .ok (.aload_n 0, 1) := by decide +kernel
theorem dX0_append_46 : decode cX0_append 46 = .ok (.getfield 43, 3) := by decide +kernel
theorem dX0_append_49 : decode cX0_append 49 = .ok (.iload_n 3, 1) := by decide +kernel
theorem dX0_append_50 : decode cX0_append 50 = .ok (.iadd, 1) := by decide +kernel
theorem dX0_append_51 : decode cX0_append 51 = .ok (.bipush 30, 2) := by decide +kernel
theorem dX0_append_53 : decode cX0_append 53 = .ok (.if_icmp .le 6, 3) := by decide +kernel
theorem dX0_append_56 : decode cX0_append 56 = .ok (.bipush (-3), 2) := by decide +kernel
theorem dX0_append_58 : decode cX0_append 58 = .ok (.ireturn, 1) := by decide +kernel
theorem dX0_append_59 : decode cX0_append 59 = .ok (.iload_n 3, 1) := by decide +kernel
theorem dX0_append_60 : decode cX0_append 60 = .ok (.iconst 1, 1) := by decide +kernel
theorem dX0_append_61 : decode cX0_append 61 = .ok (.isub, 1) := by decide +kernel
theorem dX0_append_62 : decode cX0_append 62 = .ok (.istore 4, 2) := by decide +kernel
theorem dX0_append_64 : decode cX0_append 64 = .ok (.iload 4, 2) := by decide +kernel
theorem dX0_append_66 : decode cX0_append 66 = .ok (.ifCond .lt 36, 3) := by decide +kernel
theorem dX0_append_69 : decode cX0_append 69 = .ok (.aload_n 0, 1) := by decide +kernel
theorem dX0_append_70 : decode cX0_append 70 = .ok (.getfield 11, 3) := by decide +kernel
theorem dX0_append_73 : decode cX0_append 73 = .ok (.aload_n 0, 1) := by decide +kernel
theorem dX0_append_74 : decode cX0_append 74 = .ok (.getfield 43, 3) := by decide +kernel
theorem dX0_append_77 : decode cX0_append 77 = .ok (.lload_n 1, 1) := by decide +kernel
theorem dX0_append_78 : decode cX0_append 78 = .ok (.iload 4, 2) := by decide +kernel
theorem dX0_append_80 : decode cX0_append 80 = .ok (.invokestatic 39, 3) := by decide +kernel
theorem dX0_append_83 : decode cX0_append 83 = .ok (.invokestatic 27, 3) := by decide +kernel
theorem dX0_append_86 : decode cX0_append 86 = .ok (.aload_n 0, 1) := by decide +kernel
theorem dX0_append_87 : decode cX0_append 87 = .ok (.dup, 1) := by decide +kernel
theorem dX0_append_88 : decode cX0_append 88 = .ok (.getfield 43, 3) := by decide +kernel
theorem dX0_append_91 : decode cX0_append 91 = .ok (.iconst 1, 1) := by decide +kernel
theorem dX0_append_92 : decode cX0_append 92 = .ok (.iadd, 1) := by decide +kernel
theorem dX0_append_93 : decode cX0_append 93 = .ok (.putfield 43, 3) := by decide +kernel
theorem dX0_append_96 : decode cX0_append 96 = .ok (.iinc 4 (-1), 3) := by decide +kernel
theorem dX0_append_99 : decode cX0_append 99 = .ok (.goto (-35), 3) := by decide +kernel
theorem dX0_append_102 : decode cX0_append 102 = .ok (.aload_n 0, 1) := by decide +kernel
theorem dX0_append_103 : decode cX0_append 103 = .ok (.getfield 43, 3) := by decide +kernel
theorem dX0_append_106 : decode cX0_append 106 = .ok (.ireturn, 1) := by decide +kernel
theorem dX0_byteOf_0 : decode cX0_byteOf 0 = .ok (.lload_n 0, 1) := by decide +kernel
theorem dX0_byteOf_1 : decode cX0_byteOf 1 = .ok (.bipush 8, 2) := by decide +kernel
theorem dX0_byteOf_3 : decode cX0_byteOf 3 = .ok (.iload_n 2, 1) := by decide +kernel
theorem dX0_byteOf_4 : decode cX0_byteOf 4 = .ok (.imul, 1) := by decide +kernel
theorem dX0_byteOf_5 : decode cX0_byteOf 5 = .ok (.lushr, 1) := by decide +kernel
theorem dX0_byteOf_6 : decode cX0_byteOf 6 = .ok (.ldc2_w 47, 3) := by decide +kernel
theorem dX0_byteOf_9 : decode cX0_byteOf 9 = .ok (.land, 1) := by decide +kernel
theorem dX0_byteOf_10 : decode cX0_byteOf 10 = .ok (.l2i, 1) := by decide +kernel
theorem dX0_byteOf_11 : decode cX0_byteOf 11 = .ok (.ireturn, 1) := by decide +kernel
theorem dX0_takeTape_0 : decode cX0_takeTape 0 = .ok (.aload_n 0, 1) := by decide +kernel
theorem dX0_takeTape_1 : decode cX0_takeTape 1 = .ok (.iconst 0, 1) := by decide +kernel
theorem dX0_takeTape_2 : decode cX0_takeTape 2 = .ok (.putfield 49, 3) := by decide +kernel
theorem dX0_takeTape_5 : decode cX0_takeTape 5 = .ok (.aload_n 0, 1) := by decide +kernel
theorem dX0_takeTape_6 : decode cX0_takeTape 6 = .ok (.getfield 24, 3) := by decide +kernel
theorem dX0_takeTape_9 : decode cX0_takeTape 9 = .ok (.bipush (-4), 2) := by decide +kernel
theorem dX0_takeTape_11 : decode cX0_takeTape 11 = .ok (.invokestatic 52, 3) := by decide +kernel
theorem dX0_takeTape_14 : decode cX0_takeTape 14 = .ok (.aload_n 0, 1) := by decide +kernel
theorem dX0_takeTape_15 : decode cX0_takeTape 15 = .ok (.invokevirtual 58, 3) := by decide +kernel
theorem dX0_takeTape_18 : decode cX0_takeTape 18 = .ok (.istore_n 1, 1) := by decide +kernel
theorem dX0_takeTape_19 : decode cX0_takeTape 19 = .ok (.iload_n 1, 1) := by decide +kernel
theorem dX0_takeTape_20 : decode cX0_takeTape 20 = .ok (.ifCond .lt 7, 3) := by decide +kernel
theorem dX0_takeTape_23 : decode cX0_takeTape 23 = .ok (.aload_n 0, 1) := by decide +kernel
theorem dX0_takeTape_24 : decode cX0_takeTape 24 = .ok (.invokevirtual 62, 3) := by decide +kernel
theorem dX0_takeTape_27 : decode cX0_takeTape 27 = .ok (.aload_n 0, 1) := by decide +kernel
theorem dX0_takeTape_28 : decode cX0_takeTape 28 = .ok (.iconst 0, 1) := by decide +kernel
theorem dX0_takeTape_29 : decode cX0_takeTape 29 = .ok (.putfield 43, 3) := by decide +kernel
theorem dX0_takeTape_32 : decode cX0_takeTape 32 = .ok (.iload_n 1, 1) := by decide +kernel
theorem dX0_takeTape_33 : decode cX0_takeTape 33 = .ok (.ireturn, 1) := by decide +kernel
theorem dX0_adoptDraft_0 : decode cX0_adoptDraft 0 = .ok (.iconst 0, 1) := by decide +kernel
theorem dX0_adoptDraft_1 : decode cX0_adoptDraft 1 = .ok (.istore_n 1, 1) := by decide +kernel
theorem dX0_adoptDraft_2 : decode cX0_adoptDraft 2 = .ok (.iload_n 1, 1) := by decide +kernel
theorem dX0_adoptDraft_3 : decode cX0_adoptDraft 3 = .ok (.iconst 2, 1) := by decide +kernel
theorem dX0_adoptDraft_4 : decode cX0_adoptDraft 4 = .ok (.if_icmp .ge 41, 3) := by decide +kernel
theorem dX0_adoptDraft_7 : decode cX0_adoptDraft 7 = .ok (.aload_n 0, 1) := by decide +kernel
theorem dX0_adoptDraft_8 : decode cX0_adoptDraft 8 = .ok (.getfield 15, 3) := by decide +kernel
theorem dX0_adoptDraft_11 : decode cX0_adoptDraft 11 = .ok (.iload_n 1, 1) := by decide +kernel
theorem dX0_adoptDraft_12 : decode cX0_adoptDraft 12 = .ok (.aload_n 0, 1) := by decide +kernel
theorem dX0_adoptDraft_13 : decode cX0_adoptDraft 13 = .ok (.getfield 21, 3) := by decide +kernel
theorem dX0_adoptDraft_16 : decode cX0_adoptDraft 16 = .ok (.iload_n 1, 1) := by decide +kernel
theorem dX0_adoptDraft_17 : decode cX0_adoptDraft 17 = .ok (.invokestatic 31, 3) := by decide +kernel
theorem dX0_adoptDraft_20 : decode cX0_adoptDraft 20 = .ok (.invokestatic 27, 3) := by decide +kernel
theorem dX0_adoptDraft_23 : decode cX0_adoptDraft 23 = .ok (.aload_n 0, 1) := by decide +kernel
theorem dX0_adoptDraft_24 : decode cX0_adoptDraft 24 = .ok (.getfield 18, 3) := by decide +kernel
theorem dX0_adoptDraft_27 : decode cX0_adoptDraft 27 = .ok (.iload_n 1, 1) := by decide +kernel
theorem dX0_adoptDraft_28 : decode cX0_adoptDraft 28 = .ok (.aload_n 0, 1) := by decide +kernel
theorem dX0_adoptDraft_29 : decode cX0_adoptDraft 29 = .ok (.getfield 24, 3) := by decide +kernel
theorem dX0_adoptDraft_32 : decode cX0_adoptDraft 32 = .ok (.iload_n 1, 1) := by decide +kernel
theorem dX0_adoptDraft_33 : decode cX0_adoptDraft 33 = .ok (.invokestatic 31, 3) := by decide +kernel
theorem dX0_adoptDraft_36 : decode cX0_adoptDraft 36 = .ok (.invokestatic 27, 3) := by decide +kernel
theorem dX0_adoptDraft_39 : decode cX0_adoptDraft 39 = .ok (.iinc 1 1, 3) := by decide +kernel
theorem dX0_adoptDraft_42 : decode cX0_adoptDraft 42 = .ok (.goto (-40), 3) := by decide +kernel
theorem dX0_adoptDraft_45 : decode cX0_adoptDraft 45 = .ok (.return_, 1) := by decide +kernel
theorem dX0_read_0 : decode cX0_read 0 = .ok (.aload_n 0, 1) := by decide +kernel
theorem dX0_read_1 : decode cX0_read 1 = .ok (.invokevirtual 65, 3) := by decide +kernel
theorem dX0_read_4 : decode cX0_read 4 = .ok (.ifCond .eq 5, 3) := by decide +kernel
theorem dX0_read_7 : decode cX0_read 7 = .ok (.iconst 0, 1) := by decide +kernel
theorem dX0_read_8 : decode cX0_read 8 = .ok (.ireturn, 1) := by decide +kernel
theorem dX0_read_9 : decode cX0_read 9 = .ok (.aload_n 0, 1) := by decide +kernel
theorem dX0_read_10 : decode cX0_read 10 = .ok (.invokevirtual 69, 3) := by decide +kernel
theorem dX0_read_13 : decode cX0_read 13 = .ok (.ifCond .ne 11, 3) := by decide +kernel
theorem dX0_read_16 : decode cX0_read 16 = .ok (.bipush (-20), 2) := by decide +kernel
theorem dX0_read_18 : decode cX0_read 18 = .ok (.aload_n 0, 1) := by decide +kernel
theorem dX0_read_19 : decode cX0_read 19 = .ok (.getfield 49, 3) := by decide +kernel
theorem dX0_read_22 : decode cX0_read 22 = .ok (.isub, 1) := by decide +kernel
theorem dX0_read_23 : decode cX0_read 23 = .ok (.ireturn, 1) := by decide +kernel
theorem dX0_read_24 : decode cX0_read 24 = .ok (.aload_n 0, 1) := by decide +kernel
theorem dX0_read_25 : decode cX0_read 25 = .ok (.invokevirtual 65, 3) := by decide +kernel
theorem dX0_read_28 : decode cX0_read 28 = .ok (.ifCond .eq 5, 3) := by decide +kernel
theorem dX0_read_31 : decode cX0_read 31 = .ok (.iconst 1, 1) := by decide +kernel
theorem dX0_read_32 : decode cX0_read 32 = .ok (.ireturn, 1) := by decide +kernel
theorem dX0_read_33 : decode cX0_read 33 = .ok (.aload_n 0, 1) := by decide +kernel
theorem dX0_read_34 : decode cX0_read 34 = .ok (.invokevirtual 72, 3) := by decide +kernel
theorem dX0_read_37 : decode cX0_read 37 = .ok (.bipush 59, 2) := by decide +kernel
theorem dX0_read_39 : decode cX0_read 39 = .ok (.if_icmp .eq 11, 3) := by decide +kernel
theorem dX0_read_42 : decode cX0_read 42 = .ok (.bipush (-20), 2) := by decide +kernel
theorem dX0_read_44 : decode cX0_read 44 = .ok (.aload_n 0, 1) := by decide +kernel
theorem dX0_read_45 : decode cX0_read 45 = .ok (.getfield 49, 3) := by decide +kernel
theorem dX0_read_48 : decode cX0_read 48 = .ok (.isub, 1) := by decide +kernel
theorem dX0_read_49 : decode cX0_read 49 = .ok (.ireturn, 1) := by decide +kernel
theorem dX0_read_50 : decode cX0_read 50 = .ok (.aload_n 0, 1) := by decide +kernel
theorem dX0_read_51 : decode cX0_read 51 = .ok (.dup, 1) := by decide +kernel
theorem dX0_read_52 : decode cX0_read 52 = .ok (.getfield 49, 3) := by decide +kernel
theorem dX0_read_55 : decode cX0_read 55 = .ok (.iconst 1, 1) := by decide +kernel
theorem dX0_read_56 : decode cX0_read 56 = .ok (.iadd, 1) := by decide +kernel
theorem dX0_read_57 : decode cX0_read 57 = .ok (.putfield 49, 3) := by decide +kernel
theorem dX0_read_60 : decode cX0_read 60 = .ok (.aload_n 0, 1) := by decide +kernel
theorem dX0_read_61 : decode cX0_read 61 = .ok (.invokevirtual 69, 3) := by decide +kernel
theorem dX0_read_64 : decode cX0_read 64 = .ok (.ifCond .eq 14, 3) := by decide +kernel
theorem dX0_read_67 : decode cX0_read 67 = .ok (.aload_n 0, 1) := by decide +kernel
theorem dX0_read_68 : decode cX0_read 68 = .ok (.invokevirtual 65, 3) := by decide +kernel
theorem dX0_read_71 : decode cX0_read 71 = .ok (.ifCond .eq 7, 3) := by decide +kernel
theorem dX0_read_74 : decode cX0_read 74 = .ok (.iconst 2, 1) := by decide +kernel
theorem dX0_read_75 : decode cX0_read 75 = .ok (.goto 10, 3) := by decide +kernel
theorem dX0_read_78 : decode cX0_read 78 = .ok (.bipush (-20), 2) := by decide +kernel
theorem dX0_read_80 : decode cX0_read 80 = .ok (.aload_n 0, 1) := by decide +kernel
theorem dX0_read_81 : decode cX0_read 81 = .ok (.getfield 49, 3) := by decide +kernel
theorem dX0_read_84 : decode cX0_read 84 = .ok (.isub, 1) := by decide +kernel
theorem dX0_read_85 : decode cX0_read 85 = .ok (.ireturn, 1) := by decide +kernel
theorem dX0_readClause_0 : decode cX0_readClause 0 = .ok (.aload_n 0, 1) := by decide +kernel
theorem dX0_readClause_1 : decode cX0_readClause 1 = .ok (.invokevirtual 75, 3) := by decide +kernel
theorem dX0_readClause_4 : decode cX0_readClause 4 = .ok (.aload_n 0, 1) := by decide +kernel
theorem dX0_readClause_5 : decode cX0_readClause 5 = .ok (.invokevirtual 72, 3) := by decide +kernel
theorem dX0_readClause_8 : decode cX0_readClause 8 = .ok (.istore_n 1, 1) := by decide +kernel
theorem dX0_readClause_9 : decode cX0_readClause 9 = .ok (.iload_n 1, 1) := by decide +kernel
theorem dX0_readClause_10 : decode cX0_readClause 10 = .ok (.bipush 112, 2) := by decide +kernel
theorem dX0_readClause_12 : decode cX0_readClause 12 = .ok (.if_icmp .eq 11, 3) := by decide +kernel
theorem dX0_readClause_15 : decode cX0_readClause 15 = .ok (.iload_n 1, 1) := by decide +kernel
theorem dX0_readClause_16 : decode cX0_readClause 16 = .ok (.bipush 114, 2) := by decide +kernel
theorem dX0_readClause_18 : decode cX0_readClause 18 = .ok (.if_icmp .eq 5, 3) := by decide +kernel
theorem dX0_readClause_21 : decode cX0_readClause 21 = .ok (.iconst 0, 1) := by decide +kernel
theorem dX0_readClause_22 : decode cX0_readClause 22 = .ok (.ireturn, 1) := by decide +kernel
theorem dX0_readClause_23 : decode cX0_readClause 23 = .ok (.aload_n 0, 1) := by decide +kernel
theorem dX0_readClause_24 : decode cX0_readClause 24 = .ok (.dup, 1) := by decide +kernel
theorem dX0_readClause_25 : decode cX0_readClause 25 = .ok (.getfield 49, 3) := by decide +kernel
theorem dX0_readClause_28 : decode cX0_readClause 28 = .ok (.iconst 1, 1) := by decide +kernel
theorem dX0_readClause_29 : decode cX0_readClause 29 = .ok (.iadd, 1) := by decide +kernel
theorem dX0_readClause_30 : decode cX0_readClause 30 = .ok (.putfield 49, 3) := by decide +kernel
theorem dX0_readClause_33 : decode cX0_readClause 33 = .ok (.aload_n 0, 1) := by decide +kernel
theorem dX0_readClause_34 : decode cX0_readClause 34 = .ok (.invokevirtual 75, 3) := by decide +kernel
theorem dX0_readClause_37 : decode cX0_readClause 37 = .ok (.aload_n 0, 1) := by decide +kernel
theorem dX0_readClause_38 : decode cX0_readClause 38 = .ok (.invokevirtual 78, 3) := by decide +kernel
theorem dX0_readClause_41 : decode cX0_readClause 41 = .ok (.istore_n 2, 1) := by decide +kernel
theorem dX0_readClause_42 : decode cX0_readClause 42 = .ok (.iload_n 2, 1) := by decide +kernel
theorem dX0_readClause_43 : decode cX0_readClause 43 = .ok (.bipush (-4), 2) := by decide +kernel
theorem dX0_readClause_45 : decode cX0_readClause 45 = .ok (.if_icmp .ne 5, 3) := by decide +kernel
theorem dX0_readClause_48 : decode cX0_readClause 48 = .ok (.iconst 0, 1) := by decide +kernel
theorem dX0_readClause_49 : decode cX0_readClause 49 = .ok (.ireturn, 1) := by decide +kernel
theorem dX0_readClause_50 : decode cX0_readClause 50 = .ok (.aload_n 0, 1) := by decide +kernel
theorem dX0_readClause_51 : decode cX0_readClause 51 = .ok (.invokevirtual 75, 3) := by decide +kernel
theorem dX0_readClause_54 : decode cX0_readClause 54 = .ok (.aload_n 0, 1) := by decide +kernel
theorem dX0_readClause_55 : decode cX0_readClause 55 = .ok (.invokevirtual 72, 3) := by decide +kernel
theorem dX0_readClause_58 : decode cX0_readClause 58 = .ok (.istore_n 3, 1) := by decide +kernel
theorem dX0_readClause_59 : decode cX0_readClause 59 = .ok (.iload_n 3, 1) := by decide +kernel
theorem dX0_readClause_60 : decode cX0_readClause 60 = .ok (.bipush 82, 2) := by decide +kernel
theorem dX0_readClause_62 : decode cX0_readClause 62 = .ok (.if_icmp .eq 11, 3) := by decide +kernel
theorem dX0_readClause_65 : decode cX0_readClause 65 = .ok (.iload_n 3, 1) := by decide +kernel
theorem dX0_readClause_66 : decode cX0_readClause 66 = .ok (.bipush 78, 2) := by decide +kernel
theorem dX0_readClause_68 : decode cX0_readClause 68 = .ok (.if_icmp .eq 5, 3) := by decide +kernel
theorem dX0_readClause_71 : decode cX0_readClause 71 = .ok (.iconst 0, 1) := by decide +kernel
theorem dX0_readClause_72 : decode cX0_readClause 72 = .ok (.ireturn, 1) := by decide +kernel
theorem dX0_readClause_73 : decode cX0_readClause 73 = .ok (.aload_n 0, 1) := by decide +kernel
theorem dX0_readClause_74 : decode cX0_readClause 74 = .ok (.dup, 1) := by decide +kernel
theorem dX0_readClause_75 : decode cX0_readClause 75 = .ok (.getfield 49, 3) := by decide +kernel
theorem dX0_readClause_78 : decode cX0_readClause 78 = .ok (.iconst 1, 1) := by decide +kernel
theorem dX0_readClause_79 : decode cX0_readClause 79 = .ok (.iadd, 1) := by decide +kernel
theorem dX0_readClause_80 : decode cX0_readClause 80 = .ok (.putfield 49, 3) := by decide +kernel
theorem dX0_readClause_83 : decode cX0_readClause 83 = .ok (.aload_n 0, 1) := by decide +kernel
theorem dX0_readClause_84 : decode cX0_readClause 84 = .ok (.getfield 21, 3) := by decide +kernel
theorem dX0_readClause_87 : decode cX0_readClause 87 = .ok (.iload_n 1, 1) := by decide +kernel
theorem dX0_readClause_88 : decode cX0_readClause 88 = .ok (.bipush 112, 2) := by decide +kernel
theorem dX0_readClause_90 : decode cX0_readClause 90 = .ok (.if_icmp .ne 7, 3) := by decide +kernel
theorem dX0_readClause_93 : decode cX0_readClause 93 = .ok (.iconst 0, 1) := by decide +kernel
theorem dX0_readClause_94 : decode cX0_readClause 94 = .ok (.goto 4, 3) := by decide +kernel
theorem dX0_readClause_97 : decode cX0_readClause 97 = .ok (.iconst 1, 1) := by decide +kernel
theorem dX0_readClause_98 : decode cX0_readClause 98 = .ok (.iload_n 2, 1) := by decide +kernel
theorem dX0_readClause_99 : decode cX0_readClause 99 = .ok (.invokestatic 27, 3) := by decide +kernel
theorem dX0_readClause_102 : decode cX0_readClause 102 = .ok (.aload_n 0, 1) := by decide +kernel
theorem dX0_readClause_103 : decode cX0_readClause 103 = .ok (.getfield 24, 3) := by decide +kernel
theorem dX0_readClause_106 : decode cX0_readClause 106 = .ok (.iload_n 1, 1) := by decide +kernel
theorem dX0_readClause_107 : decode cX0_readClause 107 = .ok (.bipush 112, 2) := by decide +kernel
theorem dX0_readClause_109 : decode cX0_readClause 109 = .ok (.if_icmp .ne 7, 3) := by decide +kernel
theorem dX0_readClause_112 : decode cX0_readClause 112 = .ok (.iconst 0, 1) := by decide +kernel
theorem dX0_readClause_113 : decode cX0_readClause 113 = .ok (.goto 4, 3) := by decide +kernel
theorem dX0_readClause_116 : decode cX0_readClause 116 = .ok (.iconst 1, 1) := by decide +kernel
theorem dX0_readClause_117 : decode cX0_readClause 117 = .ok (.iload_n 3, 1) := by decide +kernel
theorem dX0_readClause_118 : decode cX0_readClause 118 = .ok (.invokestatic 27, 3) := by decide +kernel
theorem dX0_readClause_121 : decode cX0_readClause 121 = .ok (.iconst 1, 1) := by decide +kernel
theorem dX0_readClause_122 : decode cX0_readClause 122 = .ok (.ireturn, 1) := by decide +kernel
theorem dX0_readNumber_0 : decode cX0_readNumber 0 = .ok (.aload_n 0, 1) := by decide +kernel
theorem dX0_readNumber_1 : decode cX0_readNumber 1 = .ok (.getfield 49, 3) := by decide +kernel
theorem dX0_readNumber_4 : decode cX0_readNumber 4 = .ok (.istore_n 1, 1) := by decide +kernel
theorem dX0_readNumber_5 : decode cX0_readNumber 5 = .ok (.iconst 0, 1) := by decide +kernel
theorem dX0_readNumber_6 : decode cX0_readNumber 6 = .ok (.istore_n 2, 1) := by decide +kernel
theorem dX0_readNumber_7 : decode cX0_readNumber 7 = .ok (.aload_n 0, 1) := by decide +kernel
theorem dX0_readNumber_8 : decode cX0_readNumber 8 = .ok (.getfield 49, 3) := by decide +kernel
theorem dX0_readNumber_11 : decode cX0_readNumber 11 = .ok (.aload_n 0, 1) := by decide +kernel
theorem dX0_readNumber_12 : decode cX0_readNumber 12 = .ok (.getfield 43, 3) := by decide +kernel
theorem dX0_readNumber_15 : decode cX0_readNumber 15 = .ok (.if_icmp .ge 48, 3) := by decide +kernel
theorem dX0_readNumber_18 : decode cX0_readNumber 18 = .ok (.aload_n 0, 1) := by decide +kernel
theorem dX0_readNumber_19 : decode cX0_readNumber 19 = .ok (.invokevirtual 72, 3) := by decide +kernel
theorem dX0_readNumber_22 : decode cX0_readNumber 22 = .ok (.bipush 48, 2) := by decide +kernel
theorem dX0_readNumber_24 : decode cX0_readNumber 24 = .ok (.bipush 57, 2) := by decide +kernel
theorem dX0_readNumber_26 : decode cX0_readNumber 26 = .ok (.invokestatic 35, 3) := by decide +kernel
theorem dX0_readNumber_29 : decode cX0_readNumber 29 = .ok (.ifCond .eq 34, 3) := by decide +kernel
theorem dX0_readNumber_32 : decode cX0_readNumber 32 = .ok (.bipush 100, 2) := by decide +kernel
theorem dX0_readNumber_34 : decode cX0_readNumber 34 = .ok (.iload_n 2, 1) := by decide +kernel
theorem dX0_readNumber_35 : decode cX0_readNumber 35 = .ok (.bipush 10, 2) := by decide +kernel
theorem dX0_readNumber_37 : decode cX0_readNumber 37 = .ok (.imul, 1) := by decide +kernel
theorem dX0_readNumber_38 : decode cX0_readNumber 38 = .ok (.aload_n 0, 1) := by decide +kernel
theorem dX0_readNumber_39 : decode cX0_readNumber 39 = .ok (.invokevirtual 72, 3) := by decide +kernel
theorem dX0_readNumber_42 : decode cX0_readNumber 42 = .ok (.iadd, 1) := by decide +kernel
theorem dX0_readNumber_43 : decode cX0_readNumber 43 = .ok (.bipush 48, 2) := by decide +kernel
theorem dX0_readNumber_45 : decode cX0_readNumber 45 = .ok (.isub, 1) := by decide +kernel
theorem dX0_readNumber_46 : decode cX0_readNumber 46 = .ok (.invokestatic 81, 3) := by decide +kernel
theorem dX0_readNumber_49 : decode cX0_readNumber 49 = .ok (.istore_n 2, 1) := by decide +kernel
theorem dX0_readNumber_50 : decode cX0_readNumber 50 = .ok (.aload_n 0, 1) := by decide +kernel
theorem dX0_readNumber_51 : decode cX0_readNumber 51 = .ok (.dup, 1) := by decide +kernel
theorem dX0_readNumber_52 : decode cX0_readNumber 52 = .ok (.getfield 49, 3) := by decide +kernel
theorem dX0_readNumber_55 : decode cX0_readNumber 55 = .ok (.iconst 1, 1) := by decide +kernel
theorem dX0_readNumber_56 : decode cX0_readNumber 56 = .ok (.iadd, 1) := by decide +kernel
theorem dX0_readNumber_57 : decode cX0_readNumber 57 = .ok (.putfield 49, 3) := by decide +kernel
theorem dX0_readNumber_60 : decode cX0_readNumber 60 = .ok (.goto (-53), 3) := by decide +kernel
theorem dX0_readNumber_63 : decode cX0_readNumber 63 = .ok (.aload_n 0, 1) := by decide +kernel
theorem dX0_readNumber_64 : decode cX0_readNumber 64 = .ok (.getfield 49, 3) := by decide +kernel
theorem dX0_readNumber_67 : decode cX0_readNumber 67 = .ok (.iload_n 1, 1) := by decide +kernel
theorem dX0_readNumber_68 : decode cX0_readNumber 68 = .ok (.if_icmp .ne 6, 3) := by decide +kernel
theorem dX0_readNumber_71 : decode cX0_readNumber 71 = .ok (.bipush (-4), 2) := by decide +kernel
theorem dX0_readNumber_73 : decode cX0_readNumber 73 = .ok (.ireturn, 1) := by decide +kernel
theorem dX0_readNumber_74 : decode cX0_readNumber 74 = .ok (.iload_n 2, 1) := by decide +kernel
theorem dX0_readNumber_75 : decode cX0_readNumber 75 = .ok (.bipush 99, 2) := by decide +kernel
theorem dX0_readNumber_77 : decode cX0_readNumber 77 = .ok (.if_icmp .le 11, 3) := by decide +kernel
theorem dX0_readNumber_80 : decode cX0_readNumber 80 = .ok (.aload_n 0, 1) := by decide +kernel
theorem dX0_readNumber_81 : decode cX0_readNumber 81 = .ok (.iload_n 1, 1) := by decide +kernel
theorem dX0_readNumber_82 : decode cX0_readNumber 82 = .ok (.putfield 49, 3) := by decide +kernel
theorem dX0_readNumber_85 : decode cX0_readNumber 85 = .ok (.bipush (-4), 2) := by decide +kernel
theorem dX0_readNumber_87 : decode cX0_readNumber 87 = .ok (.ireturn, 1) := by decide +kernel
theorem dX0_readNumber_88 : decode cX0_readNumber 88 = .ok (.iload_n 2, 1) := by decide +kernel
theorem dX0_readNumber_89 : decode cX0_readNumber 89 = .ok (.ireturn, 1) := by decide +kernel
theorem dX0_skipBlanks_0 : decode cX0_skipBlanks 0 = .ok (.aload_n 0, 1) := by decide +kernel
theorem dX0_skipBlanks_1 : decode cX0_skipBlanks 1 = .ok (.getfield 49, 3) := by decide +kernel
theorem dX0_skipBlanks_4 : decode cX0_skipBlanks 4 = .ok (.aload_n 0, 1) := by decide +kernel
theorem dX0_skipBlanks_5 : decode cX0_skipBlanks 5 = .ok (.getfield 43, 3) := by decide +kernel
theorem dX0_skipBlanks_8 : decode cX0_skipBlanks 8 = .ok (.if_icmp .ge 25, 3) := by decide +kernel
theorem dX0_skipBlanks_11 : decode cX0_skipBlanks 11 = .ok (.aload_n 0, 1) := by decide +kernel
theorem dX0_skipBlanks_12 : decode cX0_skipBlanks 12 = .ok (.invokevirtual 72, 3) := by decide +kernel
theorem dX0_skipBlanks_15 : decode cX0_skipBlanks 15 = .ok (.bipush 32, 2) := by decide +kernel
theorem dX0_skipBlanks_17 : decode cX0_skipBlanks 17 = .ok (.if_icmp .ne 16, 3) := by decide +kernel
theorem dX0_skipBlanks_20 : decode cX0_skipBlanks 20 = .ok (.aload_n 0, 1) := by decide +kernel
theorem dX0_skipBlanks_21 : decode cX0_skipBlanks 21 = .ok (.dup, 1) := by decide +kernel
theorem dX0_skipBlanks_22 : decode cX0_skipBlanks 22 = .ok (.getfield 49, 3) := by decide +kernel
theorem dX0_skipBlanks_25 : decode cX0_skipBlanks 25 = .ok (.iconst 1, 1) := by decide +kernel
theorem dX0_skipBlanks_26 : decode cX0_skipBlanks 26 = .ok (.iadd, 1) := by decide +kernel
theorem dX0_skipBlanks_27 : decode cX0_skipBlanks 27 = .ok (.putfield 49, 3) := by decide +kernel
theorem dX0_skipBlanks_30 : decode cX0_skipBlanks 30 = .ok (.goto (-30), 3) := by decide +kernel
theorem dX0_skipBlanks_33 : decode cX0_skipBlanks 33 = .ok (.return_, 1) := by decide +kernel
theorem dX0_atEnd_0 : decode cX0_atEnd 0 = .ok (.aload_n 0, 1) := by decide +kernel
theorem dX0_atEnd_1 : decode cX0_atEnd 1 = .ok (.invokevirtual 75, 3) := by decide +kernel
theorem dX0_atEnd_4 : decode cX0_atEnd 4 = .ok (.aload_n 0, 1) := by decide +kernel
theorem dX0_atEnd_5 : decode cX0_atEnd 5 = .ok (.getfield 49, 3) := by decide +kernel
theorem dX0_atEnd_8 : decode cX0_atEnd 8 = .ok (.aload_n 0, 1) := by decide +kernel
theorem dX0_atEnd_9 : decode cX0_atEnd 9 = .ok (.getfield 43, 3) := by decide +kernel
theorem dX0_atEnd_12 : decode cX0_atEnd 12 = .ok (.if_icmp .lt 7, 3) := by decide +kernel
theorem dX0_atEnd_15 : decode cX0_atEnd 15 = .ok (.iconst 1, 1) := by decide +kernel
theorem dX0_atEnd_16 : decode cX0_atEnd 16 = .ok (.goto 4, 3) := by decide +kernel
theorem dX0_atEnd_19 : decode cX0_atEnd 19 = .ok (.iconst 0, 1) := by decide +kernel
theorem dX0_atEnd_20 : decode cX0_atEnd 20 = .ok (.ireturn, 1) := by decide +kernel
theorem dX0_here_0 : decode cX0_here 0 = .ok (.aload_n 0, 1) := by decide +kernel
theorem dX0_here_1 : decode cX0_here 1 = .ok (.getfield 49, 3) := by decide +kernel
theorem dX0_here_4 : decode cX0_here 4 = .ok (.aload_n 0, 1) := by decide +kernel
theorem dX0_here_5 : decode cX0_here 5 = .ok (.getfield 43, 3) := by decide +kernel
theorem dX0_here_8 : decode cX0_here 8 = .ok (.if_icmp .ge 17, 3) := by decide +kernel
theorem dX0_here_11 : decode cX0_here 11 = .ok (.aload_n 0, 1) := by decide +kernel
theorem dX0_here_12 : decode cX0_here 12 = .ok (.getfield 11, 3) := by decide +kernel
theorem dX0_here_15 : decode cX0_here 15 = .ok (.aload_n 0, 1) := by decide +kernel
theorem dX0_here_16 : decode cX0_here 16 = .ok (.getfield 49, 3) := by decide +kernel
theorem dX0_here_19 : decode cX0_here 19 = .ok (.invokestatic 31, 3) := by decide +kernel
theorem dX0_here_22 : decode cX0_here 22 = .ok (.goto 5, 3) := by decide +kernel
theorem dX0_here_25 : decode cX0_here 25 = .ok (.bipush (-4), 2) := by decide +kernel
theorem dX0_here_27 : decode cX0_here 27 = .ok (.ireturn, 1) := by decide +kernel
theorem dX1_init_0 : decode cX1_init 0 = .ok (.aload_n 0, 1) := by decide +kernel
theorem dX1_init_1 : decode cX1_init 1 = .ok (.invokespecial 3, 3) := by decide +kernel
theorem dX1_init_4 : decode cX1_init 4 = .ok (.aload_n 0, 1) := by decide +kernel
theorem dX1_init_5 : decode cX1_init 5 = .ok (.bipush 15, 2) := by decide +kernel
theorem dX1_init_7 : decode cX1_init 7 = .ok (.newarray .int, 2) := by decide +kernel
theorem dX1_init_9 : decode cX1_init 9 = .ok (.putfield 11, 3) := by decide +kernel
theorem dX1_init_12 : decode cX1_init 12 = .ok (.aload_n 0, 1) := by decide +kernel
theorem dX1_init_13 : decode cX1_init 13 = .ok (.bipush 15, 2) := by decide +kernel
theorem dX1_init_15 : decode cX1_init 15 = .ok (.newarray .int, 2) := by decide +kernel
theorem dX1_init_17 : decode cX1_init 17 = .ok (.putfield 15, 3) := by decide +kernel
theorem dX1_init_20 : decode cX1_init 20 = .ok (.aload_n 0, 1) := by decide +kernel
theorem dX1_init_21 : decode cX1_init 21 = .ok (.iconst 2, 1) := by decide +kernel
theorem dX1_init_22 : decode cX1_init 22 = .ok (.putfield 18, 3) := by decide +kernel
theorem dX1_init_25 : decode cX1_init 25 = .ok (.aload_n 0, 1) := by decide +kernel
theorem dX1_init_26 : decode cX1_init 26 = .ok (.getfield 11, 3) := by decide +kernel
theorem dX1_init_29 : decode cX1_init 29 = .ok (.bipush (-4), 2) := by decide +kernel
theorem dX1_init_31 : decode cX1_init 31 = .ok (.invokestatic 22, 3) := by decide +kernel
theorem dX1_init_34 : decode cX1_init 34 = .ok (.aload_n 0, 1) := by decide +kernel
theorem dX1_init_35 : decode cX1_init 35 = .ok (.getfield 15, 3) := by decide +kernel
theorem dX1_init_38 : decode cX1_init 38 = .ok (.bipush (-4), 2) := by decide +kernel
theorem dX1_init_40 : decode cX1_init 40 = .ok (.invokestatic 22, 3) := by decide +kernel
theorem dX1_init_43 : decode cX1_init 43 = .ok (.return_, 1) := by decide +kernel
theorem dX1_isMatch_0 : decode cX1_isMatch 0 = .ok (.iload_n 0, 1) := by decide +kernel
theorem dX1_isMatch_1 : decode cX1_isMatch 1 = .ok (.iconst 0, 1) := by decide +kernel
theorem dX1_isMatch_2 : decode cX1_isMatch 2 = .ok (.bipush 14, 2) := by decide +kernel
theorem dX1_isMatch_4 : decode cX1_isMatch 4 = .ok (.invokestatic 28, 3) := by decide +kernel
theorem dX1_isMatch_7 : decode cX1_isMatch 7 = .ok (.ireturn, 1) := by decide +kernel
theorem dX1_who_0 : decode cX1_who 0 = .ok (.iload_n 2, 1) := by decide +kernel
theorem dX1_who_1 : decode cX1_who 1 = .ok (.iconst 2, 1) := by decide +kernel
theorem dX1_who_2 : decode cX1_who 2 = .ok (.if_icmp .ne 12, 3) := by decide +kernel
theorem dX1_who_5 : decode cX1_who 5 = .ok (.aload_n 0, 1) := by decide +kernel
theorem dX1_who_6 : decode cX1_who 6 = .ok (.getfield 11, 3) := by decide +kernel
theorem dX1_who_9 : decode cX1_who 9 = .ok (.iload_n 1, 1) := by decide +kernel
theorem dX1_who_10 : decode cX1_who 10 = .ok (.invokestatic 32, 3) := by decide +kernel
theorem dX1_who_13 : decode cX1_who 13 = .ok (.ireturn, 1) := by decide +kernel
theorem dX1_who_14 : decode cX1_who 14 = .ok (.iload_n 1, 1) := by decide +kernel
theorem dX1_who_15 : decode cX1_who 15 = .ok (.bipush 14, 2) := by decide +kernel
theorem dX1_who_17 : decode cX1_who 17 = .ok (.if_icmp .ne 13, 3) := by decide +kernel
theorem dX1_who_20 : decode cX1_who 20 = .ok (.aload_n 0, 1) := by decide +kernel
theorem dX1_who_21 : decode cX1_who 21 = .ok (.invokevirtual 36, 3) := by decide +kernel
theorem dX1_who_24 : decode cX1_who 24 = .ok (.ifCond .ne 6, 3) := by decide +kernel
theorem dX1_who_27 : decode cX1_who 27 = .ok (.bipush (-4), 2) := by decide +kernel
theorem dX1_who_29 : decode cX1_who 29 = .ok (.ireturn, 1) := by decide +kernel
theorem dX1_who_30 : decode cX1_who 30 = .ok (.iload_n 2, 1) := by decide +kernel
theorem dX1_who_31 : decode cX1_who 31 = .ok (.ifCond .ne 9, 3) := by decide +kernel
theorem dX1_who_34 : decode cX1_who 34 = .ok (.getstatic 40, 3) := by decide +kernel
theorem dX1_who_37 : decode cX1_who 37 = .ok (.goto 6, 3) := by decide +kernel
theorem dX1_who_40 : decode cX1_who 40 = .ok (.getstatic 43, 3) := by decide +kernel
theorem dX1_who_43 : decode cX1_who 43 = .ok (.iload_n 1, 1) := by decide +kernel
theorem dX1_who_44 : decode cX1_who 44 = .ok (.invokestatic 32, 3) := by decide +kernel
theorem dX1_who_47 : decode cX1_who 47 = .ok (.istore_n 3, 1) := by decide +kernel
theorem dX1_who_48 : decode cX1_who 48 = .ok (.iload_n 3, 1) := by decide +kernel
theorem dX1_who_49 : decode cX1_who 49 = .ok (.bipush (-4), 2) := by decide +kernel
theorem dX1_who_51 : decode cX1_who 51 = .ok (.if_icmp .ne 23, 3) := by decide +kernel
theorem dX1_who_54 : decode cX1_who 54 = .ok (.iload_n 2, 1) := by decide +kernel
theorem dX1_who_55 : decode cX1_who 55 = .ok (.ifCond .ne 9, 3) := by decide +kernel
theorem dX1_who_58 : decode cX1_who 58 = .ok (.getstatic 46, 3) := by decide +kernel
theorem dX1_who_61 : decode cX1_who 61 = .ok (.goto 6, 3) := by decide +kernel
theorem dX1_who_64 : decode cX1_who 64 = .ok (.getstatic 49, 3) := by decide +kernel
theorem dX1_who_67 : decode cX1_who 67 = .ok (.iload_n 1, 1) := by decide +kernel
theorem dX1_who_68 : decode cX1_who 68 = .ok (.invokestatic 32, 3) := by decide +kernel
theorem dX1_who_71 : decode cX1_who 71 = .ok (.goto 11, 3) := by decide +kernel
theorem dX1_who_74 : decode cX1_who 74 = .ok (.aload_n 0, 1) := by decide +kernel
theorem dX1_who_75 : decode cX1_who 75 = .ok (.getfield 11, 3) := by decide +kernel
theorem dX1_who_78 : decode cX1_who 78 = .ok (.iload_n 3, 1) := by decide +kernel
theorem dX1_who_79 : decode cX1_who 79 = .ok (.invokestatic 32, 3) := by decide +kernel
theorem dX1_who_82 : decode cX1_who 82 = .ok (.ireturn, 1) := by decide +kernel
theorem dX1_hasTwoWinners_0 : decode cX1_hasTwoWinners 0 = .ok (.aload_n 0, 1) := by decide +kernel
theorem dX1_hasTwoWinners_1 : decode cX1_hasTwoWinners 1 = .ok (.getfield 11, 3) := by decide +kernel
theorem dX1_hasTwoWinners_4 : decode cX1_hasTwoWinners 4 = .ok (.bipush 6, 2) := by decide +kernel
theorem dX1_hasTwoWinners_6 : decode cX1_hasTwoWinners 6 = .ok (.invokestatic 32, 3) := by decide +kernel
theorem dX1_hasTwoWinners_9 : decode cX1_hasTwoWinners 9 = .ok (.istore_n 1, 1) := by decide +kernel
theorem dX1_hasTwoWinners_10 : decode cX1_hasTwoWinners 10 = .ok (.aload_n 0, 1) := by decide +kernel
theorem dX1_hasTwoWinners_11 : decode cX1_hasTwoWinners 11 = .ok (.getfield 11, 3) := by decide +kernel
theorem dX1_hasTwoWinners_14 : decode cX1_hasTwoWinners 14 = .ok (.bipush 13, 2) := by decide +kernel
theorem dX1_hasTwoWinners_16 : decode cX1_hasTwoWinners 16 = .ok (.invokestatic 32, 3) := by decide +kernel
theorem dX1_hasTwoWinners_19 : decode cX1_hasTwoWinners 19 = .ok (.istore_n 2, 1) := by decide +kernel
theorem dX1_hasTwoWinners_20 : decode cX1_hasTwoWinners 20 = .ok (.iload_n 1, 1) := by decide +kernel
theorem dX1_hasTwoWinners_21 : decode cX1_hasTwoWinners 21 = .ok (.bipush (-4), 2) := by decide +kernel
theorem dX1_hasTwoWinners_23 : decode cX1_hasTwoWinners 23 = .ok (.if_icmp .eq 18, 3) := by decide +kernel
theorem dX1_hasTwoWinners_26 : decode cX1_hasTwoWinners 26 = .ok (.iload_n 2, 1) := by decide +kernel
theorem dX1_hasTwoWinners_27 : decode cX1_hasTwoWinners 27 = .ok (.bipush (-4), 2) := by decide +kernel
theorem dX1_hasTwoWinners_29 : decode cX1_hasTwoWinners 29 = .ok (.if_icmp .eq 12, 3) := by decide +kernel
theorem dX1_hasTwoWinners_32 : decode cX1_hasTwoWinners 32 = .ok (.iload_n 1, 1) := by decide +kernel
theorem dX1_hasTwoWinners_33 : decode cX1_hasTwoWinners 33 = .ok (.iload_n 2, 1) := by decide +kernel
theorem dX1_hasTwoWinners_34 : decode cX1_hasTwoWinners 34 = .ok (.if_icmp .eq 7, 3) := by decide +kernel
theorem dX1_hasTwoWinners_37 : decode cX1_hasTwoWinners 37 = .ok (.iconst 1, 1) := by decide +kernel
theorem dX1_hasTwoWinners_38 : decode cX1_hasTwoWinners 38 = .ok (.goto 4, 3) := by decide +kernel
theorem dX1_hasTwoWinners_41 : decode cX1_hasTwoWinners 41 = .ok (.iconst 0, 1) := by decide +kernel
theorem dX1_hasTwoWinners_42 : decode cX1_hasTwoWinners 42 = .ok (.ireturn, 1) := by decide +kernel
theorem dX1_give_0 : decode cX1_give 0 = .ok (.aload_n 0, 1) := by decide +kernel
theorem dX1_give_1 : decode cX1_give 1 = .ok (.iload_n 1, 1) := by decide +kernel
theorem dX1_give_2 : decode cX1_give 2 = .ok (.iconst 0, 1) := by decide +kernel
theorem dX1_give_3 : decode cX1_give 3 = .ok (.invokevirtual 52, 3) := by decide +kernel
theorem dX1_give_6 : decode cX1_give 6 = .ok (.istore_n 3, 1) := by decide +kernel
theorem dX1_give_7 : decode cX1_give 7 = .ok (.aload_n 0, 1) := by decide +kernel
theorem dX1_give_8 : decode cX1_give 8 = .ok (.iload_n 1, 1) := by decide +kernel
theorem dX1_give_9 : decode cX1_give 9 = .ok (.iconst 1, 1) := by decide +kernel
theorem dX1_give_10 : decode cX1_give 10 = .ok (.invokevirtual 52, 3) := by decide +kernel
theorem dX1_give_13 : decode cX1_give 13 = .ok (.istore 4, 2) := by decide +kernel
theorem dX1_give_15 : decode cX1_give 15 = .ok (.iload_n 3, 1) := by decide +kernel
theorem dX1_give_16 : decode cX1_give 16 = .ok (.bipush (-4), 2) := by decide +kernel
theorem dX1_give_18 : decode cX1_give 18 = .ok (.if_icmp .eq 34, 3) := by decide +kernel
theorem dX1_give_21 : decode cX1_give 21 = .ok (.iload 4, 2) := by decide +kernel
theorem dX1_give_23 : decode cX1_give 23 = .ok (.bipush (-4), 2) := by decide +kernel
theorem dX1_give_25 : decode cX1_give 25 = .ok (.if_icmp .eq 27, 3) := by decide +kernel
theorem dX1_give_28 : decode cX1_give 28 = .ok (.aload_n 0, 1) := by decide +kernel
theorem dX1_give_29 : decode cX1_give 29 = .ok (.getfield 11, 3) := by decide +kernel
theorem dX1_give_32 : decode cX1_give 32 = .ok (.iload_n 1, 1) := by decide +kernel
theorem dX1_give_33 : decode cX1_give 33 = .ok (.invokestatic 32, 3) := by decide +kernel
theorem dX1_give_36 : decode cX1_give 36 = .ok (.bipush (-4), 2) := by decide +kernel
theorem dX1_give_38 : decode cX1_give 38 = .ok (.if_icmp .ne 14, 3) := by decide +kernel
theorem dX1_give_41 : decode cX1_give 41 = .ok (.iload_n 2, 1) := by decide +kernel
theorem dX1_give_42 : decode cX1_give 42 = .ok (.iload_n 3, 1) := by decide +kernel
theorem dX1_give_43 : decode cX1_give 43 = .ok (.if_icmp .eq 12, 3) := by decide +kernel
theorem dX1_give_46 : decode cX1_give 46 = .ok (.iload_n 2, 1) := by decide +kernel
theorem dX1_give_47 : decode cX1_give 47 = .ok (.iload 4, 2) := by decide +kernel
theorem dX1_give_49 : decode cX1_give 49 = .ok (.if_icmp .eq 6, 3) := by decide +kernel
theorem dX1_give_52 : decode cX1_give 52 = .ok (.bipush (-2), 2) := by decide +kernel
theorem dX1_give_54 : decode cX1_give 54 = .ok (.ireturn, 1) := by decide +kernel
theorem dX1_give_55 : decode cX1_give 55 = .ok (.aload_n 0, 1) := by decide +kernel
theorem dX1_give_56 : decode cX1_give 56 = .ok (.getfield 11, 3) := by decide +kernel
theorem dX1_give_59 : decode cX1_give 59 = .ok (.iload_n 1, 1) := by decide +kernel
theorem dX1_give_60 : decode cX1_give 60 = .ok (.iload_n 2, 1) := by decide +kernel
theorem dX1_give_61 : decode cX1_give 61 = .ok (.invokestatic 56, 3) := by decide +kernel
theorem dX1_give_64 : decode cX1_give 64 = .ok (.iconst 1, 1) := by decide +kernel
theorem dX1_give_65 : decode cX1_give 65 = .ok (.ireturn, 1) := by decide +kernel
theorem dX1_takeBack_0 : decode cX1_takeBack 0 = .ok (.aload_n 0, 1) := by decide +kernel
theorem dX1_takeBack_1 : decode cX1_takeBack 1 = .ok (.getfield 11, 3) := by decide +kernel
theorem dX1_takeBack_4 : decode cX1_takeBack 4 = .ok (.iload_n 1, 1) := by decide +kernel
theorem dX1_takeBack_5 : decode cX1_takeBack 5 = .ok (.invokestatic 32, 3) := by decide +kernel
theorem dX1_takeBack_8 : decode cX1_takeBack 8 = .ok (.bipush (-4), 2) := by decide +kernel
theorem dX1_takeBack_10 : decode cX1_takeBack 10 = .ok (.if_icmp .ne 6, 3) := by decide +kernel
theorem dX1_takeBack_13 : decode cX1_takeBack 13 = .ok (.bipush (-2), 2) := by decide +kernel
theorem dX1_takeBack_15 : decode cX1_takeBack 15 = .ok (.ireturn, 1) := by decide +kernel
theorem dX1_takeBack_16 : decode cX1_takeBack 16 = .ok (.iconst 0, 1) := by decide +kernel
theorem dX1_takeBack_17 : decode cX1_takeBack 17 = .ok (.istore_n 2, 1) := by decide +kernel
theorem dX1_takeBack_18 : decode cX1_takeBack 18 = .ok (.iload_n 1, 1) := by decide +kernel
theorem dX1_takeBack_19 : decode cX1_takeBack 19 = .ok (.istore_n 3, 1) := by decide +kernel
theorem dX1_takeBack_20 : decode cX1_takeBack 20 = .ok (.iconst 0, 1) := by decide +kernel
theorem dX1_takeBack_21 : decode cX1_takeBack 21 = .ok (.istore 4, 2) := by decide +kernel
theorem dX1_takeBack_23 : decode cX1_takeBack 23 = .ok (.iload 4, 2) := by decide +kernel
theorem dX1_takeBack_25 : decode cX1_takeBack 25 = .ok (.bipush 15, 2) := by decide +kernel
theorem dX1_takeBack_27 : decode cX1_takeBack 27 = .ok (.if_icmp .ge 49, 3) := by decide +kernel
theorem dX1_takeBack_30 : decode cX1_takeBack 30 = .ok (.iload_n 3, 1) := by decide +kernel
theorem dX1_takeBack_31 : decode cX1_takeBack 31 = .ok (.bipush (-4), 2) := by decide +kernel
theorem dX1_takeBack_33 : decode cX1_takeBack 33 = .ok (.if_icmp .eq 43, 3) := by decide +kernel
theorem dX1_takeBack_36 : decode cX1_takeBack 36 = .ok (.aload_n 0, 1) := by decide +kernel
theorem dX1_takeBack_37 : decode cX1_takeBack 37 = .ok (.getfield 11, 3) := by decide +kernel
theorem dX1_takeBack_40 : decode cX1_takeBack 40 = .ok (.iload_n 3, 1) := by decide +kernel
theorem dX1_takeBack_41 : decode cX1_takeBack 41 = .ok (.invokestatic 32, 3) := by decide +kernel
theorem dX1_takeBack_44 : decode cX1_takeBack 44 = .ok (.bipush (-4), 2) := by decide +kernel
theorem dX1_takeBack_46 : decode cX1_takeBack 46 = .ok (.if_icmp .eq 16, 3) := by decide +kernel
theorem dX1_takeBack_49 : decode cX1_takeBack 49 = .ok (.aload_n 0, 1) := by decide +kernel
theorem dX1_takeBack_50 : decode cX1_takeBack 50 = .ok (.getfield 11, 3) := by decide +kernel
theorem dX1_takeBack_53 : decode cX1_takeBack 53 = .ok (.iload_n 3, 1) := by decide +kernel
theorem dX1_takeBack_54 : decode cX1_takeBack 54 = .ok (.bipush (-4), 2) := by decide +kernel
theorem dX1_takeBack_56 : decode cX1_takeBack 56 = .ok (.invokestatic 56, 3) := by decide +kernel
theorem dX1_takeBack_59 : decode cX1_takeBack 59 = .ok (.iinc 2 1, 3) := by decide +kernel
theorem dX1_takeBack_62 : decode cX1_takeBack 62 = .ok (.getstatic 60, 3) := by decide +kernel
theorem dX1_takeBack_65 : decode cX1_takeBack 65 = .ok (.iload_n 3, 1) := by decide +kernel
theorem dX1_takeBack_66 : decode cX1_takeBack 66 = .ok (.invokestatic 32, 3) := by decide +kernel
theorem dX1_takeBack_69 : decode cX1_takeBack 69 = .ok (.istore_n 3, 1) := by decide +kernel
theorem dX1_takeBack_70 : decode cX1_takeBack 70 = .ok (.iinc 4 1, 3) := by decide +kernel
theorem dX1_takeBack_73 : decode cX1_takeBack 73 = .ok (.goto (-50), 3) := by decide +kernel
theorem dX1_takeBack_76 : decode cX1_takeBack 76 = .ok (.iload_n 2, 1) := by decide +kernel
theorem dX1_takeBack_77 : decode cX1_takeBack 77 = .ok (.ireturn, 1) := by decide +kernel
theorem dX1_best_0 : decode cX1_best 0 = .ok (.aload_n 0, 1) := by decide +kernel
theorem dX1_best_1 : decode cX1_best 1 = .ok (.getfield 11, 3) := by decide +kernel
theorem dX1_best_4 : decode cX1_best 4 = .ok (.bipush 6, 2) := by decide +kernel
theorem dX1_best_6 : decode cX1_best 6 = .ok (.invokestatic 32, 3) := by decide +kernel
theorem dX1_best_9 : decode cX1_best 9 = .ok (.istore_n 1, 1) := by decide +kernel
theorem dX1_best_10 : decode cX1_best 10 = .ok (.iload_n 1, 1) := by decide +kernel
theorem dX1_best_11 : decode cX1_best 11 = .ok (.aload_n 0, 1) := by decide +kernel
theorem dX1_best_12 : decode cX1_best 12 = .ok (.getfield 11, 3) := by decide +kernel
theorem dX1_best_15 : decode cX1_best 15 = .ok (.bipush 13, 2) := by decide +kernel
theorem dX1_best_17 : decode cX1_best 17 = .ok (.invokestatic 32, 3) := by decide +kernel
theorem dX1_best_20 : decode cX1_best 20 = .ok (.if_icmp .ne 7, 3) := by decide +kernel
theorem dX1_best_23 : decode cX1_best 23 = .ok (.iload_n 1, 1) := by decide +kernel
theorem dX1_best_24 : decode cX1_best 24 = .ok (.goto 12, 3) := by decide +kernel
theorem dX1_best_27 : decode cX1_best 27 = .ok (.aload_n 0, 1) := by decide +kernel
theorem dX1_best_28 : decode cX1_best 28 = .ok (.getfield 11, 3) := by decide +kernel
theorem dX1_best_31 : decode cX1_best 31 = .ok (.bipush 14, 2) := by decide +kernel
theorem dX1_best_33 : decode cX1_best 33 = .ok (.invokestatic 32, 3) := by decide +kernel
theorem dX1_best_36 : decode cX1_best 36 = .ok (.ireturn, 1) := by decide +kernel
theorem dX1_setLawns_0 : decode cX1_setLawns 0 = .ok (.aload_n 0, 1) := by decide +kernel
theorem dX1_setLawns_1 : decode cX1_setLawns 1 = .ok (.invokevirtual 63, 3) := by decide +kernel
theorem dX1_setLawns_4 : decode cX1_setLawns 4 = .ok (.ifCond .le 6, 3) := by decide +kernel
theorem dX1_setLawns_7 : decode cX1_setLawns 7 = .ok (.bipush (-2), 2) := by decide +kernel
theorem dX1_setLawns_9 : decode cX1_setLawns 9 = .ok (.ireturn, 1) := by decide +kernel
theorem dX1_setLawns_10 : decode cX1_setLawns 10 = .ok (.aload_n 0, 1) := by decide +kernel
theorem dX1_setLawns_11 : decode cX1_setLawns 11 = .ok (.getfield 18, 3) := by decide +kernel
theorem dX1_setLawns_14 : decode cX1_setLawns 14 = .ok (.istore_n 2, 1) := by decide +kernel
theorem dX1_setLawns_15 : decode cX1_setLawns 15 = .ok (.aload_n 0, 1) := by decide +kernel
theorem dX1_setLawns_16 : decode cX1_setLawns 16 = .ok (.iload_n 1, 1) := by decide +kernel
theorem dX1_setLawns_17 : decode cX1_setLawns 17 = .ok (.putfield 18, 3) := by decide +kernel
theorem dX1_setLawns_20 : decode cX1_setLawns 20 = .ok (.iload_n 2, 1) := by decide +kernel
theorem dX1_setLawns_21 : decode cX1_setLawns 21 = .ok (.ireturn, 1) := by decide +kernel
theorem dX1_laid_0 : decode cX1_laid 0 = .ok (.iconst 0, 1) := by decide +kernel
theorem dX1_laid_1 : decode cX1_laid 1 = .ok (.istore_n 1, 1) := by decide +kernel
theorem dX1_laid_2 : decode cX1_laid 2 = .ok (.iconst 0, 1) := by decide +kernel
theorem dX1_laid_3 : decode cX1_laid 3 = .ok (.istore_n 2, 1) := by decide +kernel
theorem dX1_laid_4 : decode cX1_laid 4 = .ok (.iload_n 2, 1) := by decide +kernel
theorem dX1_laid_5 : decode cX1_laid 5 = .ok (.bipush 15, 2) := by decide +kernel
theorem dX1_laid_7 : decode cX1_laid 7 = .ok (.if_icmp .ge 25, 3) := by decide +kernel
theorem dX1_laid_10 : decode cX1_laid 10 = .ok (.aload_n 0, 1) := by decide +kernel
theorem dX1_laid_11 : decode cX1_laid 11 = .ok (.getfield 15, 3) := by decide +kernel
theorem dX1_laid_14 : decode cX1_laid 14 = .ok (.iload_n 2, 1) := by decide +kernel
theorem dX1_laid_15 : decode cX1_laid 15 = .ok (.invokestatic 32, 3) := by decide +kernel
theorem dX1_laid_18 : decode cX1_laid 18 = .ok (.bipush (-4), 2) := by decide +kernel
theorem dX1_laid_20 : decode cX1_laid 20 = .ok (.if_icmp .eq 6, 3) := by decide +kernel
theorem dX1_laid_23 : decode cX1_laid 23 = .ok (.iinc 1 1, 3) := by decide +kernel
theorem dX1_laid_26 : decode cX1_laid 26 = .ok (.iinc 2 1, 3) := by decide +kernel
theorem dX1_laid_29 : decode cX1_laid 29 = .ok (.goto (-25), 3) := by decide +kernel
theorem dX1_laid_32 : decode cX1_laid 32 = .ok (.iload_n 1, 1) := by decide +kernel
theorem dX1_laid_33 : decode cX1_laid 33 = .ok (.ireturn, 1) := by decide +kernel
theorem dX1_hourOf_0 : decode cX1_hourOf 0 = .ok (.aload_n 0, 1) := by decide +kernel
theorem dX1_hourOf_1 : decode cX1_hourOf 1 = .ok (.getfield 15, 3) := by decide +kernel
theorem dX1_hourOf_4 : decode cX1_hourOf 4 = .ok (.iload_n 1, 1) := by decide +kernel
theorem dX1_hourOf_5 : decode cX1_hourOf 5 = .ok (.invokestatic 32, 3) := by decide +kernel
theorem dX1_hourOf_8 : decode cX1_hourOf 8 = .ok (.ireturn, 1) := by decide +kernel
theorem dX1_place_0 : decode cX1_place 0 = .ok (.aload_n 0, 1) := by decide +kernel
theorem dX1_place_1 : decode cX1_place 1 = .ok (.getfield 15, 3) := by decide +kernel
theorem dX1_place_4 : decode cX1_place 4 = .ok (.iload_n 1, 1) := by decide +kernel
theorem dX1_place_5 : decode cX1_place 5 = .ok (.invokestatic 32, 3) := by decide +kernel
theorem dX1_place_8 : decode cX1_place 8 = .ok (.bipush (-4), 2) := by decide +kernel
theorem dX1_place_10 : decode cX1_place 10 = .ok (.if_icmp .eq 6, 3) := by decide +kernel
theorem dX1_place_13 : decode cX1_place 13 = .ok (.bipush (-2), 2) := by decide +kernel
theorem dX1_place_15 : decode cX1_place 15 = .ok (.ireturn, 1) := by decide +kernel
theorem dX1_place_16 : decode cX1_place 16 = .ok (.iconst 0, 1) := by decide +kernel
theorem dX1_place_17 : decode cX1_place 17 = .ok (.istore_n 2, 1) := by decide +kernel
theorem dX1_place_18 : decode cX1_place 18 = .ok (.getstatic 40, 3) := by decide +kernel
theorem dX1_place_21 : decode cX1_place 21 = .ok (.iload_n 1, 1) := by decide +kernel
theorem dX1_place_22 : decode cX1_place 22 = .ok (.invokestatic 32, 3) := by decide +kernel
theorem dX1_place_25 : decode cX1_place 25 = .ok (.istore_n 3, 1) := by decide +kernel
theorem dX1_place_26 : decode cX1_place 26 = .ok (.iload_n 3, 1) := by decide +kernel
theorem dX1_place_27 : decode cX1_place 27 = .ok (.bipush (-4), 2) := by decide +kernel
theorem dX1_place_29 : decode cX1_place 29 = .ok (.if_icmp .eq 56, 3) := by decide +kernel
theorem dX1_place_32 : decode cX1_place 32 = .ok (.aload_n 0, 1) := by decide +kernel
theorem dX1_place_33 : decode cX1_place 33 = .ok (.getfield 15, 3) := by decide +kernel
theorem dX1_place_36 : decode cX1_place 36 = .ok (.iload_n 3, 1) := by decide +kernel
theorem dX1_place_37 : decode cX1_place 37 = .ok (.invokestatic 32, 3) := by decide +kernel
theorem dX1_place_40 : decode cX1_place 40 = .ok (.istore 4, 2) := by decide +kernel
theorem dX1_place_42 : decode cX1_place 42 = .ok (.aload_n 0, 1) := by decide +kernel
theorem dX1_place_43 : decode cX1_place 43 = .ok (.getfield 15, 3) := by decide +kernel
theorem dX1_place_46 : decode cX1_place 46 = .ok (.getstatic 43, 3) := by decide +kernel
theorem dX1_place_49 : decode cX1_place 49 = .ok (.iload_n 1, 1) := by decide +kernel
theorem dX1_place_50 : decode cX1_place 50 = .ok (.invokestatic 32, 3) := by decide +kernel
theorem dX1_place_53 : decode cX1_place 53 = .ok (.invokestatic 32, 3) := by decide +kernel
theorem dX1_place_56 : decode cX1_place 56 = .ok (.istore 5, 2) := by decide +kernel
theorem dX1_place_58 : decode cX1_place 58 = .ok (.iload 4, 2) := by decide +kernel
theorem dX1_place_60 : decode cX1_place 60 = .ok (.bipush (-4), 2) := by decide +kernel
theorem dX1_place_62 : decode cX1_place 62 = .ok (.if_icmp .eq 10, 3) := by decide +kernel
theorem dX1_place_65 : decode cX1_place 65 = .ok (.iload 5, 2) := by decide +kernel
theorem dX1_place_67 : decode cX1_place 67 = .ok (.bipush (-4), 2) := by decide +kernel
theorem dX1_place_69 : decode cX1_place 69 = .ok (.if_icmp .ne 6, 3) := by decide +kernel
theorem dX1_place_72 : decode cX1_place 72 = .ok (.bipush (-2), 2) := by decide +kernel
theorem dX1_place_74 : decode cX1_place 74 = .ok (.ireturn, 1) := by decide +kernel
theorem dX1_place_75 : decode cX1_place 75 = .ok (.iload 4, 2) := by decide +kernel
theorem dX1_place_77 : decode cX1_place 77 = .ok (.iload 5, 2) := by decide +kernel
theorem dX1_place_79 : decode cX1_place 79 = .ok (.invokestatic 67, 3) := by decide +kernel
theorem dX1_place_82 : decode cX1_place 82 = .ok (.iconst 1, 1) := by decide +kernel
theorem dX1_place_83 : decode cX1_place 83 = .ok (.iadd, 1) := by decide +kernel
theorem dX1_place_84 : decode cX1_place 84 = .ok (.istore_n 2, 1) := by decide +kernel
theorem dX1_place_85 : decode cX1_place 85 = .ok (.iload_n 2, 1) := by decide +kernel
theorem dX1_place_86 : decode cX1_place 86 = .ok (.bipush 15, 2) := by decide +kernel
theorem dX1_place_88 : decode cX1_place 88 = .ok (.if_icmp .ge 18, 3) := by decide +kernel
theorem dX1_place_91 : decode cX1_place 91 = .ok (.aload_n 0, 1) := by decide +kernel
theorem dX1_place_92 : decode cX1_place 92 = .ok (.iload_n 1, 1) := by decide +kernel
theorem dX1_place_93 : decode cX1_place 93 = .ok (.iload_n 2, 1) := by decide +kernel
theorem dX1_place_94 : decode cX1_place 94 = .ok (.invokevirtual 72, 3) := by decide +kernel
theorem dX1_place_97 : decode cX1_place 97 = .ok (.ifCond .ne 9, 3) := by decide +kernel
theorem dX1_place_100 : decode cX1_place 100 = .ok (.iinc 2 1, 3) := by decide +kernel
theorem dX1_place_103 : decode cX1_place 103 = .ok (.goto (-18), 3) := by decide +kernel
theorem dX1_place_106 : decode cX1_place 106 = .ok (.aload_n 0, 1) := by decide +kernel
theorem dX1_place_107 : decode cX1_place 107 = .ok (.getfield 15, 3) := by decide +kernel
theorem dX1_place_110 : decode cX1_place 110 = .ok (.iload_n 1, 1) := by decide +kernel
theorem dX1_place_111 : decode cX1_place 111 = .ok (.iload_n 2, 1) := by decide +kernel
theorem dX1_place_112 : decode cX1_place 112 = .ok (.invokestatic 56, 3) := by decide +kernel
theorem dX1_place_115 : decode cX1_place 115 = .ok (.iload_n 2, 1) := by decide +kernel
theorem dX1_place_116 : decode cX1_place 116 = .ok (.ireturn, 1) := by decide +kernel
theorem dX1_isFree_0 : decode cX1_isFree 0 = .ok (.iconst 0, 1) := by decide +kernel
theorem dX1_isFree_1 : decode cX1_isFree 1 = .ok (.istore_n 3, 1) := by decide +kernel
theorem dX1_isFree_2 : decode cX1_isFree 2 = .ok (.iconst 0, 1) := by decide +kernel
theorem dX1_isFree_3 : decode cX1_isFree 3 = .ok (.istore 4, 2) := by decide +kernel
theorem dX1_isFree_5 : decode cX1_isFree 5 = .ok (.iload 4, 2) := by decide +kernel
theorem dX1_isFree_7 : decode cX1_isFree 7 = .ok (.bipush 15, 2) := by decide +kernel
theorem dX1_isFree_9 : decode cX1_isFree 9 = .ok (.if_icmp .ge 57, 3) := by decide +kernel
theorem dX1_isFree_12 : decode cX1_isFree 12 = .ok (.aload_n 0, 1) := by decide +kernel
theorem dX1_isFree_13 : decode cX1_isFree 13 = .ok (.getfield 15, 3) := by decide +kernel
theorem dX1_isFree_16 : decode cX1_isFree 16 = .ok (.iload 4, 2) := by decide +kernel
theorem dX1_isFree_18 : decode cX1_isFree 18 = .ok (.invokestatic 32, 3) := by decide +kernel
theorem dX1_isFree_21 : decode cX1_isFree 21 = .ok (.iload_n 2, 1) := by decide +kernel
theorem dX1_isFree_22 : decode cX1_isFree 22 = .ok (.if_icmp .ne 38, 3) := by decide +kernel
theorem dX1_isFree_25 : decode cX1_isFree 25 = .ok (.aload_n 0, 1) := by decide +kernel
theorem dX1_isFree_26 : decode cX1_isFree 26 = .ok (.iload 4, 2) := by decide +kernel
theorem dX1_isFree_28 : decode cX1_isFree 28 = .ok (.aload_n 0, 1) := by decide +kernel
theorem dX1_isFree_29 : decode cX1_isFree 29 = .ok (.iload_n 1, 1) := by decide +kernel
theorem dX1_isFree_30 : decode cX1_isFree 30 = .ok (.iconst 0, 1) := by decide +kernel
theorem dX1_isFree_31 : decode cX1_isFree 31 = .ok (.invokevirtual 52, 3) := by decide +kernel
theorem dX1_isFree_34 : decode cX1_isFree 34 = .ok (.invokevirtual 76, 3) := by decide +kernel
theorem dX1_isFree_37 : decode cX1_isFree 37 = .ok (.ifCond .ne 18, 3) := by decide +kernel
theorem dX1_isFree_40 : decode cX1_isFree 40 = .ok (.aload_n 0, 1) := by decide +kernel
theorem dX1_isFree_41 : decode cX1_isFree 41 = .ok (.iload 4, 2) := by decide +kernel
theorem dX1_isFree_43 : decode cX1_isFree 43 = .ok (.aload_n 0, 1) := by decide +kernel
theorem dX1_isFree_44 : decode cX1_isFree 44 = .ok (.iload_n 1, 1) := by decide +kernel
theorem dX1_isFree_45 : decode cX1_isFree 45 = .ok (.iconst 1, 1) := by decide +kernel
theorem dX1_isFree_46 : decode cX1_isFree 46 = .ok (.invokevirtual 52, 3) := by decide +kernel
theorem dX1_isFree_49 : decode cX1_isFree 49 = .ok (.invokevirtual 76, 3) := by decide +kernel
theorem dX1_isFree_52 : decode cX1_isFree 52 = .ok (.ifCond .eq 5, 3) := by decide +kernel
theorem dX1_isFree_55 : decode cX1_isFree 55 = .ok (.iconst 0, 1) := by decide +kernel
theorem dX1_isFree_56 : decode cX1_isFree 56 = .ok (.ireturn, 1) := by decide +kernel
theorem dX1_isFree_57 : decode cX1_isFree 57 = .ok (.iinc 3 1, 3) := by decide +kernel
theorem dX1_isFree_60 : decode cX1_isFree 60 = .ok (.iinc 4 1, 3) := by decide +kernel
theorem dX1_isFree_63 : decode cX1_isFree 63 = .ok (.goto (-58), 3) := by decide +kernel
theorem dX1_isFree_66 : decode cX1_isFree 66 = .ok (.iload_n 3, 1) := by decide +kernel
theorem dX1_isFree_67 : decode cX1_isFree 67 = .ok (.aload_n 0, 1) := by decide +kernel
theorem dX1_isFree_68 : decode cX1_isFree 68 = .ok (.getfield 18, 3) := by decide +kernel
theorem dX1_isFree_71 : decode cX1_isFree 71 = .ok (.if_icmp .ge 7, 3) := by decide +kernel
theorem dX1_isFree_74 : decode cX1_isFree 74 = .ok (.iconst 1, 1) := by decide +kernel
theorem dX1_isFree_75 : decode cX1_isFree 75 = .ok (.goto 4, 3) := by decide +kernel
theorem dX1_isFree_78 : decode cX1_isFree 78 = .ok (.iconst 0, 1) := by decide +kernel
theorem dX1_isFree_79 : decode cX1_isFree 79 = .ok (.ireturn, 1) := by decide +kernel
theorem dX1_plays_0 : decode cX1_plays 0 = .ok (.iload_n 2, 1) := by decide +kernel
theorem dX1_plays_1 : decode cX1_plays 1 = .ok (.bipush (-4), 2) := by decide +kernel
theorem dX1_plays_3 : decode cX1_plays 3 = .ok (.if_icmp .eq 27, 3) := by decide +kernel
theorem dX1_plays_6 : decode cX1_plays 6 = .ok (.iload_n 2, 1) := by decide +kernel
theorem dX1_plays_7 : decode cX1_plays 7 = .ok (.aload_n 0, 1) := by decide +kernel
theorem dX1_plays_8 : decode cX1_plays 8 = .ok (.iload_n 1, 1) := by decide +kernel
theorem dX1_plays_9 : decode cX1_plays 9 = .ok (.iconst 0, 1) := by decide +kernel
theorem dX1_plays_10 : decode cX1_plays 10 = .ok (.invokevirtual 52, 3) := by decide +kernel
theorem dX1_plays_13 : decode cX1_plays 13 = .ok (.if_icmp .eq 13, 3) := by decide +kernel
theorem dX1_plays_16 : decode cX1_plays 16 = .ok (.iload_n 2, 1) := by decide +kernel
theorem dX1_plays_17 : decode cX1_plays 17 = .ok (.aload_n 0, 1) := by decide +kernel
theorem dX1_plays_18 : decode cX1_plays 18 = .ok (.iload_n 1, 1) := by decide +kernel
theorem dX1_plays_19 : decode cX1_plays 19 = .ok (.iconst 1, 1) := by decide +kernel
theorem dX1_plays_20 : decode cX1_plays 20 = .ok (.invokevirtual 52, 3) := by decide +kernel
theorem dX1_plays_23 : decode cX1_plays 23 = .ok (.if_icmp .ne 7, 3) := by decide +kernel
theorem dX1_plays_26 : decode cX1_plays 26 = .ok (.iconst 1, 1) := by decide +kernel
theorem dX1_plays_27 : decode cX1_plays 27 = .ok (.goto 4, 3) := by decide +kernel
theorem dX1_plays_30 : decode cX1_plays 30 = .ok (.iconst 0, 1) := by decide +kernel
theorem dX1_plays_31 : decode cX1_plays 31 = .ok (.ireturn, 1) := by decide +kernel
theorem dX1_liftAll_0 : decode cX1_liftAll 0 = .ok (.aload_n 0, 1) := by decide +kernel
theorem dX1_liftAll_1 : decode cX1_liftAll 1 = .ok (.invokevirtual 63, 3) := by decide +kernel
theorem dX1_liftAll_4 : decode cX1_liftAll 4 = .ok (.istore_n 1, 1) := by decide +kernel
theorem dX1_liftAll_5 : decode cX1_liftAll 5 = .ok (.aload_n 0, 1) := by decide +kernel
theorem dX1_liftAll_6 : decode cX1_liftAll 6 = .ok (.getfield 15, 3) := by decide +kernel
theorem dX1_liftAll_9 : decode cX1_liftAll 9 = .ok (.bipush (-4), 2) := by decide +kernel
theorem dX1_liftAll_11 : decode cX1_liftAll 11 = .ok (.invokestatic 22, 3) := by decide +kernel
theorem dX1_liftAll_14 : decode cX1_liftAll 14 = .ok (.iload_n 1, 1) := by decide +kernel
theorem dX1_liftAll_15 : decode cX1_liftAll 15 = .ok (.ireturn, 1) := by decide +kernel
theorem dX2_init_0 : decode cX2_init 0 = .ok (.aload_n 0, 1) := by decide +kernel
theorem dX2_init_1 : decode cX2_init 1 = .ok (.invokespecial 3, 3) := by decide +kernel
theorem dX2_init_4 : decode cX2_init 4 = .ok (.aload_n 0, 1) := by decide +kernel
theorem dX2_init_5 : decode cX2_init 5 = .ok (.sipush 150, 3) := by decide +kernel
theorem dX2_init_8 : decode cX2_init 8 = .ok (.newarray .int, 2) := by decide +kernel
theorem dX2_init_10 : decode cX2_init 10 = .ok (.putfield 9, 3) := by decide +kernel
theorem dX2_init_13 : decode cX2_init 13 = .ok (.aload_n 0, 1) := by decide +kernel
theorem dX2_init_14 : decode cX2_init 14 = .ok (.sipush 150, 3) := by decide +kernel
theorem dX2_init_17 : decode cX2_init 17 = .ok (.newarray .int, 2) := by decide +kernel
theorem dX2_init_19 : decode cX2_init 19 = .ok (.putfield 15, 3) := by decide +kernel
theorem dX2_init_22 : decode cX2_init 22 = .ok (.aload_n 0, 1) := by decide +kernel
theorem dX2_init_23 : decode cX2_init 23 = .ok (.sipush 150, 3) := by decide +kernel
theorem dX2_init_26 : decode cX2_init 26 = .ok (.newarray .int, 2) := by decide +kernel
theorem dX2_init_28 : decode cX2_init 28 = .ok (.putfield 18, 3) := by decide +kernel
theorem dX2_init_31 : decode cX2_init 31 = .ok (.aload_n 0, 1) := by decide +kernel
theorem dX2_init_32 : decode cX2_init 32 = .ok (.sipush 150, 3) := by decide +kernel
theorem dX2_init_35 : decode cX2_init 35 = .ok (.newarray .int, 2) := by decide +kernel
theorem dX2_init_37 : decode cX2_init 37 = .ok (.putfield 21, 3) := by decide +kernel
theorem dX2_init_40 : decode cX2_init 40 = .ok (.aload_n 0, 1) := by decide +kernel
theorem dX2_init_41 : decode cX2_init 41 = .ok (.sipush 150, 3) := by decide +kernel
theorem dX2_init_44 : decode cX2_init 44 = .ok (.newarray .int, 2) := by decide +kernel
theorem dX2_init_46 : decode cX2_init 46 = .ok (.putfield 24, 3) := by decide +kernel
theorem dX2_init_49 : decode cX2_init 49 = .ok (.aload_n 0, 1) := by decide +kernel
theorem dX2_init_50 : decode cX2_init 50 = .ok (.sipush 151, 3) := by decide +kernel
theorem dX2_init_53 : decode cX2_init 53 = .ok (.newarray .int, 2) := by decide +kernel
theorem dX2_init_55 : decode cX2_init 55 = .ok (.putfield 27, 3) := by decide +kernel
theorem dX2_init_58 : decode cX2_init 58 = .ok (.aload_n 0, 1) := by decide +kernel
theorem dX2_init_59 : decode cX2_init 59 = .ok (.iconst 2, 1) := by decide +kernel
theorem dX2_init_60 : decode cX2_init 60 = .ok (.newarray .int, 2) := by decide +kernel
theorem dX2_init_62 : decode cX2_init 62 = .ok (.putfield 30, 3) := by decide +kernel
theorem dX2_init_65 : decode cX2_init 65 = .ok (.aload_n 0, 1) := by decide +kernel
theorem dX2_init_66 : decode cX2_init 66 = .ok (.new 33, 3) := by decide +kernel
theorem dX2_init_69 : decode cX2_init 69 = .ok (.dup, 1) := by decide +kernel
theorem dX2_init_70 : decode cX2_init 70 = .ok (.invokespecial 35, 3) := by decide +kernel
theorem dX2_init_73 : decode cX2_init 73 = .ok (.putfield 36, 3) := by decide +kernel
theorem dX2_init_76 : decode cX2_init 76 = .ok (.aload_n 0, 1) := by decide +kernel
theorem dX2_init_77 : decode cX2_init 77 = .ok (.new 33, 3) := by decide +kernel
theorem dX2_init_80 : decode cX2_init 80 = .ok (.dup, 1) := by decide +kernel
theorem dX2_init_81 : decode cX2_init 81 = .ok (.invokespecial 35, 3) := by decide +kernel
theorem dX2_init_84 : decode cX2_init 84 = .ok (.putfield 40, 3) := by decide +kernel
theorem dX2_init_87 : decode cX2_init 87 = .ok (.return_, 1) := by decide +kernel
theorem dX2_begin_0 : decode cX2_begin 0 = .ok (.aload_n 0, 1) := by decide +kernel
theorem dX2_begin_1 : decode cX2_begin 1 = .ok (.getfield 30, 3) := by decide +kernel
theorem dX2_begin_4 : decode cX2_begin 4 = .ok (.iconst 0, 1) := by decide +kernel
theorem dX2_begin_5 : decode cX2_begin 5 = .ok (.iload_n 1, 1) := by decide +kernel
theorem dX2_begin_6 : decode cX2_begin 6 = .ok (.invokestatic 43, 3) := by decide +kernel
theorem dX2_begin_9 : decode cX2_begin 9 = .ok (.aload_n 0, 1) := by decide +kernel
theorem dX2_begin_10 : decode cX2_begin 10 = .ok (.getfield 30, 3) := by decide +kernel
theorem dX2_begin_13 : decode cX2_begin 13 = .ok (.iconst 1, 1) := by decide +kernel
theorem dX2_begin_14 : decode cX2_begin 14 = .ok (.iload_n 2, 1) := by decide +kernel
theorem dX2_begin_15 : decode cX2_begin 15 = .ok (.invokestatic 43, 3) := by decide +kernel
theorem dX2_begin_18 : decode cX2_begin 18 = .ok (.aload_n 0, 1) := by decide +kernel
theorem dX2_begin_19 : decode cX2_begin 19 = .ok (.iload_n 3, 1) := by decide +kernel
theorem dX2_begin_20 : decode cX2_begin 20 = .ok (.putfield 47, 3) := by decide +kernel
theorem dX2_begin_23 : decode cX2_begin 23 = .ok (.aload_n 0, 1) := by decide +kernel
theorem dX2_begin_24 : decode cX2_begin 24 = .ok (.iload 4, 2) := by decide +kernel
theorem dX2_begin_26 : decode cX2_begin 26 = .ok (.putfield 51, 3) := by decide +kernel
theorem dX2_begin_29 : decode cX2_begin 29 = .ok (.aload_n 0, 1) := by decide +kernel
theorem dX2_begin_30 : decode cX2_begin 30 = .ok (.iconst 1, 1) := by decide +kernel
theorem dX2_begin_31 : decode cX2_begin 31 = .ok (.putfield 54, 3) := by decide +kernel
theorem dX2_begin_34 : decode cX2_begin 34 = .ok (.aload_n 0, 1) := by decide +kernel
theorem dX2_begin_35 : decode cX2_begin 35 = .ok (.iconst 0, 1) := by decide +kernel
theorem dX2_begin_36 : decode cX2_begin 36 = .ok (.putfield 58, 3) := by decide +kernel
theorem dX2_begin_39 : decode cX2_begin 39 = .ok (.aload_n 0, 1) := by decide +kernel
theorem dX2_begin_40 : decode cX2_begin 40 = .ok (.getfield 27, 3) := by decide +kernel
theorem dX2_begin_43 : decode cX2_begin 43 = .ok (.iconst 0, 1) := by decide +kernel
theorem dX2_begin_44 : decode cX2_begin 44 = .ok (.iconst 0, 1) := by decide +kernel
theorem dX2_begin_45 : decode cX2_begin 45 = .ok (.invokestatic 43, 3) := by decide +kernel
theorem dX2_begin_48 : decode cX2_begin 48 = .ok (.aload_n 0, 1) := by decide +kernel
theorem dX2_begin_49 : decode cX2_begin 49 = .ok (.getfield 36, 3) := by decide +kernel
theorem dX2_begin_52 : decode cX2_begin 52 = .ok (.aload_n 0, 1) := by decide +kernel
theorem dX2_begin_53 : decode cX2_begin 53 = .ok (.getfield 47, 3) := by decide +kernel
theorem dX2_begin_56 : decode cX2_begin 56 = .ok (.aload_n 0, 1) := by decide +kernel
theorem dX2_begin_57 : decode cX2_begin 57 = .ok (.getfield 51, 3) := by decide +kernel
theorem dX2_begin_60 : decode cX2_begin 60 = .ok (.invokevirtual 61, 3) := by decide +kernel
theorem dX2_begin_63 : decode cX2_begin 63 = .ok (.return_, 1) := by decide +kernel
theorem dX2_end_0 : decode cX2_end 0 = .ok (.aload_n 0, 1) := by decide +kernel
theorem dX2_end_1 : decode cX2_end 1 = .ok (.iconst 0, 1) := by decide +kernel
theorem dX2_end_2 : decode cX2_end 2 = .ok (.putfield 54, 3) := by decide +kernel
theorem dX2_end_5 : decode cX2_end 5 = .ok (.aload_n 0, 1) := by decide +kernel
theorem dX2_end_6 : decode cX2_end 6 = .ok (.iconst 0, 1) := by decide +kernel
theorem dX2_end_7 : decode cX2_end 7 = .ok (.putfield 58, 3) := by decide +kernel
theorem dX2_end_10 : decode cX2_end 10 = .ok (.return_, 1) := by decide +kernel
theorem dX2_winner_0 : decode cX2_winner 0 = .ok (.aload_n 0, 1) := by decide +kernel
theorem dX2_winner_1 : decode cX2_winner 1 = .ok (.getfield 54, 3) := by decide +kernel
theorem dX2_winner_4 : decode cX2_winner 4 = .ok (.ifCond .eq 13, 3) := by decide +kernel
theorem dX2_winner_7 : decode cX2_winner 7 = .ok (.aload_n 0, 1) := by decide +kernel
theorem dX2_winner_8 : decode cX2_winner 8 = .ok (.getfield 36, 3) := by decide +kernel
theorem dX2_winner_11 : decode cX2_winner 11 = .ok (.invokevirtual 65, 3) := by decide +kernel
theorem dX2_winner_14 : decode cX2_winner 14 = .ok (.goto 5, 3) := by decide +kernel
theorem dX2_winner_17 : decode cX2_winner 17 = .ok (.bipush (-4), 2) := by decide +kernel
theorem dX2_winner_19 : decode cX2_winner 19 = .ok (.ireturn, 1) := by decide +kernel
theorem dX2_playerOf_0 : decode cX2_playerOf 0 = .ok (.aload_n 0, 1) := by decide +kernel
theorem dX2_playerOf_1 : decode cX2_playerOf 1 = .ok (.getfield 30, 3) := by decide +kernel
theorem dX2_playerOf_4 : decode cX2_playerOf 4 = .ok (.iload_n 1, 1) := by decide +kernel
theorem dX2_playerOf_5 : decode cX2_playerOf 5 = .ok (.invokestatic 69, 3) := by decide +kernel
theorem dX2_playerOf_8 : decode cX2_playerOf 8 = .ok (.ireturn, 1) := by decide +kernel
theorem dX2_take_0 : decode cX2_take 0 = .ok (.aload_n 0, 1) := by decide +kernel
theorem dX2_take_1 : decode cX2_take 1 = .ok (.getfield 54, 3) := by decide +kernel
theorem dX2_take_4 : decode cX2_take 4 = .ok (.ifCond .eq 15, 3) := by decide +kernel
theorem dX2_take_7 : decode cX2_take 7 = .ok (.aload_n 0, 1) := by decide +kernel
theorem dX2_take_8 : decode cX2_take 8 = .ok (.getfield 36, 3) := by decide +kernel
theorem dX2_take_11 : decode cX2_take 11 = .ok (.iload_n 1, 1) := by decide +kernel
theorem dX2_take_12 : decode cX2_take 12 = .ok (.iload_n 2, 1) := by decide +kernel
theorem dX2_take_13 : decode cX2_take 13 = .ok (.invokevirtual 73, 3) := by decide +kernel
theorem dX2_take_16 : decode cX2_take 16 = .ok (.ifCond .ne 6, 3) := by decide +kernel
theorem dX2_take_19 : decode cX2_take 19 = .ok (.bipush (-2), 2) := by decide +kernel
theorem dX2_take_21 : decode cX2_take 21 = .ok (.ireturn, 1) := by decide +kernel
theorem dX2_take_22 : decode cX2_take 22 = .ok (.aload_n 0, 1) := by decide +kernel
theorem dX2_take_23 : decode cX2_take 23 = .ok (.getfield 58, 3) := by decide +kernel
theorem dX2_take_26 : decode cX2_take 26 = .ok (.sipush 150, 3) := by decide +kernel
theorem dX2_take_29 : decode cX2_take 29 = .ok (.if_icmp .lt 6, 3) := by decide +kernel
theorem dX2_take_32 : decode cX2_take 32 = .ok (.bipush (-3), 2) := by decide +kernel
theorem dX2_take_34 : decode cX2_take 34 = .ok (.ireturn, 1) := by decide +kernel
theorem dX2_take_35 : decode cX2_take 35 = .ok (.aload_n 0, 1) := by decide +kernel
theorem dX2_take_36 : decode cX2_take 36 = .ok (.getfield 58, 3) := by decide +kernel
theorem dX2_take_39 : decode cX2_take 39 = .ok (.istore_n 3, 1) := by decide +kernel
theorem dX2_take_40 : decode cX2_take 40 = .ok (.aload_n 0, 1) := by decide +kernel
theorem dX2_take_41 : decode cX2_take 41 = .ok (.getfield 9, 3) := by decide +kernel
theorem dX2_take_44 : decode cX2_take 44 = .ok (.iload_n 3, 1) := by decide +kernel
theorem dX2_take_45 : decode cX2_take 45 = .ok (.iload_n 1, 1) := by decide +kernel
theorem dX2_take_46 : decode cX2_take 46 = .ok (.invokestatic 43, 3) := by decide +kernel
theorem dX2_take_49 : decode cX2_take 49 = .ok (.aload_n 0, 1) := by decide +kernel
theorem dX2_take_50 : decode cX2_take 50 = .ok (.getfield 15, 3) := by decide +kernel
theorem dX2_take_53 : decode cX2_take 53 = .ok (.iload_n 3, 1) := by decide +kernel
theorem dX2_take_54 : decode cX2_take 54 = .ok (.iload_n 2, 1) := by decide +kernel
theorem dX2_take_55 : decode cX2_take 55 = .ok (.invokestatic 43, 3) := by decide +kernel
theorem dX2_take_58 : decode cX2_take 58 = .ok (.aload_n 0, 1) := by decide +kernel
theorem dX2_take_59 : decode cX2_take 59 = .ok (.getfield 24, 3) := by decide +kernel
theorem dX2_take_62 : decode cX2_take 62 = .ok (.iload_n 3, 1) := by decide +kernel
theorem dX2_take_63 : decode cX2_take 63 = .ok (.aload_n 0, 1) := by decide +kernel
theorem dX2_take_64 : decode cX2_take 64 = .ok (.getfield 36, 3) := by decide +kernel
theorem dX2_take_67 : decode cX2_take 67 = .ok (.iload_n 1, 1) := by decide +kernel
theorem dX2_take_68 : decode cX2_take 68 = .ok (.iload_n 2, 1) := by decide +kernel
theorem dX2_take_69 : decode cX2_take 69 = .ok (.invokevirtual 77, 3) := by decide +kernel
theorem dX2_take_72 : decode cX2_take 72 = .ok (.ifCond .eq 7, 3) := by decide +kernel
theorem dX2_take_75 : decode cX2_take 75 = .ok (.iconst 1, 1) := by decide +kernel
theorem dX2_take_76 : decode cX2_take 76 = .ok (.goto 4, 3) := by decide +kernel
theorem dX2_take_79 : decode cX2_take 79 = .ok (.iconst 0, 1) := by decide +kernel
theorem dX2_take_80 : decode cX2_take 80 = .ok (.invokestatic 43, 3) := by decide +kernel
theorem dX2_take_83 : decode cX2_take 83 = .ok (.iload_n 1, 1) := by decide +kernel
theorem dX2_take_84 : decode cX2_take 84 = .ok (.invokestatic 80, 3) := by decide +kernel
theorem dX2_take_87 : decode cX2_take 87 = .ok (.ifCond .ne 8, 3) := by decide +kernel
theorem dX2_take_90 : decode cX2_take 90 = .ok (.aload_n 0, 1) := by decide +kernel
theorem dX2_take_91 : decode cX2_take 91 = .ok (.iload_n 3, 1) := by decide +kernel
theorem dX2_take_92 : decode cX2_take 92 = .ok (.invokevirtual 84, 3) := by decide +kernel
theorem dX2_take_95 : decode cX2_take 95 = .ok (.aload_n 0, 1) := by decide +kernel
theorem dX2_take_96 : decode cX2_take 96 = .ok (.getfield 36, 3) := by decide +kernel
theorem dX2_take_99 : decode cX2_take 99 = .ok (.iload_n 1, 1) := by decide +kernel
theorem dX2_take_100 : decode cX2_take 100 = .ok (.iload_n 2, 1) := by decide +kernel
theorem dX2_take_101 : decode cX2_take 101 = .ok (.invokevirtual 88, 3) := by decide +kernel
theorem dX2_take_104 : decode cX2_take 104 = .ok (.iload_n 1, 1) := by decide +kernel
theorem dX2_take_105 : decode cX2_take 105 = .ok (.invokestatic 80, 3) := by decide +kernel
theorem dX2_take_108 : decode cX2_take 108 = .ok (.ifCond .eq 8, 3) := by decide +kernel
theorem dX2_take_111 : decode cX2_take 111 = .ok (.aload_n 0, 1) := by decide +kernel
theorem dX2_take_112 : decode cX2_take 112 = .ok (.iload_n 3, 1) := by decide +kernel
theorem dX2_take_113 : decode cX2_take 113 = .ok (.invokevirtual 84, 3) := by decide +kernel
theorem dX2_take_116 : decode cX2_take 116 = .ok (.aload_n 0, 1) := by decide +kernel
theorem dX2_take_117 : decode cX2_take 117 = .ok (.iload_n 3, 1) := by decide +kernel
theorem dX2_take_118 : decode cX2_take 118 = .ok (.iconst 1, 1) := by decide +kernel
theorem dX2_take_119 : decode cX2_take 119 = .ok (.iadd, 1) := by decide +kernel
theorem dX2_take_120 : decode cX2_take 120 = .ok (.putfield 58, 3) := by decide +kernel
theorem dX2_take_123 : decode cX2_take 123 = .ok (.aload_n 0, 1) := by decide +kernel
theorem dX2_take_124 : decode cX2_take 124 = .ok (.getfield 27, 3) := by decide +kernel
theorem dX2_take_127 : decode cX2_take 127 = .ok (.aload_n 0, 1) := by decide +kernel
theorem dX2_take_128 : decode cX2_take 128 = .ok (.getfield 58, 3) := by decide +kernel
theorem dX2_take_131 : decode cX2_take 131 = .ok (.iconst 0, 1) := by decide +kernel
theorem dX2_take_132 : decode cX2_take 132 = .ok (.invokestatic 43, 3) := by decide +kernel
theorem dX2_take_135 : decode cX2_take 135 = .ok (.iload_n 3, 1) := by decide +kernel
theorem dX2_take_136 : decode cX2_take 136 = .ok (.ireturn, 1) := by decide +kernel
theorem dX2_begins_0 : decode cX2_begins 0 = .ok (.iload_n 0, 1) := by decide +kernel
theorem dX2_begins_1 : decode cX2_begins 1 = .ok (.ifCond .eq 9, 3) := by decide +kernel
theorem dX2_begins_4 : decode cX2_begins 4 = .ok (.iload_n 0, 1) := by decide +kernel
theorem dX2_begins_5 : decode cX2_begins 5 = .ok (.bipush 6, 2) := by decide +kernel
theorem dX2_begins_7 : decode cX2_begins 7 = .ok (.if_icmp .ne 7, 3) := by decide +kernel
theorem dX2_begins_10 : decode cX2_begins 10 = .ok (.iconst 1, 1) := by decide +kernel
theorem dX2_begins_11 : decode cX2_begins 11 = .ok (.goto 4, 3) := by decide +kernel
theorem dX2_begins_14 : decode cX2_begins 14 = .ok (.iconst 0, 1) := by decide +kernel
theorem dX2_begins_15 : decode cX2_begins 15 = .ok (.ireturn, 1) := by decide +kernel
theorem dX2_noteStriker_0 : decode cX2_noteStriker 0 = .ok (.aload_n 0, 1) := by decide +kernel
theorem dX2_noteStriker_1 : decode cX2_noteStriker 1 = .ok (.getfield 18, 3) := by decide +kernel
theorem dX2_noteStriker_4 : decode cX2_noteStriker 4 = .ok (.iload_n 1, 1) := by decide +kernel
theorem dX2_noteStriker_5 : decode cX2_noteStriker 5 = .ok (.aload_n 0, 1) := by decide +kernel
theorem dX2_noteStriker_6 : decode cX2_noteStriker 6 = .ok (.getfield 36, 3) := by decide +kernel
theorem dX2_noteStriker_9 : decode cX2_noteStriker 9 = .ok (.invokevirtual 91, 3) := by decide +kernel
theorem dX2_noteStriker_12 : decode cX2_noteStriker 12 = .ok (.invokestatic 43, 3) := by decide +kernel
theorem dX2_noteStriker_15 : decode cX2_noteStriker 15 = .ok (.aload_n 0, 1) := by decide +kernel
theorem dX2_noteStriker_16 : decode cX2_noteStriker 16 = .ok (.getfield 21, 3) := by decide +kernel
theorem dX2_noteStriker_19 : decode cX2_noteStriker 19 = .ok (.iload_n 1, 1) := by decide +kernel
theorem dX2_noteStriker_20 : decode cX2_noteStriker 20 = .ok (.aload_n 0, 1) := by decide +kernel
theorem dX2_noteStriker_21 : decode cX2_noteStriker 21 = .ok (.getfield 36, 3) := by decide +kernel
theorem dX2_noteStriker_24 : decode cX2_noteStriker 24 = .ok (.invokevirtual 94, 3) := by decide +kernel
theorem dX2_noteStriker_27 : decode cX2_noteStriker 27 = .ok (.invokestatic 43, 3) := by decide +kernel
theorem dX2_noteStriker_30 : decode cX2_noteStriker 30 = .ok (.return_, 1) := by decide +kernel
theorem dX2_has_0 : decode cX2_has 0 = .ok (.iload_n 1, 1) := by decide +kernel
theorem dX2_has_1 : decode cX2_has 1 = .ok (.ifCond .lt 15, 3) := by decide +kernel
theorem dX2_has_4 : decode cX2_has 4 = .ok (.iload_n 1, 1) := by decide +kernel
theorem dX2_has_5 : decode cX2_has 5 = .ok (.aload_n 0, 1) := by decide +kernel
theorem dX2_has_6 : decode cX2_has 6 = .ok (.getfield 58, 3) := by decide +kernel
theorem dX2_has_9 : decode cX2_has 9 = .ok (.if_icmp .ge 7, 3) := by decide +kernel
theorem dX2_has_12 : decode cX2_has 12 = .ok (.iconst 1, 1) := by decide +kernel
theorem dX2_has_13 : decode cX2_has 13 = .ok (.goto 4, 3) := by decide +kernel
theorem dX2_has_16 : decode cX2_has 16 = .ok (.iconst 0, 1) := by decide +kernel
theorem dX2_has_17 : decode cX2_has 17 = .ok (.ireturn, 1) := by decide +kernel
theorem dX2_tell_0 : decode cX2_tell 0 = .ok (.aload_n 0, 1) := by decide +kernel
theorem dX2_tell_1 : decode cX2_tell 1 = .ok (.iload_n 1, 1) := by decide +kernel
theorem dX2_tell_2 : decode cX2_tell 2 = .ok (.invokevirtual 97, 3) := by decide +kernel
theorem dX2_tell_5 : decode cX2_tell 5 = .ok (.ifCond .ne 6, 3) := by decide +kernel
theorem dX2_tell_8 : decode cX2_tell 8 = .ok (.bipush (-4), 2) := by decide +kernel
theorem dX2_tell_10 : decode cX2_tell 10 = .ok (.ireturn, 1) := by decide +kernel
theorem dX2_tell_11 : decode cX2_tell 11 = .ok (.iload_n 2, 1) := by decide +kernel
theorem dX2_tell_12 : decode cX2_tell 12 = .ok (.tableswitch 55 0 2 #[28, 37, 46], 28) := by decide +kernel
theorem dX2_tell_40 : decode cX2_tell 40 = .ok (.aload_n 0, 1) := by decide +kernel
theorem dX2_tell_41 : decode cX2_tell 41 = .ok (.getfield 9, 3) := by decide +kernel
theorem dX2_tell_44 : decode cX2_tell 44 = .ok (.iload_n 1, 1) := by decide +kernel
theorem dX2_tell_45 : decode cX2_tell 45 = .ok (.invokestatic 69, 3) := by decide +kernel
theorem dX2_tell_48 : decode cX2_tell 48 = .ok (.ireturn, 1) := by decide +kernel
theorem dX2_tell_49 : decode cX2_tell 49 = .ok (.aload_n 0, 1) := by decide +kernel
theorem dX2_tell_50 : decode cX2_tell 50 = .ok (.getfield 18, 3) := by decide +kernel
theorem dX2_tell_53 : decode cX2_tell 53 = .ok (.iload_n 1, 1) := by decide +kernel
theorem dX2_tell_54 : decode cX2_tell 54 = .ok (.invokestatic 69, 3) := by decide +kernel
theorem dX2_tell_57 : decode cX2_tell 57 = .ok (.ireturn, 1) := by decide +kernel
theorem dX2_tell_58 : decode cX2_tell 58 = .ok (.aload_n 0, 1) := by decide +kernel
theorem dX2_tell_59 : decode cX2_tell 59 = .ok (.getfield 21, 3) := by decide +kernel
theorem dX2_tell_62 : decode cX2_tell 62 = .ok (.iload_n 1, 1) := by decide +kernel
theorem dX2_tell_63 : decode cX2_tell 63 = .ok (.invokestatic 69, 3) := by decide +kernel
theorem dX2_tell_66 : decode cX2_tell 66 = .ok (.ireturn, 1) := by decide +kernel
theorem dX2_tell_67 : decode cX2_tell 67 = .ok (.aload_n 0, 1) := by decide +kernel
theorem dX2_tell_68 : decode cX2_tell 68 = .ok (.getfield 24, 3) := by decide +kernel
theorem dX2_tell_71 : decode cX2_tell 71 = .ok (.iload_n 1, 1) := by decide +kernel
theorem dX2_tell_72 : decode cX2_tell 72 = .ok (.invokestatic 69, 3) := by decide +kernel
theorem dX2_tell_75 : decode cX2_tell 75 = .ok (.ireturn, 1) := by decide +kernel
theorem dX2_roqueted_0 : decode cX2_roqueted 0 = .ok (.aload_n 0, 1) := by decide +kernel
theorem dX2_roqueted_1 : decode cX2_roqueted 1 = .ok (.iload_n 1, 1) := by decide +kernel
theorem dX2_roqueted_2 : decode cX2_roqueted 2 = .ok (.invokevirtual 97, 3) := by decide +kernel
theorem dX2_roqueted_5 : decode cX2_roqueted 5 = .ok (.ifCond .ne 5, 3) := by decide +kernel
theorem dX2_roqueted_8 : decode cX2_roqueted 8 = .ok (.iconst (-1), 1) := by decide +kernel
theorem dX2_roqueted_9 : decode cX2_roqueted 9 = .ok (.ireturn, 1) := by decide +kernel
theorem dX2_roqueted_10 : decode cX2_roqueted 10 = .ok (.aload_n 0, 1) := by decide +kernel
theorem dX2_roqueted_11 : decode cX2_roqueted 11 = .ok (.getfield 9, 3) := by decide +kernel
theorem dX2_roqueted_14 : decode cX2_roqueted 14 = .ok (.iload_n 1, 1) := by decide +kernel
theorem dX2_roqueted_15 : decode cX2_roqueted 15 = .ok (.invokestatic 69, 3) := by decide +kernel
theorem dX2_roqueted_18 : decode cX2_roqueted 18 = .ok (.iconst 3, 1) := by decide +kernel
theorem dX2_roqueted_19 : decode cX2_roqueted 19 = .ok (.if_icmp .ne 14, 3) := by decide +kernel
theorem dX2_roqueted_22 : decode cX2_roqueted 22 = .ok (.aload_n 0, 1) := by decide +kernel
theorem dX2_roqueted_23 : decode cX2_roqueted 23 = .ok (.getfield 15, 3) := by decide +kernel
theorem dX2_roqueted_26 : decode cX2_roqueted 26 = .ok (.iload_n 1, 1) := by decide +kernel
theorem dX2_roqueted_27 : decode cX2_roqueted 27 = .ok (.invokestatic 69, 3) := by decide +kernel
theorem dX2_roqueted_30 : decode cX2_roqueted 30 = .ok (.goto 5, 3) := by decide +kernel
theorem dX2_roqueted_33 : decode cX2_roqueted 33 = .ok (.bipush (-13), 2) := by decide +kernel
theorem dX2_roqueted_35 : decode cX2_roqueted 35 = .ok (.ireturn, 1) := by decide +kernel
theorem dX2_asOf_0 : decode cX2_asOf 0 = .ok (.aload_n 0, 1) := by decide +kernel
theorem dX2_asOf_1 : decode cX2_asOf 1 = .ok (.getfield 54, 3) := by decide +kernel
theorem dX2_asOf_4 : decode cX2_asOf 4 = .ok (.ifCond .eq 15, 3) := by decide +kernel
theorem dX2_asOf_7 : decode cX2_asOf 7 = .ok (.iload_n 1, 1) := by decide +kernel
theorem dX2_asOf_8 : decode cX2_asOf 8 = .ok (.ifCond .lt 11, 3) := by decide +kernel
theorem dX2_asOf_11 : decode cX2_asOf 11 = .ok (.iload_n 1, 1) := by decide +kernel
theorem dX2_asOf_12 : decode cX2_asOf 12 = .ok (.aload_n 0, 1) := by decide +kernel
theorem dX2_asOf_13 : decode cX2_asOf 13 = .ok (.getfield 58, 3) := by decide +kernel
theorem dX2_asOf_16 : decode cX2_asOf 16 = .ok (.if_icmp .le 5, 3) := by decide +kernel
theorem dX2_asOf_19 : decode cX2_asOf 19 = .ok (.iconst (-1), 1) := by decide +kernel
theorem dX2_asOf_20 : decode cX2_asOf 20 = .ok (.ireturn, 1) := by decide +kernel
theorem dX2_asOf_21 : decode cX2_asOf 21 = .ok (.aload_n 0, 1) := by decide +kernel
theorem dX2_asOf_22 : decode cX2_asOf 22 = .ok (.aload_n 0, 1) := by decide +kernel
theorem dX2_asOf_23 : decode cX2_asOf 23 = .ok (.getfield 40, 3) := by decide +kernel
theorem dX2_asOf_26 : decode cX2_asOf 26 = .ok (.iload_n 1, 1) := by decide +kernel
theorem dX2_asOf_27 : decode cX2_asOf 27 = .ok (.invokevirtual 100, 3) := by decide +kernel
theorem dX2_asOf_30 : decode cX2_asOf 30 = .ok (.aload_n 0, 1) := by decide +kernel
theorem dX2_asOf_31 : decode cX2_asOf 31 = .ok (.getfield 40, 3) := by decide +kernel
theorem dX2_asOf_34 : decode cX2_asOf 34 = .ok (.iload_n 2, 1) := by decide +kernel
theorem dX2_asOf_35 : decode cX2_asOf 35 = .ok (.invokevirtual 104, 3) := by decide +kernel
theorem dX2_asOf_38 : decode cX2_asOf 38 = .ok (.ireturn, 1) := by decide +kernel
theorem dX2_leadTo_0 : decode cX2_leadTo 0 = .ok (.aload_n 1, 1) := by decide +kernel
theorem dX2_leadTo_1 : decode cX2_leadTo 1 = .ok (.aload_n 0, 1) := by decide +kernel
theorem dX2_leadTo_2 : decode cX2_leadTo 2 = .ok (.getfield 47, 3) := by decide +kernel
theorem dX2_leadTo_5 : decode cX2_leadTo 5 = .ok (.aload_n 0, 1) := by decide +kernel
theorem dX2_leadTo_6 : decode cX2_leadTo 6 = .ok (.getfield 51, 3) := by decide +kernel
theorem dX2_leadTo_9 : decode cX2_leadTo 9 = .ok (.invokevirtual 61, 3) := by decide +kernel
theorem dX2_leadTo_12 : decode cX2_leadTo 12 = .ok (.aload_n 1, 1) := by decide +kernel
theorem dX2_leadTo_13 : decode cX2_leadTo 13 = .ok (.aload_n 0, 1) := by decide +kernel
theorem dX2_leadTo_14 : decode cX2_leadTo 14 = .ok (.getfield 27, 3) := by decide +kernel
theorem dX2_leadTo_17 : decode cX2_leadTo 17 = .ok (.iconst 0, 1) := by decide +kernel
theorem dX2_leadTo_18 : decode cX2_leadTo 18 = .ok (.invokestatic 69, 3) := by decide +kernel
theorem dX2_leadTo_21 : decode cX2_leadTo 21 = .ok (.invokestatic 108, 3) := by decide +kernel
theorem dX2_leadTo_24 : decode cX2_leadTo 24 = .ok (.iconst 0, 1) := by decide +kernel
theorem dX2_leadTo_25 : decode cX2_leadTo 25 = .ok (.istore_n 3, 1) := by decide +kernel
theorem dX2_leadTo_26 : decode cX2_leadTo 26 = .ok (.iload_n 3, 1) := by decide +kernel
theorem dX2_leadTo_27 : decode cX2_leadTo 27 = .ok (.iload_n 2, 1) := by decide +kernel
theorem dX2_leadTo_28 : decode cX2_leadTo 28 = .ok (.if_icmp .ge 51, 3) := by decide +kernel
theorem dX2_leadTo_31 : decode cX2_leadTo 31 = .ok (.iload_n 3, 1) := by decide +kernel
theorem dX2_leadTo_32 : decode cX2_leadTo 32 = .ok (.aload_n 0, 1) := by decide +kernel
theorem dX2_leadTo_33 : decode cX2_leadTo 33 = .ok (.getfield 58, 3) := by decide +kernel
theorem dX2_leadTo_36 : decode cX2_leadTo 36 = .ok (.if_icmp .ge 43, 3) := by decide +kernel
theorem dX2_leadTo_39 : decode cX2_leadTo 39 = .ok (.aload_n 1, 1) := by decide +kernel
theorem dX2_leadTo_40 : decode cX2_leadTo 40 = .ok (.aload_n 0, 1) := by decide +kernel
theorem dX2_leadTo_41 : decode cX2_leadTo 41 = .ok (.getfield 9, 3) := by decide +kernel
theorem dX2_leadTo_44 : decode cX2_leadTo 44 = .ok (.iload_n 3, 1) := by decide +kernel
theorem dX2_leadTo_45 : decode cX2_leadTo 45 = .ok (.invokestatic 69, 3) := by decide +kernel
theorem dX2_leadTo_48 : decode cX2_leadTo 48 = .ok (.aload_n 0, 1) := by decide +kernel
theorem dX2_leadTo_49 : decode cX2_leadTo 49 = .ok (.getfield 15, 3) := by decide +kernel
theorem dX2_leadTo_52 : decode cX2_leadTo 52 = .ok (.iload_n 3, 1) := by decide +kernel
theorem dX2_leadTo_53 : decode cX2_leadTo 53 = .ok (.invokestatic 69, 3) := by decide +kernel
theorem dX2_leadTo_56 : decode cX2_leadTo 56 = .ok (.invokevirtual 88, 3) := by decide +kernel
theorem dX2_leadTo_59 : decode cX2_leadTo 59 = .ok (.aload_n 1, 1) := by decide +kernel
theorem dX2_leadTo_60 : decode cX2_leadTo 60 = .ok (.aload_n 0, 1) := by decide +kernel
theorem dX2_leadTo_61 : decode cX2_leadTo 61 = .ok (.getfield 27, 3) := by decide +kernel
theorem dX2_leadTo_64 : decode cX2_leadTo 64 = .ok (.iload_n 3, 1) := by decide +kernel
theorem dX2_leadTo_65 : decode cX2_leadTo 65 = .ok (.iconst 1, 1) := by decide +kernel
theorem dX2_leadTo_66 : decode cX2_leadTo 66 = .ok (.iadd, 1) := by decide +kernel
theorem dX2_leadTo_67 : decode cX2_leadTo 67 = .ok (.invokestatic 69, 3) := by decide +kernel
theorem dX2_leadTo_70 : decode cX2_leadTo 70 = .ok (.invokestatic 108, 3) := by decide +kernel
theorem dX2_leadTo_73 : decode cX2_leadTo 73 = .ok (.iinc 3 1, 3) := by decide +kernel
theorem dX2_leadTo_76 : decode cX2_leadTo 76 = .ok (.goto (-50), 3) := by decide +kernel
theorem dX2_leadTo_79 : decode cX2_leadTo 79 = .ok (.return_, 1) := by decide +kernel
theorem dX2_obey_0 : decode cX2_obey 0 = .ok (.iload_n 1, 1) := by decide +kernel
theorem dX2_obey_1 : decode cX2_obey 1 = .ok (.iconst 1, 1) := by decide +kernel
theorem dX2_obey_2 : decode cX2_obey 2 = .ok (.if_icmp .ne 10, 3) := by decide +kernel
theorem dX2_obey_5 : decode cX2_obey 5 = .ok (.aload_n 0, 1) := by decide +kernel
theorem dX2_obey_6 : decode cX2_obey 6 = .ok (.invokevirtual 111, 3) := by decide +kernel
theorem dX2_obey_9 : decode cX2_obey 9 = .ok (.goto 15, 3) := by decide +kernel
theorem dX2_obey_12 : decode cX2_obey 12 = .ok (.iload_n 1, 1) := by decide +kernel
theorem dX2_obey_13 : decode cX2_obey 13 = .ok (.iconst 2, 1) := by decide +kernel
theorem dX2_obey_14 : decode cX2_obey 14 = .ok (.if_icmp .lt 10, 3) := by decide +kernel
theorem dX2_obey_17 : decode cX2_obey 17 = .ok (.aload_n 0, 1) := by decide +kernel
theorem dX2_obey_18 : decode cX2_obey 18 = .ok (.iload_n 1, 1) := by decide +kernel
theorem dX2_obey_19 : decode cX2_obey 19 = .ok (.iconst 2, 1) := by decide +kernel
theorem dX2_obey_20 : decode cX2_obey 20 = .ok (.isub, 1) := by decide +kernel
theorem dX2_obey_21 : decode cX2_obey 21 = .ok (.invokevirtual 114, 3) := by decide +kernel
theorem dX2_obey_24 : decode cX2_obey 24 = .ok (.return_, 1) := by decide +kernel
theorem dX2_find_0 : decode cX2_find 0 = .ok (.aload_n 0, 1) := by decide +kernel
theorem dX2_find_1 : decode cX2_find 1 = .ok (.iload_n 1, 1) := by decide +kernel
theorem dX2_find_2 : decode cX2_find 2 = .ok (.invokevirtual 97, 3) := by decide +kernel
theorem dX2_find_5 : decode cX2_find 5 = .ok (.ifCond .ne 5, 3) := by decide +kernel
theorem dX2_find_8 : decode cX2_find 8 = .ok (.iconst (-1), 1) := by decide +kernel
theorem dX2_find_9 : decode cX2_find 9 = .ok (.ireturn, 1) := by decide +kernel
theorem dX2_find_10 : decode cX2_find 10 = .ok (.aload_n 0, 1) := by decide +kernel
theorem dX2_find_11 : decode cX2_find 11 = .ok (.getfield 24, 3) := by decide +kernel
theorem dX2_find_14 : decode cX2_find 14 = .ok (.iload_n 1, 1) := by decide +kernel
theorem dX2_find_15 : decode cX2_find 15 = .ok (.invokestatic 69, 3) := by decide +kernel
theorem dX2_find_18 : decode cX2_find 18 = .ok (.ifCond .ne 6, 3) := by decide +kernel
theorem dX2_find_21 : decode cX2_find 21 = .ok (.bipush (-2), 2) := by decide +kernel
theorem dX2_find_23 : decode cX2_find 23 = .ok (.ireturn, 1) := by decide +kernel
theorem dX2_find_24 : decode cX2_find 24 = .ok (.aload_n 2, 1) := by decide +kernel
theorem dX2_find_25 : decode cX2_find 25 = .ok (.aload_n 0, 1) := by decide +kernel
theorem dX2_find_26 : decode cX2_find 26 = .ok (.getfield 9, 3) := by decide +kernel
theorem dX2_find_29 : decode cX2_find 29 = .ok (.iload_n 1, 1) := by decide +kernel
theorem dX2_find_30 : decode cX2_find 30 = .ok (.invokestatic 69, 3) := by decide +kernel
theorem dX2_find_33 : decode cX2_find 33 = .ok (.aload_n 0, 1) := by decide +kernel
theorem dX2_find_34 : decode cX2_find 34 = .ok (.getfield 58, 3) := by decide +kernel
theorem dX2_find_37 : decode cX2_find 37 = .ok (.iconst 1, 1) := by decide +kernel
theorem dX2_find_38 : decode cX2_find 38 = .ok (.isub, 1) := by decide +kernel
theorem dX2_find_39 : decode cX2_find 39 = .ok (.iload_n 1, 1) := by decide +kernel
theorem dX2_find_40 : decode cX2_find 40 = .ok (.isub, 1) := by decide +kernel
theorem dX2_find_41 : decode cX2_find 41 = .ok (.invokevirtual 117, 3) := by decide +kernel
theorem dX2_find_44 : decode cX2_find 44 = .ok (.istore_n 3, 1) := by decide +kernel
theorem dX2_find_45 : decode cX2_find 45 = .ok (.iload_n 3, 1) := by decide +kernel
theorem dX2_find_46 : decode cX2_find 46 = .ok (.bipush (-4), 2) := by decide +kernel
theorem dX2_find_48 : decode cX2_find 48 = .ok (.if_icmp .ne 6, 3) := by decide +kernel
theorem dX2_find_51 : decode cX2_find 51 = .ok (.bipush (-2), 2) := by decide +kernel
theorem dX2_find_53 : decode cX2_find 53 = .ok (.ireturn, 1) := by decide +kernel
theorem dX2_find_54 : decode cX2_find 54 = .ok (.iload_n 3, 1) := by decide +kernel
theorem dX2_find_55 : decode cX2_find 55 = .ok (.bipush 82, 2) := by decide +kernel
theorem dX2_find_57 : decode cX2_find 57 = .ok (.if_icmp .ne 11, 3) := by decide +kernel
theorem dX2_find_60 : decode cX2_find 60 = .ok (.aload_n 0, 1) := by decide +kernel
theorem dX2_find_61 : decode cX2_find 61 = .ok (.iload_n 1, 1) := by decide +kernel
theorem dX2_find_62 : decode cX2_find 62 = .ok (.invokevirtual 123, 3) := by decide +kernel
theorem dX2_find_65 : decode cX2_find 65 = .ok (.goto 8, 3) := by decide +kernel
theorem dX2_find_68 : decode cX2_find 68 = .ok (.aload_n 0, 1) := by decide +kernel
theorem dX2_find_69 : decode cX2_find 69 = .ok (.iload_n 1, 1) := by decide +kernel
theorem dX2_find_70 : decode cX2_find 70 = .ok (.invokevirtual 126, 3) := by decide +kernel
theorem dX2_find_73 : decode cX2_find 73 = .ok (.ireturn, 1) := by decide +kernel
theorem dX2_takeAway_0 : decode cX2_takeAway 0 = .ok (.aload_n 0, 1) := by decide +kernel
theorem dX2_takeAway_1 : decode cX2_takeAway 1 = .ok (.getfield 27, 3) := by decide +kernel
theorem dX2_takeAway_4 : decode cX2_takeAway 4 = .ok (.iload_n 1, 1) := by decide +kernel
theorem dX2_takeAway_5 : decode cX2_takeAway 5 = .ok (.iconst 3, 1) := by decide +kernel
theorem dX2_takeAway_6 : decode cX2_takeAway 6 = .ok (.aload_n 0, 1) := by decide +kernel
theorem dX2_takeAway_7 : decode cX2_takeAway 7 = .ok (.getfield 21, 3) := by decide +kernel
theorem dX2_takeAway_10 : decode cX2_takeAway 10 = .ok (.iload_n 1, 1) := by decide +kernel
theorem dX2_takeAway_11 : decode cX2_takeAway 11 = .ok (.invokestatic 69, 3) := by decide +kernel
theorem dX2_takeAway_14 : decode cX2_takeAway 14 = .ok (.isub, 1) := by decide +kernel
theorem dX2_takeAway_15 : decode cX2_takeAway 15 = .ok (.invokestatic 43, 3) := by decide +kernel
theorem dX2_takeAway_18 : decode cX2_takeAway 18 = .ok (.aload_n 0, 1) := by decide +kernel
theorem dX2_takeAway_19 : decode cX2_takeAway 19 = .ok (.iload_n 1, 1) := by decide +kernel
theorem dX2_takeAway_20 : decode cX2_takeAway 20 = .ok (.putfield 58, 3) := by decide +kernel
theorem dX2_takeAway_23 : decode cX2_takeAway 23 = .ok (.aload_n 0, 1) := by decide +kernel
theorem dX2_takeAway_24 : decode cX2_takeAway 24 = .ok (.aload_n 0, 1) := by decide +kernel
theorem dX2_takeAway_25 : decode cX2_takeAway 25 = .ok (.getfield 36, 3) := by decide +kernel
theorem dX2_takeAway_28 : decode cX2_takeAway 28 = .ok (.aload_n 0, 1) := by decide +kernel
theorem dX2_takeAway_29 : decode cX2_takeAway 29 = .ok (.getfield 58, 3) := by decide +kernel
theorem dX2_takeAway_32 : decode cX2_takeAway 32 = .ok (.invokevirtual 100, 3) := by decide +kernel
theorem dX2_takeAway_35 : decode cX2_takeAway 35 = .ok (.iconst 1, 1) := by decide +kernel
theorem dX2_takeAway_36 : decode cX2_takeAway 36 = .ok (.ireturn, 1) := by decide +kernel
theorem dX2_stopTurn_0 : decode cX2_stopTurn 0 = .ok (.aload_n 0, 1) := by decide +kernel
theorem dX2_stopTurn_1 : decode cX2_stopTurn 1 = .ok (.getfield 24, 3) := by decide +kernel
theorem dX2_stopTurn_4 : decode cX2_stopTurn 4 = .ok (.iload_n 1, 1) := by decide +kernel
theorem dX2_stopTurn_5 : decode cX2_stopTurn 5 = .ok (.iconst 0, 1) := by decide +kernel
theorem dX2_stopTurn_6 : decode cX2_stopTurn 6 = .ok (.invokestatic 43, 3) := by decide +kernel
theorem dX2_stopTurn_9 : decode cX2_stopTurn 9 = .ok (.aload_n 0, 1) := by decide +kernel
theorem dX2_stopTurn_10 : decode cX2_stopTurn 10 = .ok (.getfield 36, 3) := by decide +kernel
theorem dX2_stopTurn_13 : decode cX2_stopTurn 13 = .ok (.invokevirtual 91, 3) := by decide +kernel
theorem dX2_stopTurn_16 : decode cX2_stopTurn 16 = .ok (.bipush (-4), 2) := by decide +kernel
theorem dX2_stopTurn_18 : decode cX2_stopTurn 18 = .ok (.if_icmp .eq 22, 3) := by decide +kernel
theorem dX2_stopTurn_21 : decode cX2_stopTurn 21 = .ok (.aload_n 0, 1) := by decide +kernel
theorem dX2_stopTurn_22 : decode cX2_stopTurn 22 = .ok (.getfield 27, 3) := by decide +kernel
theorem dX2_stopTurn_25 : decode cX2_stopTurn 25 = .ok (.aload_n 0, 1) := by decide +kernel
theorem dX2_stopTurn_26 : decode cX2_stopTurn 26 = .ok (.getfield 58, 3) := by decide +kernel
theorem dX2_stopTurn_29 : decode cX2_stopTurn 29 = .ok (.iconst 1, 1) := by decide +kernel
theorem dX2_stopTurn_30 : decode cX2_stopTurn 30 = .ok (.invokestatic 43, 3) := by decide +kernel
theorem dX2_stopTurn_33 : decode cX2_stopTurn 33 = .ok (.aload_n 0, 1) := by decide +kernel
theorem dX2_stopTurn_34 : decode cX2_stopTurn 34 = .ok (.getfield 36, 3) := by decide +kernel
theorem dX2_stopTurn_37 : decode cX2_stopTurn 37 = .ok (.invokevirtual 111, 3) := by decide +kernel
theorem dX2_stopTurn_40 : decode cX2_stopTurn 40 = .ok (.iconst 2, 1) := by decide +kernel
theorem dX2_stopTurn_41 : decode cX2_stopTurn 41 = .ok (.ireturn, 1) := by decide +kernel
theorem dX2_total_0 : decode cX2_total 0 = .ok (.iconst 0, 1) := by decide +kernel
theorem dX2_total_1 : decode cX2_total 1 = .ok (.istore_n 2, 1) := by decide +kernel
theorem dX2_total_2 : decode cX2_total 2 = .ok (.iconst 0, 1) := by decide +kernel
theorem dX2_total_3 : decode cX2_total 3 = .ok (.istore_n 3, 1) := by decide +kernel
theorem dX2_total_4 : decode cX2_total 4 = .ok (.iload_n 3, 1) := by decide +kernel
theorem dX2_total_5 : decode cX2_total 5 = .ok (.aload_n 0, 1) := by decide +kernel
theorem dX2_total_6 : decode cX2_total 6 = .ok (.getfield 58, 3) := by decide +kernel
theorem dX2_total_9 : decode cX2_total 9 = .ok (.if_icmp .ge 28, 3) := by decide +kernel
theorem dX2_total_12 : decode cX2_total 12 = .ok (.iload_n 3, 1) := by decide +kernel
theorem dX2_total_13 : decode cX2_total 13 = .ok (.sipush 150, 3) := by decide +kernel
theorem dX2_total_16 : decode cX2_total 16 = .ok (.if_icmp .ge 21, 3) := by decide +kernel
theorem dX2_total_19 : decode cX2_total 19 = .ok (.aload_n 0, 1) := by decide +kernel
theorem dX2_total_20 : decode cX2_total 20 = .ok (.iload_n 3, 1) := by decide +kernel
theorem dX2_total_21 : decode cX2_total 21 = .ok (.iload_n 1, 1) := by decide +kernel
theorem dX2_total_22 : decode cX2_total 22 = .ok (.invokevirtual 129, 3) := by decide +kernel
theorem dX2_total_25 : decode cX2_total 25 = .ok (.ifCond .eq 6, 3) := by decide +kernel
theorem dX2_total_28 : decode cX2_total 28 = .ok (.iinc 2 1, 3) := by decide +kernel
theorem dX2_total_31 : decode cX2_total 31 = .ok (.iinc 3 1, 3) := by decide +kernel
theorem dX2_total_34 : decode cX2_total 34 = .ok (.goto (-30), 3) := by decide +kernel
theorem dX2_total_37 : decode cX2_total 37 = .ok (.iload_n 2, 1) := by decide +kernel
theorem dX2_total_38 : decode cX2_total 38 = .ok (.ireturn, 1) := by decide +kernel
theorem dX2_counts_0 : decode cX2_counts 0 = .ok (.iload_n 2, 1) := by decide +kernel
theorem dX2_counts_1 : decode cX2_counts 1 = .ok (.ifCond .ne 5, 3) := by decide +kernel
theorem dX2_counts_4 : decode cX2_counts 4 = .ok (.iconst 1, 1) := by decide +kernel
theorem dX2_counts_5 : decode cX2_counts 5 = .ok (.ireturn, 1) := by decide +kernel
theorem dX2_counts_6 : decode cX2_counts 6 = .ok (.iload_n 2, 1) := by decide +kernel
theorem dX2_counts_7 : decode cX2_counts 7 = .ok (.iconst 1, 1) := by decide +kernel
theorem dX2_counts_8 : decode cX2_counts 8 = .ok (.if_icmp .ne 23, 3) := by decide +kernel
theorem dX2_counts_11 : decode cX2_counts 11 = .ok (.aload_n 0, 1) := by decide +kernel
theorem dX2_counts_12 : decode cX2_counts 12 = .ok (.getfield 24, 3) := by decide +kernel
theorem dX2_counts_15 : decode cX2_counts 15 = .ok (.iload_n 1, 1) := by decide +kernel
theorem dX2_counts_16 : decode cX2_counts 16 = .ok (.invokestatic 69, 3) := by decide +kernel
theorem dX2_counts_19 : decode cX2_counts 19 = .ok (.iconst 1, 1) := by decide +kernel
theorem dX2_counts_20 : decode cX2_counts 20 = .ok (.if_icmp .ne 7, 3) := by decide +kernel
theorem dX2_counts_23 : decode cX2_counts 23 = .ok (.iconst 1, 1) := by decide +kernel
theorem dX2_counts_24 : decode cX2_counts 24 = .ok (.goto 18, 3) := by decide +kernel
theorem dX2_counts_27 : decode cX2_counts 27 = .ok (.iconst 0, 1) := by decide +kernel
theorem dX2_counts_28 : decode cX2_counts 28 = .ok (.goto 14, 3) := by decide +kernel
theorem dX2_counts_31 : decode cX2_counts 31 = .ok (.aload_n 0, 1) := by decide +kernel
theorem dX2_counts_32 : decode cX2_counts 32 = .ok (.getfield 9, 3) := by decide +kernel
theorem dX2_counts_35 : decode cX2_counts 35 = .ok (.iload_n 1, 1) := by decide +kernel
theorem dX2_counts_36 : decode cX2_counts 36 = .ok (.invokestatic 69, 3) := by decide +kernel
theorem dX2_counts_39 : decode cX2_counts 39 = .ok (.invokestatic 80, 3) := by decide +kernel
theorem dX2_counts_42 : decode cX2_counts 42 = .ok (.ireturn, 1) := by decide +kernel
theorem dX3_init_0 : decode cX3_init 0 = .ok (.aload_n 0, 1) := by decide +kernel
theorem dX3_init_1 : decode cX3_init 1 = .ok (.invokespecial 3, 3) := by decide +kernel
theorem dX3_init_4 : decode cX3_init 4 = .ok (.aload_n 0, 1) := by decide +kernel
theorem dX3_init_5 : decode cX3_init 5 = .ok (.iconst 4, 1) := by decide +kernel
theorem dX3_init_6 : decode cX3_init 6 = .ok (.newarray .int, 2) := by decide +kernel
theorem dX3_init_8 : decode cX3_init 8 = .ok (.putfield 9, 3) := by decide +kernel
theorem dX3_init_11 : decode cX3_init 11 = .ok (.aload_n 0, 1) := by decide +kernel
theorem dX3_init_12 : decode cX3_init 12 = .ok (.iconst 2, 1) := by decide +kernel
theorem dX3_init_13 : decode cX3_init 13 = .ok (.newarray .int, 2) := by decide +kernel
theorem dX3_init_15 : decode cX3_init 15 = .ok (.putfield 15, 3) := by decide +kernel
theorem dX3_init_18 : decode cX3_init 18 = .ok (.return_, 1) := by decide +kernel
theorem dX3_begin_0 : decode cX3_begin 0 = .ok (.aload_n 0, 1) := by decide +kernel
theorem dX3_begin_1 : decode cX3_begin 1 = .ok (.getfield 9, 3) := by decide +kernel
theorem dX3_begin_4 : decode cX3_begin 4 = .ok (.iconst 0, 1) := by decide +kernel
theorem dX3_begin_5 : decode cX3_begin 5 = .ok (.invokestatic 18, 3) := by decide +kernel
theorem dX3_begin_8 : decode cX3_begin 8 = .ok (.aload_n 0, 1) := by decide +kernel
theorem dX3_begin_9 : decode cX3_begin 9 = .ok (.getfield 15, 3) := by decide +kernel
theorem dX3_begin_12 : decode cX3_begin 12 = .ok (.iconst 0, 1) := by decide +kernel
theorem dX3_begin_13 : decode cX3_begin 13 = .ok (.iload_n 1, 1) := by decide +kernel
theorem dX3_begin_14 : decode cX3_begin 14 = .ok (.invokestatic 24, 3) := by decide +kernel
theorem dX3_begin_17 : decode cX3_begin 17 = .ok (.aload_n 0, 1) := by decide +kernel
theorem dX3_begin_18 : decode cX3_begin 18 = .ok (.getfield 15, 3) := by decide +kernel
theorem dX3_begin_21 : decode cX3_begin 21 = .ok (.iconst 1, 1) := by decide +kernel
theorem dX3_begin_22 : decode cX3_begin 22 = .ok (.iload_n 2, 1) := by decide +kernel
theorem dX3_begin_23 : decode cX3_begin 23 = .ok (.invokestatic 24, 3) := by decide +kernel
theorem dX3_begin_26 : decode cX3_begin 26 = .ok (.aload_n 0, 1) := by decide +kernel
theorem dX3_begin_27 : decode cX3_begin 27 = .ok (.iconst 0, 1) := by decide +kernel
theorem dX3_begin_28 : decode cX3_begin 28 = .ok (.invokevirtual 28, 3) := by decide +kernel
theorem dX3_begin_31 : decode cX3_begin 31 = .ok (.return_, 1) := by decide +kernel
theorem dX3_allows_0 : decode cX3_allows 0 = .ok (.aload_n 0, 1) := by decide +kernel
theorem dX3_allows_1 : decode cX3_allows 1 = .ok (.invokevirtual 32, 3) := by decide +kernel
theorem dX3_allows_4 : decode cX3_allows 4 = .ok (.bipush (-4), 2) := by decide +kernel
theorem dX3_allows_6 : decode cX3_allows 6 = .ok (.if_icmp .eq 5, 3) := by decide +kernel
theorem dX3_allows_9 : decode cX3_allows 9 = .ok (.iconst 0, 1) := by decide +kernel
theorem dX3_allows_10 : decode cX3_allows 10 = .ok (.ireturn, 1) := by decide +kernel
theorem dX3_allows_11 : decode cX3_allows 11 = .ok (.iload_n 1, 1) := by decide +kernel
theorem dX3_allows_12 : decode cX3_allows 12 = .ok (.ifCond .ne 26, 3) := by decide +kernel
theorem dX3_allows_15 : decode cX3_allows 15 = .ok (.aload_n 0, 1) := by decide +kernel
theorem dX3_allows_16 : decode cX3_allows 16 = .ok (.getfield 36, 3) := by decide +kernel
theorem dX3_allows_19 : decode cX3_allows 19 = .ok (.bipush (-4), 2) := by decide +kernel
theorem dX3_allows_21 : decode cX3_allows 21 = .ok (.if_icmp .ne 15, 3) := by decide +kernel
theorem dX3_allows_24 : decode cX3_allows 24 = .ok (.aload_n 0, 1) := by decide +kernel
theorem dX3_allows_25 : decode cX3_allows 25 = .ok (.iload_n 2, 1) := by decide +kernel
theorem dX3_allows_26 : decode cX3_allows 26 = .ok (.invokevirtual 40, 3) := by decide +kernel
theorem dX3_allows_29 : decode cX3_allows 29 = .ok (.ifCond .ne 7, 3) := by decide +kernel
theorem dX3_allows_32 : decode cX3_allows 32 = .ok (.iconst 1, 1) := by decide +kernel
theorem dX3_allows_33 : decode cX3_allows 33 = .ok (.goto 4, 3) := by decide +kernel
theorem dX3_allows_36 : decode cX3_allows 36 = .ok (.iconst 0, 1) := by decide +kernel
theorem dX3_allows_37 : decode cX3_allows 37 = .ok (.ireturn, 1) := by decide +kernel
theorem dX3_allows_38 : decode cX3_allows 38 = .ok (.iload_n 1, 1) := by decide +kernel
theorem dX3_allows_39 : decode cX3_allows 39 = .ok (.bipush 6, 2) := by decide +kernel
theorem dX3_allows_41 : decode cX3_allows 41 = .ok (.if_icmp .ne 25, 3) := by decide +kernel
theorem dX3_allows_44 : decode cX3_allows 44 = .ok (.aload_n 0, 1) := by decide +kernel
theorem dX3_allows_45 : decode cX3_allows 45 = .ok (.getfield 36, 3) := by decide +kernel
theorem dX3_allows_48 : decode cX3_allows 48 = .ok (.bipush (-4), 2) := by decide +kernel
theorem dX3_allows_50 : decode cX3_allows 50 = .ok (.if_icmp .ne 14, 3) := by decide +kernel
theorem dX3_allows_53 : decode cX3_allows 53 = .ok (.aload_n 0, 1) := by decide +kernel
theorem dX3_allows_54 : decode cX3_allows 54 = .ok (.invokevirtual 44, 3) := by decide +kernel
theorem dX3_allows_57 : decode cX3_allows 57 = .ok (.ifCond .eq 7, 3) := by decide +kernel
theorem dX3_allows_60 : decode cX3_allows 60 = .ok (.iconst 1, 1) := by decide +kernel
theorem dX3_allows_61 : decode cX3_allows 61 = .ok (.goto 4, 3) := by decide +kernel
theorem dX3_allows_64 : decode cX3_allows 64 = .ok (.iconst 0, 1) := by decide +kernel
theorem dX3_allows_65 : decode cX3_allows 65 = .ok (.ireturn, 1) := by decide +kernel
theorem dX3_allows_66 : decode cX3_allows 66 = .ok (.aload_n 0, 1) := by decide +kernel
theorem dX3_allows_67 : decode cX3_allows 67 = .ok (.getfield 36, 3) := by decide +kernel
theorem dX3_allows_70 : decode cX3_allows 70 = .ok (.bipush (-4), 2) := by decide +kernel
theorem dX3_allows_72 : decode cX3_allows 72 = .ok (.if_icmp .ne 5, 3) := by decide +kernel
theorem dX3_allows_75 : decode cX3_allows 75 = .ok (.iconst 0, 1) := by decide +kernel
theorem dX3_allows_76 : decode cX3_allows 76 = .ok (.ireturn, 1) := by decide +kernel
theorem dX3_allows_77 : decode cX3_allows 77 = .ok (.iload_n 1, 1) := by decide +kernel
theorem dX3_allows_78 : decode cX3_allows 78 = .ok (.iconst 4, 1) := by decide +kernel
theorem dX3_allows_79 : decode cX3_allows 79 = .ok (.if_icmp .ne 20, 3) := by decide +kernel
theorem dX3_allows_82 : decode cX3_allows 82 = .ok (.aload_n 0, 1) := by decide +kernel
theorem dX3_allows_83 : decode cX3_allows 83 = .ok (.getfield 48, 3) := by decide +kernel
theorem dX3_allows_86 : decode cX3_allows 86 = .ok (.bipush (-4), 2) := by decide +kernel
theorem dX3_allows_88 : decode cX3_allows 88 = .ok (.if_icmp .eq 7, 3) := by decide +kernel
theorem dX3_allows_91 : decode cX3_allows 91 = .ok (.iconst 1, 1) := by decide +kernel
theorem dX3_allows_92 : decode cX3_allows 92 = .ok (.goto 30, 3) := by decide +kernel
theorem dX3_allows_95 : decode cX3_allows 95 = .ok (.iconst 0, 1) := by decide +kernel
theorem dX3_allows_96 : decode cX3_allows 96 = .ok (.goto 26, 3) := by decide +kernel
theorem dX3_allows_99 : decode cX3_allows 99 = .ok (.aload_n 0, 1) := by decide +kernel
theorem dX3_allows_100 : decode cX3_allows 100 = .ok (.getfield 48, 3) := by decide +kernel
theorem dX3_allows_103 : decode cX3_allows 103 = .ok (.bipush (-4), 2) := by decide +kernel
theorem dX3_allows_105 : decode cX3_allows 105 = .ok (.if_icmp .ne 16, 3) := by decide +kernel
theorem dX3_allows_108 : decode cX3_allows 108 = .ok (.aload_n 0, 1) := by decide +kernel
theorem dX3_allows_109 : decode cX3_allows 109 = .ok (.iload_n 1, 1) := by decide +kernel
theorem dX3_allows_110 : decode cX3_allows 110 = .ok (.iload_n 2, 1) := by decide +kernel
theorem dX3_allows_111 : decode cX3_allows 111 = .ok (.invokevirtual 51, 3) := by decide +kernel
theorem dX3_allows_114 : decode cX3_allows 114 = .ok (.ifCond .eq 7, 3) := by decide +kernel
theorem dX3_allows_117 : decode cX3_allows 117 = .ok (.iconst 1, 1) := by decide +kernel
theorem dX3_allows_118 : decode cX3_allows 118 = .ok (.goto 4, 3) := by decide +kernel
theorem dX3_allows_121 : decode cX3_allows 121 = .ok (.iconst 0, 1) := by decide +kernel
theorem dX3_allows_122 : decode cX3_allows 122 = .ok (.ireturn, 1) := by decide +kernel
theorem dX3_allowsFree_0 : decode cX3_allowsFree 0 = .ok (.aload_n 0, 1) := by decide +kernel
theorem dX3_allowsFree_1 : decode cX3_allowsFree 1 = .ok (.getfield 55, 3) := by decide +kernel
theorem dX3_allowsFree_4 : decode cX3_allowsFree 4 = .ok (.bipush (-4), 2) := by decide +kernel
theorem dX3_allowsFree_6 : decode cX3_allowsFree 6 = .ok (.if_icmp .eq 34, 3) := by decide +kernel
theorem dX3_allowsFree_9 : decode cX3_allowsFree 9 = .ok (.aload_n 0, 1) := by decide +kernel
theorem dX3_allowsFree_10 : decode cX3_allowsFree 10 = .ok (.aload_n 0, 1) := by decide +kernel
theorem dX3_allowsFree_11 : decode cX3_allowsFree 11 = .ok (.getfield 55, 3) := by decide +kernel
theorem dX3_allowsFree_14 : decode cX3_allowsFree 14 = .ok (.invokevirtual 40, 3) := by decide +kernel
theorem dX3_allowsFree_17 : decode cX3_allowsFree 17 = .ok (.ifCond .ne 23, 3) := by decide +kernel
theorem dX3_allowsFree_20 : decode cX3_allowsFree 20 = .ok (.aload_n 0, 1) := by decide +kernel
theorem dX3_allowsFree_21 : decode cX3_allowsFree 21 = .ok (.getfield 15, 3) := by decide +kernel
theorem dX3_allowsFree_24 : decode cX3_allowsFree 24 = .ok (.iconst 1, 1) := by decide +kernel
theorem dX3_allowsFree_25 : decode cX3_allowsFree 25 = .ok (.aload_n 0, 1) := by decide +kernel
theorem dX3_allowsFree_26 : decode cX3_allowsFree 26 = .ok (.getfield 58, 3) := by decide +kernel
theorem dX3_allowsFree_29 : decode cX3_allowsFree 29 = .ok (.isub, 1) := by decide +kernel
theorem dX3_allowsFree_30 : decode cX3_allowsFree 30 = .ok (.invokestatic 61, 3) := by decide +kernel
theorem dX3_allowsFree_33 : decode cX3_allowsFree 33 = .ok (.ifCond .le 7, 3) := by decide +kernel
theorem dX3_allowsFree_36 : decode cX3_allowsFree 36 = .ok (.iconst 1, 1) := by decide +kernel
theorem dX3_allowsFree_37 : decode cX3_allowsFree 37 = .ok (.goto 4, 3) := by decide +kernel
theorem dX3_allowsFree_40 : decode cX3_allowsFree 40 = .ok (.iconst 0, 1) := by decide +kernel
theorem dX3_allowsFree_41 : decode cX3_allowsFree 41 = .ok (.ireturn, 1) := by decide +kernel
theorem dX3_allowsFresh_0 : decode cX3_allowsFresh 0 = .ok (.iload_n 1, 1) := by decide +kernel
theorem dX3_allowsFresh_1 : decode cX3_allowsFresh 1 = .ok (.tableswitch 97 2 5 #[31, 75, 97, 53], 31) := by decide +kernel
theorem dX3_allowsFresh_32 : decode cX3_allowsFresh 32 = .ok (.aload_n 0, 1) := by decide +kernel
theorem dX3_allowsFresh_33 : decode cX3_allowsFresh 33 = .ok (.getfield 9, 3) := by decide +kernel
theorem dX3_allowsFresh_36 : decode cX3_allowsFresh 36 = .ok (.aload_n 0, 1) := by decide +kernel
theorem dX3_allowsFresh_37 : decode cX3_allowsFresh 37 = .ok (.getfield 36, 3) := by decide +kernel
theorem dX3_allowsFresh_40 : decode cX3_allowsFresh 40 = .ok (.invokestatic 61, 3) := by decide +kernel
theorem dX3_allowsFresh_43 : decode cX3_allowsFresh 43 = .ok (.bipush 6, 2) := by decide +kernel
theorem dX3_allowsFresh_45 : decode cX3_allowsFresh 45 = .ok (.if_icmp .ge 7, 3) := by decide +kernel
theorem dX3_allowsFresh_48 : decode cX3_allowsFresh 48 = .ok (.iconst 1, 1) := by decide +kernel
theorem dX3_allowsFresh_49 : decode cX3_allowsFresh 49 = .ok (.goto 4, 3) := by decide +kernel
theorem dX3_allowsFresh_52 : decode cX3_allowsFresh 52 = .ok (.iconst 0, 1) := by decide +kernel
theorem dX3_allowsFresh_53 : decode cX3_allowsFresh 53 = .ok (.ireturn, 1) := by decide +kernel
theorem dX3_allowsFresh_54 : decode cX3_allowsFresh 54 = .ok (.aload_n 0, 1) := by decide +kernel
theorem dX3_allowsFresh_55 : decode cX3_allowsFresh 55 = .ok (.getfield 9, 3) := by decide +kernel
theorem dX3_allowsFresh_58 : decode cX3_allowsFresh 58 = .ok (.aload_n 0, 1) := by decide +kernel
theorem dX3_allowsFresh_59 : decode cX3_allowsFresh 59 = .ok (.getfield 36, 3) := by decide +kernel
theorem dX3_allowsFresh_62 : decode cX3_allowsFresh 62 = .ok (.invokestatic 61, 3) := by decide +kernel
theorem dX3_allowsFresh_65 : decode cX3_allowsFresh 65 = .ok (.bipush 6, 2) := by decide +kernel
theorem dX3_allowsFresh_67 : decode cX3_allowsFresh 67 = .ok (.if_icmp .ne 7, 3) := by decide +kernel
theorem dX3_allowsFresh_70 : decode cX3_allowsFresh 70 = .ok (.iconst 1, 1) := by decide +kernel
theorem dX3_allowsFresh_71 : decode cX3_allowsFresh 71 = .ok (.goto 4, 3) := by decide +kernel
theorem dX3_allowsFresh_74 : decode cX3_allowsFresh 74 = .ok (.iconst 0, 1) := by decide +kernel
theorem dX3_allowsFresh_75 : decode cX3_allowsFresh 75 = .ok (.ireturn, 1) := by decide +kernel
theorem dX3_allowsFresh_76 : decode cX3_allowsFresh 76 = .ok (.iload_n 2, 1) := by decide +kernel
theorem dX3_allowsFresh_77 : decode cX3_allowsFresh 77 = .ok (.aload_n 0, 1) := by decide +kernel
theorem dX3_allowsFresh_78 : decode cX3_allowsFresh 78 = .ok (.getfield 36, 3) := by decide +kernel
theorem dX3_allowsFresh_81 : decode cX3_allowsFresh 81 = .ok (.if_icmp .eq 15, 3) := by decide +kernel
theorem dX3_allowsFresh_84 : decode cX3_allowsFresh 84 = .ok (.aload_n 0, 1) := by decide +kernel
theorem dX3_allowsFresh_85 : decode cX3_allowsFresh 85 = .ok (.iload_n 2, 1) := by decide +kernel
theorem dX3_allowsFresh_86 : decode cX3_allowsFresh 86 = .ok (.invokevirtual 40, 3) := by decide +kernel
theorem dX3_allowsFresh_89 : decode cX3_allowsFresh 89 = .ok (.ifCond .ne 7, 3) := by decide +kernel
theorem dX3_allowsFresh_92 : decode cX3_allowsFresh 92 = .ok (.iconst 1, 1) := by decide +kernel
theorem dX3_allowsFresh_93 : decode cX3_allowsFresh 93 = .ok (.goto 4, 3) := by decide +kernel
theorem dX3_allowsFresh_96 : decode cX3_allowsFresh 96 = .ok (.iconst 0, 1) := by decide +kernel
theorem dX3_allowsFresh_97 : decode cX3_allowsFresh 97 = .ok (.ireturn, 1) := by decide +kernel
theorem dX3_allowsFresh_98 : decode cX3_allowsFresh 98 = .ok (.iconst 1, 1) := by decide +kernel
theorem dX3_allowsFresh_99 : decode cX3_allowsFresh 99 = .ok (.ireturn, 1) := by decide +kernel
theorem dX3_isWrong_0 : decode cX3_isWrong 0 = .ok (.iload_n 1, 1) := by decide +kernel
theorem dX3_isWrong_1 : decode cX3_isWrong 1 = .ok (.ifCond .ne 19, 3) := by decide +kernel
theorem dX3_isWrong_4 : decode cX3_isWrong 4 = .ok (.iload_n 2, 1) := by decide +kernel
theorem dX3_isWrong_5 : decode cX3_isWrong 5 = .ok (.iconst 2, 1) := by decide +kernel
theorem dX3_isWrong_6 : decode cX3_isWrong 6 = .ok (.irem, 1) := by decide +kernel
theorem dX3_isWrong_7 : decode cX3_isWrong 7 = .ok (.aload_n 0, 1) := by decide +kernel
theorem dX3_isWrong_8 : decode cX3_isWrong 8 = .ok (.getfield 58, 3) := by decide +kernel
theorem dX3_isWrong_11 : decode cX3_isWrong 11 = .ok (.if_icmp .eq 7, 3) := by decide +kernel
theorem dX3_isWrong_14 : decode cX3_isWrong 14 = .ok (.iconst 1, 1) := by decide +kernel
theorem dX3_isWrong_15 : decode cX3_isWrong 15 = .ok (.goto 4, 3) := by decide +kernel
theorem dX3_isWrong_18 : decode cX3_isWrong 18 = .ok (.iconst 0, 1) := by decide +kernel
theorem dX3_isWrong_19 : decode cX3_isWrong 19 = .ok (.ireturn, 1) := by decide +kernel
theorem dX3_isWrong_20 : decode cX3_isWrong 20 = .ok (.iload_n 1, 1) := by decide +kernel
theorem dX3_isWrong_21 : decode cX3_isWrong 21 = .ok (.iconst 3, 1) := by decide +kernel
theorem dX3_isWrong_22 : decode cX3_isWrong 22 = .ok (.if_icmp .ne 18, 3) := by decide +kernel
theorem dX3_isWrong_25 : decode cX3_isWrong 25 = .ok (.aload_n 0, 1) := by decide +kernel
theorem dX3_isWrong_26 : decode cX3_isWrong 26 = .ok (.getfield 65, 3) := by decide +kernel
theorem dX3_isWrong_29 : decode cX3_isWrong 29 = .ok (.iload_n 2, 1) := by decide +kernel
theorem dX3_isWrong_30 : decode cX3_isWrong 30 = .ok (.ishr, 1) := by decide +kernel
theorem dX3_isWrong_31 : decode cX3_isWrong 31 = .ok (.iconst 1, 1) := by decide +kernel
theorem dX3_isWrong_32 : decode cX3_isWrong 32 = .ok (.iand, 1) := by decide +kernel
theorem dX3_isWrong_33 : decode cX3_isWrong 33 = .ok (.ifCond .ne 7, 3) := by decide +kernel
theorem dX3_isWrong_36 : decode cX3_isWrong 36 = .ok (.iconst 1, 1) := by decide +kernel
theorem dX3_isWrong_37 : decode cX3_isWrong 37 = .ok (.goto 4, 3) := by decide +kernel
theorem dX3_isWrong_40 : decode cX3_isWrong 40 = .ok (.iconst 0, 1) := by decide +kernel
theorem dX3_isWrong_41 : decode cX3_isWrong 41 = .ok (.ireturn, 1) := by decide +kernel
theorem dX3_lead_0 : decode cX3_lead 0 = .ok (.iload_n 1, 1) := by decide +kernel
theorem dX3_lead_1 : decode cX3_lead 1 = .ok (.tableswitch 124 0 5 #[39, 47, 54, 89, 97, 104], 39) := by decide +kernel
theorem dX3_lead_40 : decode cX3_lead 40 = .ok (.aload_n 0, 1) := by decide +kernel
theorem dX3_lead_41 : decode cX3_lead 41 = .ok (.iload_n 2, 1) := by decide +kernel
theorem dX3_lead_42 : decode cX3_lead 42 = .ok (.invokevirtual 68, 3) := by decide +kernel
theorem dX3_lead_45 : decode cX3_lead 45 = .ok (.goto 92, 3) := by decide +kernel
theorem dX3_lead_48 : decode cX3_lead 48 = .ok (.aload_n 0, 1) := by decide +kernel
theorem dX3_lead_49 : decode cX3_lead 49 = .ok (.invokevirtual 71, 3) := by decide +kernel
theorem dX3_lead_52 : decode cX3_lead 52 = .ok (.goto 85, 3) := by decide +kernel
theorem dX3_lead_55 : decode cX3_lead 55 = .ok (.aload_n 0, 1) := by decide +kernel
theorem dX3_lead_56 : decode cX3_lead 56 = .ok (.getfield 9, 3) := by decide +kernel
theorem dX3_lead_59 : decode cX3_lead 59 = .ok (.aload_n 0, 1) := by decide +kernel
theorem dX3_lead_60 : decode cX3_lead 60 = .ok (.getfield 36, 3) := by decide +kernel
theorem dX3_lead_63 : decode cX3_lead 63 = .ok (.aload_n 0, 1) := by decide +kernel
theorem dX3_lead_64 : decode cX3_lead 64 = .ok (.getfield 9, 3) := by decide +kernel
theorem dX3_lead_67 : decode cX3_lead 67 = .ok (.aload_n 0, 1) := by decide +kernel
theorem dX3_lead_68 : decode cX3_lead 68 = .ok (.getfield 36, 3) := by decide +kernel
theorem dX3_lead_71 : decode cX3_lead 71 = .ok (.invokestatic 61, 3) := by decide +kernel
theorem dX3_lead_74 : decode cX3_lead 74 = .ok (.iconst 1, 1) := by decide +kernel
theorem dX3_lead_75 : decode cX3_lead 75 = .ok (.iadd, 1) := by decide +kernel
theorem dX3_lead_76 : decode cX3_lead 76 = .ok (.invokestatic 24, 3) := by decide +kernel
theorem dX3_lead_79 : decode cX3_lead 79 = .ok (.aload_n 0, 1) := by decide +kernel
theorem dX3_lead_80 : decode cX3_lead 80 = .ok (.aload_n 0, 1) := by decide +kernel
theorem dX3_lead_81 : decode cX3_lead 81 = .ok (.getfield 36, 3) := by decide +kernel
theorem dX3_lead_84 : decode cX3_lead 84 = .ok (.invokevirtual 68, 3) := by decide +kernel
theorem dX3_lead_87 : decode cX3_lead 87 = .ok (.goto 50, 3) := by decide +kernel
theorem dX3_lead_90 : decode cX3_lead 90 = .ok (.aload_n 0, 1) := by decide +kernel
theorem dX3_lead_91 : decode cX3_lead 91 = .ok (.iload_n 2, 1) := by decide +kernel
theorem dX3_lead_92 : decode cX3_lead 92 = .ok (.invokevirtual 74, 3) := by decide +kernel
theorem dX3_lead_95 : decode cX3_lead 95 = .ok (.goto 42, 3) := by decide +kernel
theorem dX3_lead_98 : decode cX3_lead 98 = .ok (.aload_n 0, 1) := by decide +kernel
theorem dX3_lead_99 : decode cX3_lead 99 = .ok (.invokevirtual 77, 3) := by decide +kernel
theorem dX3_lead_102 : decode cX3_lead 102 = .ok (.goto 35, 3) := by decide +kernel
theorem dX3_lead_105 : decode cX3_lead 105 = .ok (.aload_n 0, 1) := by decide +kernel
theorem dX3_lead_106 : decode cX3_lead 106 = .ok (.getfield 9, 3) := by decide +kernel
theorem dX3_lead_109 : decode cX3_lead 109 = .ok (.aload_n 0, 1) := by decide +kernel
theorem dX3_lead_110 : decode cX3_lead 110 = .ok (.getfield 36, 3) := by decide +kernel
theorem dX3_lead_113 : decode cX3_lead 113 = .ok (.bipush 7, 2) := by decide +kernel
theorem dX3_lead_115 : decode cX3_lead 115 = .ok (.invokestatic 24, 3) := by decide +kernel
theorem dX3_lead_118 : decode cX3_lead 118 = .ok (.aload_n 0, 1) := by decide +kernel
theorem dX3_lead_119 : decode cX3_lead 119 = .ok (.invokevirtual 71, 3) := by decide +kernel
theorem dX3_lead_122 : decode cX3_lead 122 = .ok (.goto 15, 3) := by decide +kernel
theorem dX3_lead_125 : decode cX3_lead 125 = .ok (.aload_n 0, 1) := by decide +kernel
theorem dX3_lead_126 : decode cX3_lead 126 = .ok (.invokevirtual 80, 3) := by decide +kernel
theorem dX3_lead_129 : decode cX3_lead 129 = .ok (.aload_n 0, 1) := by decide +kernel
theorem dX3_lead_130 : decode cX3_lead 130 = .ok (.aload_n 0, 1) := by decide +kernel
theorem dX3_lead_131 : decode cX3_lead 131 = .ok (.getfield 55, 3) := by decide +kernel
theorem dX3_lead_134 : decode cX3_lead 134 = .ok (.invokevirtual 68, 3) := by decide +kernel
theorem dX3_lead_137 : decode cX3_lead 137 = .ok (.return_, 1) := by decide +kernel
theorem dX3_bringIn_0 : decode cX3_bringIn 0 = .ok (.aload_n 0, 1) := by decide +kernel
theorem dX3_bringIn_1 : decode cX3_bringIn 1 = .ok (.iload_n 1, 1) := by decide +kernel
theorem dX3_bringIn_2 : decode cX3_bringIn 2 = .ok (.putfield 36, 3) := by decide +kernel
theorem dX3_bringIn_5 : decode cX3_bringIn 5 = .ok (.aload_n 0, 1) := by decide +kernel
theorem dX3_bringIn_6 : decode cX3_bringIn 6 = .ok (.iconst 1, 1) := by decide +kernel
theorem dX3_bringIn_7 : decode cX3_bringIn 7 = .ok (.putfield 83, 3) := by decide +kernel
theorem dX3_bringIn_10 : decode cX3_bringIn 10 = .ok (.aload_n 0, 1) := by decide +kernel
theorem dX3_bringIn_11 : decode cX3_bringIn 11 = .ok (.iconst 0, 1) := by decide +kernel
theorem dX3_bringIn_12 : decode cX3_bringIn 12 = .ok (.putfield 65, 3) := by decide +kernel
theorem dX3_bringIn_15 : decode cX3_bringIn 15 = .ok (.iconst 0, 1) := by decide +kernel
theorem dX3_bringIn_16 : decode cX3_bringIn 16 = .ok (.istore_n 2, 1) := by decide +kernel
theorem dX3_bringIn_17 : decode cX3_bringIn 17 = .ok (.iload_n 2, 1) := by decide +kernel
theorem dX3_bringIn_18 : decode cX3_bringIn 18 = .ok (.iconst 4, 1) := by decide +kernel
theorem dX3_bringIn_19 : decode cX3_bringIn 19 = .ok (.if_icmp .ge 39, 3) := by decide +kernel
theorem dX3_bringIn_22 : decode cX3_bringIn 22 = .ok (.iload_n 2, 1) := by decide +kernel
theorem dX3_bringIn_23 : decode cX3_bringIn 23 = .ok (.iload_n 1, 1) := by decide +kernel
theorem dX3_bringIn_24 : decode cX3_bringIn 24 = .ok (.if_icmp .eq 28, 3) := by decide +kernel
theorem dX3_bringIn_27 : decode cX3_bringIn 27 = .ok (.aload_n 0, 1) := by decide +kernel
theorem dX3_bringIn_28 : decode cX3_bringIn 28 = .ok (.getfield 9, 3) := by decide +kernel
theorem dX3_bringIn_31 : decode cX3_bringIn 31 = .ok (.iload_n 2, 1) := by decide +kernel
theorem dX3_bringIn_32 : decode cX3_bringIn 32 = .ok (.invokestatic 61, 3) := by decide +kernel
theorem dX3_bringIn_35 : decode cX3_bringIn 35 = .ok (.bipush 7, 2) := by decide +kernel
theorem dX3_bringIn_37 : decode cX3_bringIn 37 = .ok (.if_icmp .eq 15, 3) := by decide +kernel
theorem dX3_bringIn_40 : decode cX3_bringIn 40 = .ok (.aload_n 0, 1) := by decide +kernel
theorem dX3_bringIn_41 : decode cX3_bringIn 41 = .ok (.dup, 1) := by decide +kernel
theorem dX3_bringIn_42 : decode cX3_bringIn 42 = .ok (.getfield 65, 3) := by decide +kernel
theorem dX3_bringIn_45 : decode cX3_bringIn 45 = .ok (.iconst 1, 1) := by decide +kernel
theorem dX3_bringIn_46 : decode cX3_bringIn 46 = .ok (.iload_n 2, 1) := by decide +kernel
theorem dX3_bringIn_47 : decode cX3_bringIn 47 = .ok (.ishl, 1) := by decide +kernel
theorem dX3_bringIn_48 : decode cX3_bringIn 48 = .ok (.ior, 1) := by decide +kernel
theorem dX3_bringIn_49 : decode cX3_bringIn 49 = .ok (.putfield 65, 3) := by decide +kernel
theorem dX3_bringIn_52 : decode cX3_bringIn 52 = .ok (.iinc 2 1, 3) := by decide +kernel
theorem dX3_bringIn_55 : decode cX3_bringIn 55 = .ok (.goto (-38), 3) := by decide +kernel
theorem dX3_bringIn_58 : decode cX3_bringIn 58 = .ok (.return_, 1) := by decide +kernel
theorem dX3_roquet_0 : decode cX3_roquet 0 = .ok (.aload_n 0, 1) := by decide +kernel
theorem dX3_roquet_1 : decode cX3_roquet 1 = .ok (.dup, 1) := by decide +kernel
theorem dX3_roquet_2 : decode cX3_roquet 2 = .ok (.getfield 83, 3) := by decide +kernel
theorem dX3_roquet_5 : decode cX3_roquet 5 = .ok (.iconst 1, 1) := by decide +kernel
theorem dX3_roquet_6 : decode cX3_roquet 6 = .ok (.isub, 1) := by decide +kernel
theorem dX3_roquet_7 : decode cX3_roquet 7 = .ok (.putfield 83, 3) := by decide +kernel
theorem dX3_roquet_10 : decode cX3_roquet 10 = .ok (.aload_n 0, 1) := by decide +kernel
theorem dX3_roquet_11 : decode cX3_roquet 11 = .ok (.dup, 1) := by decide +kernel
theorem dX3_roquet_12 : decode cX3_roquet 12 = .ok (.getfield 65, 3) := by decide +kernel
theorem dX3_roquet_15 : decode cX3_roquet 15 = .ok (.iconst 1, 1) := by decide +kernel
theorem dX3_roquet_16 : decode cX3_roquet 16 = .ok (.iload_n 1, 1) := by decide +kernel
theorem dX3_roquet_17 : decode cX3_roquet 17 = .ok (.ishl, 1) := by decide +kernel
theorem dX3_roquet_18 : decode cX3_roquet 18 = .ok (.iconst (-1), 1) := by decide +kernel
theorem dX3_roquet_19 : decode cX3_roquet 19 = .ok (.ixor, 1) := by decide +kernel
theorem dX3_roquet_20 : decode cX3_roquet 20 = .ok (.iand, 1) := by decide +kernel
theorem dX3_roquet_21 : decode cX3_roquet 21 = .ok (.putfield 65, 3) := by decide +kernel
theorem dX3_roquet_24 : decode cX3_roquet 24 = .ok (.aload_n 0, 1) := by decide +kernel
theorem dX3_roquet_25 : decode cX3_roquet 25 = .ok (.iload_n 1, 1) := by decide +kernel
theorem dX3_roquet_26 : decode cX3_roquet 26 = .ok (.putfield 48, 3) := by decide +kernel
theorem dX3_roquet_29 : decode cX3_roquet 29 = .ok (.return_, 1) := by decide +kernel
theorem dX3_croquet_0 : decode cX3_croquet 0 = .ok (.aload_n 0, 1) := by decide +kernel
theorem dX3_croquet_1 : decode cX3_croquet 1 = .ok (.iconst 1, 1) := by decide +kernel
theorem dX3_croquet_2 : decode cX3_croquet 2 = .ok (.putfield 83, 3) := by decide +kernel
theorem dX3_croquet_5 : decode cX3_croquet 5 = .ok (.aload_n 0, 1) := by decide +kernel
theorem dX3_croquet_6 : decode cX3_croquet 6 = .ok (.bipush (-4), 2) := by decide +kernel
theorem dX3_croquet_8 : decode cX3_croquet 8 = .ok (.putfield 48, 3) := by decide +kernel
theorem dX3_croquet_11 : decode cX3_croquet 11 = .ok (.return_, 1) := by decide +kernel
theorem dX3_spendFree_0 : decode cX3_spendFree 0 = .ok (.aload_n 0, 1) := by decide +kernel
theorem dX3_spendFree_1 : decode cX3_spendFree 1 = .ok (.iconst 1, 1) := by decide +kernel
theorem dX3_spendFree_2 : decode cX3_spendFree 2 = .ok (.aload_n 0, 1) := by decide +kernel
theorem dX3_spendFree_3 : decode cX3_spendFree 3 = .ok (.getfield 58, 3) := by decide +kernel
theorem dX3_spendFree_6 : decode cX3_spendFree 6 = .ok (.isub, 1) := by decide +kernel
theorem dX3_spendFree_7 : decode cX3_spendFree 7 = .ok (.putfield 58, 3) := by decide +kernel
theorem dX3_spendFree_10 : decode cX3_spendFree 10 = .ok (.aload_n 0, 1) := by decide +kernel
theorem dX3_spendFree_11 : decode cX3_spendFree 11 = .ok (.getfield 15, 3) := by decide +kernel
theorem dX3_spendFree_14 : decode cX3_spendFree 14 = .ok (.aload_n 0, 1) := by decide +kernel
theorem dX3_spendFree_15 : decode cX3_spendFree 15 = .ok (.getfield 58, 3) := by decide +kernel
theorem dX3_spendFree_18 : decode cX3_spendFree 18 = .ok (.aload_n 0, 1) := by decide +kernel
theorem dX3_spendFree_19 : decode cX3_spendFree 19 = .ok (.getfield 15, 3) := by decide +kernel
theorem dX3_spendFree_22 : decode cX3_spendFree 22 = .ok (.aload_n 0, 1) := by decide +kernel
theorem dX3_spendFree_23 : decode cX3_spendFree 23 = .ok (.getfield 58, 3) := by decide +kernel
theorem dX3_spendFree_26 : decode cX3_spendFree 26 = .ok (.invokestatic 61, 3) := by decide +kernel
theorem dX3_spendFree_29 : decode cX3_spendFree 29 = .ok (.iconst 1, 1) := by decide +kernel
theorem dX3_spendFree_30 : decode cX3_spendFree 30 = .ok (.isub, 1) := by decide +kernel
theorem dX3_spendFree_31 : decode cX3_spendFree 31 = .ok (.invokestatic 24, 3) := by decide +kernel
theorem dX3_spendFree_34 : decode cX3_spendFree 34 = .ok (.return_, 1) := by decide +kernel
theorem dX3_endTurn_0 : decode cX3_endTurn 0 = .ok (.aload_n 0, 1) := by decide +kernel
theorem dX3_endTurn_1 : decode cX3_endTurn 1 = .ok (.getfield 36, 3) := by decide +kernel
theorem dX3_endTurn_4 : decode cX3_endTurn 4 = .ok (.bipush (-4), 2) := by decide +kernel
theorem dX3_endTurn_6 : decode cX3_endTurn 6 = .ok (.if_icmp .eq 23, 3) := by decide +kernel
theorem dX3_endTurn_9 : decode cX3_endTurn 9 = .ok (.aload_n 0, 1) := by decide +kernel
theorem dX3_endTurn_10 : decode cX3_endTurn 10 = .ok (.getfield 36, 3) := by decide +kernel
theorem dX3_endTurn_13 : decode cX3_endTurn 13 = .ok (.istore_n 1, 1) := by decide +kernel
theorem dX3_endTurn_14 : decode cX3_endTurn 14 = .ok (.aload_n 0, 1) := by decide +kernel
theorem dX3_endTurn_15 : decode cX3_endTurn 15 = .ok (.iconst 1, 1) := by decide +kernel
theorem dX3_endTurn_16 : decode cX3_endTurn 16 = .ok (.aload_n 0, 1) := by decide +kernel
theorem dX3_endTurn_17 : decode cX3_endTurn 17 = .ok (.getfield 58, 3) := by decide +kernel
theorem dX3_endTurn_20 : decode cX3_endTurn 20 = .ok (.isub, 1) := by decide +kernel
theorem dX3_endTurn_21 : decode cX3_endTurn 21 = .ok (.invokevirtual 28, 3) := by decide +kernel
theorem dX3_endTurn_24 : decode cX3_endTurn 24 = .ok (.aload_n 0, 1) := by decide +kernel
theorem dX3_endTurn_25 : decode cX3_endTurn 25 = .ok (.iload_n 1, 1) := by decide +kernel
theorem dX3_endTurn_26 : decode cX3_endTurn 26 = .ok (.putfield 55, 3) := by decide +kernel
theorem dX3_endTurn_29 : decode cX3_endTurn 29 = .ok (.return_, 1) := by decide +kernel
theorem dX3_stopFor_0 : decode cX3_stopFor 0 = .ok (.aload_n 0, 1) := by decide +kernel
theorem dX3_stopFor_1 : decode cX3_stopFor 1 = .ok (.iload_n 1, 1) := by decide +kernel
theorem dX3_stopFor_2 : decode cX3_stopFor 2 = .ok (.putfield 58, 3) := by decide +kernel
theorem dX3_stopFor_5 : decode cX3_stopFor 5 = .ok (.aload_n 0, 1) := by decide +kernel
theorem dX3_stopFor_6 : decode cX3_stopFor 6 = .ok (.bipush (-4), 2) := by decide +kernel
theorem dX3_stopFor_8 : decode cX3_stopFor 8 = .ok (.putfield 36, 3) := by decide +kernel
theorem dX3_stopFor_11 : decode cX3_stopFor 11 = .ok (.aload_n 0, 1) := by decide +kernel
theorem dX3_stopFor_12 : decode cX3_stopFor 12 = .ok (.iconst 0, 1) := by decide +kernel
theorem dX3_stopFor_13 : decode cX3_stopFor 13 = .ok (.putfield 83, 3) := by decide +kernel
theorem dX3_stopFor_16 : decode cX3_stopFor 16 = .ok (.aload_n 0, 1) := by decide +kernel
theorem dX3_stopFor_17 : decode cX3_stopFor 17 = .ok (.iconst 0, 1) := by decide +kernel
theorem dX3_stopFor_18 : decode cX3_stopFor 18 = .ok (.putfield 65, 3) := by decide +kernel
theorem dX3_stopFor_21 : decode cX3_stopFor 21 = .ok (.aload_n 0, 1) := by decide +kernel
theorem dX3_stopFor_22 : decode cX3_stopFor 22 = .ok (.bipush (-4), 2) := by decide +kernel
theorem dX3_stopFor_24 : decode cX3_stopFor 24 = .ok (.putfield 48, 3) := by decide +kernel
theorem dX3_stopFor_27 : decode cX3_stopFor 27 = .ok (.aload_n 0, 1) := by decide +kernel
theorem dX3_stopFor_28 : decode cX3_stopFor 28 = .ok (.bipush (-4), 2) := by decide +kernel
theorem dX3_stopFor_30 : decode cX3_stopFor 30 = .ok (.putfield 55, 3) := by decide +kernel
theorem dX3_stopFor_33 : decode cX3_stopFor 33 = .ok (.return_, 1) := by decide +kernel
theorem dX3_isOut_0 : decode cX3_isOut 0 = .ok (.aload_n 0, 1) := by decide +kernel
theorem dX3_isOut_1 : decode cX3_isOut 1 = .ok (.getfield 9, 3) := by decide +kernel
theorem dX3_isOut_4 : decode cX3_isOut 4 = .ok (.iload_n 1, 1) := by decide +kernel
theorem dX3_isOut_5 : decode cX3_isOut 5 = .ok (.invokestatic 61, 3) := by decide +kernel
theorem dX3_isOut_8 : decode cX3_isOut 8 = .ok (.bipush 7, 2) := by decide +kernel
theorem dX3_isOut_10 : decode cX3_isOut 10 = .ok (.if_icmp .ne 7, 3) := by decide +kernel
theorem dX3_isOut_13 : decode cX3_isOut 13 = .ok (.iconst 1, 1) := by decide +kernel
theorem dX3_isOut_14 : decode cX3_isOut 14 = .ok (.goto 4, 3) := by decide +kernel
theorem dX3_isOut_17 : decode cX3_isOut 17 = .ok (.iconst 0, 1) := by decide +kernel
theorem dX3_isOut_18 : decode cX3_isOut 18 = .ok (.ireturn, 1) := by decide +kernel
theorem dX3_winner_0 : decode cX3_winner 0 = .ok (.aload_n 0, 1) := by decide +kernel
theorem dX3_winner_1 : decode cX3_winner 1 = .ok (.iconst 0, 1) := by decide +kernel
theorem dX3_winner_2 : decode cX3_winner 2 = .ok (.invokevirtual 40, 3) := by decide +kernel
theorem dX3_winner_5 : decode cX3_winner 5 = .ok (.ifCond .eq 13, 3) := by decide +kernel
theorem dX3_winner_8 : decode cX3_winner 8 = .ok (.aload_n 0, 1) := by decide +kernel
theorem dX3_winner_9 : decode cX3_winner 9 = .ok (.iconst 2, 1) := by decide +kernel
theorem dX3_winner_10 : decode cX3_winner 10 = .ok (.invokevirtual 40, 3) := by decide +kernel
theorem dX3_winner_13 : decode cX3_winner 13 = .ok (.ifCond .eq 5, 3) := by decide +kernel
theorem dX3_winner_16 : decode cX3_winner 16 = .ok (.iconst 0, 1) := by decide +kernel
theorem dX3_winner_17 : decode cX3_winner 17 = .ok (.ireturn, 1) := by decide +kernel
theorem dX3_winner_18 : decode cX3_winner 18 = .ok (.aload_n 0, 1) := by decide +kernel
theorem dX3_winner_19 : decode cX3_winner 19 = .ok (.iconst 1, 1) := by decide +kernel
theorem dX3_winner_20 : decode cX3_winner 20 = .ok (.invokevirtual 40, 3) := by decide +kernel
theorem dX3_winner_23 : decode cX3_winner 23 = .ok (.ifCond .eq 15, 3) := by decide +kernel
theorem dX3_winner_26 : decode cX3_winner 26 = .ok (.aload_n 0, 1) := by decide +kernel
theorem dX3_winner_27 : decode cX3_winner 27 = .ok (.iconst 3, 1) := by decide +kernel
theorem dX3_winner_28 : decode cX3_winner 28 = .ok (.invokevirtual 40, 3) := by decide +kernel
theorem dX3_winner_31 : decode cX3_winner 31 = .ok (.ifCond .eq 7, 3) := by decide +kernel
theorem dX3_winner_34 : decode cX3_winner 34 = .ok (.iconst 1, 1) := by decide +kernel
theorem dX3_winner_35 : decode cX3_winner 35 = .ok (.goto 5, 3) := by decide +kernel
theorem dX3_winner_38 : decode cX3_winner 38 = .ok (.bipush (-4), 2) := by decide +kernel
theorem dX3_winner_40 : decode cX3_winner 40 = .ok (.ireturn, 1) := by decide +kernel
theorem dX3_side_0 : decode cX3_side 0 = .ok (.aload_n 0, 1) := by decide +kernel
theorem dX3_side_1 : decode cX3_side 1 = .ok (.getfield 58, 3) := by decide +kernel
theorem dX3_side_4 : decode cX3_side 4 = .ok (.ireturn, 1) := by decide +kernel
theorem dX3_inPlay_0 : decode cX3_inPlay 0 = .ok (.aload_n 0, 1) := by decide +kernel
theorem dX3_inPlay_1 : decode cX3_inPlay 1 = .ok (.getfield 36, 3) := by decide +kernel
theorem dX3_inPlay_4 : decode cX3_inPlay 4 = .ok (.ireturn, 1) := by decide +kernel
theorem dX3_tell_0 : decode cX3_tell 0 = .ok (.iload_n 1, 1) := by decide +kernel
theorem dX3_tell_1 : decode cX3_tell 1 = .ok (.tableswitch 111 0 11 #[63, 68, 73, 78, 83, 111, 111, 111, 111, 88, 97, 106], 63) := by decide +kernel
theorem dX3_tell_64 : decode cX3_tell 64 = .ok (.aload_n 0, 1) := by decide +kernel
theorem dX3_tell_65 : decode cX3_tell 65 = .ok (.getfield 58, 3) := by decide +kernel
theorem dX3_tell_68 : decode cX3_tell 68 = .ok (.ireturn, 1) := by decide +kernel
theorem dX3_tell_69 : decode cX3_tell 69 = .ok (.aload_n 0, 1) := by decide +kernel
theorem dX3_tell_70 : decode cX3_tell 70 = .ok (.getfield 36, 3) := by decide +kernel
theorem dX3_tell_73 : decode cX3_tell 73 = .ok (.ireturn, 1) := by decide +kernel
theorem dX3_tell_74 : decode cX3_tell 74 = .ok (.aload_n 0, 1) := by decide +kernel
theorem dX3_tell_75 : decode cX3_tell 75 = .ok (.getfield 83, 3) := by decide +kernel
theorem dX3_tell_78 : decode cX3_tell 78 = .ok (.ireturn, 1) := by decide +kernel
theorem dX3_tell_79 : decode cX3_tell 79 = .ok (.aload_n 0, 1) := by decide +kernel
theorem dX3_tell_80 : decode cX3_tell 80 = .ok (.getfield 65, 3) := by decide +kernel
theorem dX3_tell_83 : decode cX3_tell 83 = .ok (.ireturn, 1) := by decide +kernel
theorem dX3_tell_84 : decode cX3_tell 84 = .ok (.aload_n 0, 1) := by decide +kernel
theorem dX3_tell_85 : decode cX3_tell 85 = .ok (.getfield 48, 3) := by decide +kernel
theorem dX3_tell_88 : decode cX3_tell 88 = .ok (.ireturn, 1) := by decide +kernel
theorem dX3_tell_89 : decode cX3_tell 89 = .ok (.aload_n 0, 1) := by decide +kernel
theorem dX3_tell_90 : decode cX3_tell 90 = .ok (.getfield 15, 3) := by decide +kernel
theorem dX3_tell_93 : decode cX3_tell 93 = .ok (.iconst 0, 1) := by decide +kernel
theorem dX3_tell_94 : decode cX3_tell 94 = .ok (.invokestatic 61, 3) := by decide +kernel
theorem dX3_tell_97 : decode cX3_tell 97 = .ok (.ireturn, 1) := by decide +kernel
theorem dX3_tell_98 : decode cX3_tell 98 = .ok (.aload_n 0, 1) := by decide +kernel
theorem dX3_tell_99 : decode cX3_tell 99 = .ok (.getfield 15, 3) := by decide +kernel
theorem dX3_tell_102 : decode cX3_tell 102 = .ok (.iconst 1, 1) := by decide +kernel
theorem dX3_tell_103 : decode cX3_tell 103 = .ok (.invokestatic 61, 3) := by decide +kernel
theorem dX3_tell_106 : decode cX3_tell 106 = .ok (.ireturn, 1) := by decide +kernel
theorem dX3_tell_107 : decode cX3_tell 107 = .ok (.aload_n 0, 1) := by decide +kernel
theorem dX3_tell_108 : decode cX3_tell 108 = .ok (.invokevirtual 32, 3) := by decide +kernel
theorem dX3_tell_111 : decode cX3_tell 111 = .ok (.ireturn, 1) := by decide +kernel
theorem dX3_tell_112 : decode cX3_tell 112 = .ok (.aload_n 0, 1) := by decide +kernel
theorem dX3_tell_113 : decode cX3_tell 113 = .ok (.getfield 9, 3) := by decide +kernel
theorem dX3_tell_116 : decode cX3_tell 116 = .ok (.iload_n 1, 1) := by decide +kernel
theorem dX3_tell_117 : decode cX3_tell 117 = .ok (.iconst 5, 1) := by decide +kernel
theorem dX3_tell_118 : decode cX3_tell 118 = .ok (.isub, 1) := by decide +kernel
theorem dX3_tell_119 : decode cX3_tell 119 = .ok (.invokestatic 61, 3) := by decide +kernel
theorem dX3_tell_122 : decode cX3_tell 122 = .ok (.ireturn, 1) := by decide +kernel
theorem dX4_init_0 : decode cX4_init 0 = .ok (.aload_n 0, 1) := by decide +kernel
theorem dX4_init_1 : decode cX4_init 1 = .ok (.invokespecial 3, 3) := by decide +kernel
theorem dX4_init_4 : decode cX4_init 4 = .ok (.aload_n 0, 1) := by decide +kernel
theorem dX4_init_5 : decode cX4_init 5 = .ok (.bipush 8, 2) := by decide +kernel
theorem dX4_init_7 : decode cX4_init 7 = .ok (.newarray .int, 2) := by decide +kernel
theorem dX4_init_9 : decode cX4_init 9 = .ok (.putfield 9, 3) := by decide +kernel
theorem dX4_init_12 : decode cX4_init 12 = .ok (.aload_n 0, 1) := by decide +kernel
theorem dX4_init_13 : decode cX4_init 13 = .ok (.getfield 9, 3) := by decide +kernel
theorem dX4_init_16 : decode cX4_init 16 = .ok (.sipush 1000, 3) := by decide +kernel
theorem dX4_init_19 : decode cX4_init 19 = .ok (.invokestatic 15, 3) := by decide +kernel
theorem dX4_init_22 : decode cX4_init 22 = .ok (.return_, 1) := by decide +kernel
theorem dX4_put_0 : decode cX4_put 0 = .ok (.aload_n 0, 1) := by decide +kernel
theorem dX4_put_1 : decode cX4_put 1 = .ok (.getfield 9, 3) := by decide +kernel
theorem dX4_put_4 : decode cX4_put 4 = .ok (.iload_n 1, 1) := by decide +kernel
theorem dX4_put_5 : decode cX4_put 5 = .ok (.invokestatic 21, 3) := by decide +kernel
theorem dX4_put_8 : decode cX4_put 8 = .ok (.istore_n 3, 1) := by decide +kernel
theorem dX4_put_9 : decode cX4_put 9 = .ok (.aload_n 0, 1) := by decide +kernel
theorem dX4_put_10 : decode cX4_put 10 = .ok (.getfield 9, 3) := by decide +kernel
theorem dX4_put_13 : decode cX4_put 13 = .ok (.iload_n 1, 1) := by decide +kernel
theorem dX4_put_14 : decode cX4_put 14 = .ok (.iload_n 2, 1) := by decide +kernel
theorem dX4_put_15 : decode cX4_put 15 = .ok (.invokestatic 25, 3) := by decide +kernel
theorem dX4_put_18 : decode cX4_put 18 = .ok (.iload_n 3, 1) := by decide +kernel
theorem dX4_put_19 : decode cX4_put 19 = .ok (.ireturn, 1) := by decide +kernel
theorem dX4_handicapOf_0 : decode cX4_handicapOf 0 = .ok (.bipush 20, 2) := by decide +kernel
theorem dX4_handicapOf_2 : decode cX4_handicapOf 2 = .ok (.aload_n 0, 1) := by decide +kernel
theorem dX4_handicapOf_3 : decode cX4_handicapOf 3 = .ok (.getfield 9, 3) := by decide +kernel
theorem dX4_handicapOf_6 : decode cX4_handicapOf 6 = .ok (.iload_n 1, 1) := by decide +kernel
theorem dX4_handicapOf_7 : decode cX4_handicapOf 7 = .ok (.invokestatic 21, 3) := by decide +kernel
theorem dX4_handicapOf_10 : decode cX4_handicapOf 10 = .ok (.bipush 100, 2) := by decide +kernel
theorem dX4_handicapOf_12 : decode cX4_handicapOf 12 = .ok (.idiv, 1) := by decide +kernel
theorem dX4_handicapOf_13 : decode cX4_handicapOf 13 = .ok (.isub, 1) := by decide +kernel
theorem dX4_handicapOf_14 : decode cX4_handicapOf 14 = .ok (.ireturn, 1) := by decide +kernel
theorem dX4_freeTurnsOfOther_0 : decode cX4_freeTurnsOfOther 0 = .ok (.aload_n 0, 1) := by decide +kernel
theorem dX4_freeTurnsOfOther_1 : decode cX4_freeTurnsOfOther 1 = .ok (.iload_n 2, 1) := by decide +kernel
theorem dX4_freeTurnsOfOther_2 : decode cX4_freeTurnsOfOther 2 = .ok (.invokevirtual 29, 3) := by decide +kernel
theorem dX4_freeTurnsOfOther_5 : decode cX4_freeTurnsOfOther 5 = .ok (.aload_n 0, 1) := by decide +kernel
theorem dX4_freeTurnsOfOther_6 : decode cX4_freeTurnsOfOther 6 = .ok (.iload_n 1, 1) := by decide +kernel
theorem dX4_freeTurnsOfOther_7 : decode cX4_freeTurnsOfOther 7 = .ok (.invokevirtual 29, 3) := by decide +kernel
theorem dX4_freeTurnsOfOther_10 : decode cX4_freeTurnsOfOther 10 = .ok (.isub, 1) := by decide +kernel
theorem dX4_freeTurnsOfOther_11 : decode cX4_freeTurnsOfOther 11 = .ok (.istore_n 3, 1) := by decide +kernel
theorem dX4_freeTurnsOfOther_12 : decode cX4_freeTurnsOfOther 12 = .ok (.iload_n 3, 1) := by decide +kernel
theorem dX4_freeTurnsOfOther_13 : decode cX4_freeTurnsOfOther 13 = .ok (.invokestatic 33, 3) := by decide +kernel
theorem dX4_freeTurnsOfOther_16 : decode cX4_freeTurnsOfOther 16 = .ok (.iconst 1, 1) := by decide +kernel
theorem dX4_freeTurnsOfOther_17 : decode cX4_freeTurnsOfOther 17 = .ok (.iadd, 1) := by decide +kernel
theorem dX4_freeTurnsOfOther_18 : decode cX4_freeTurnsOfOther 18 = .ok (.iconst 2, 1) := by decide +kernel
theorem dX4_freeTurnsOfOther_19 : decode cX4_freeTurnsOfOther 19 = .ok (.idiv, 1) := by decide +kernel
theorem dX4_freeTurnsOfOther_20 : decode cX4_freeTurnsOfOther 20 = .ok (.istore 4, 2) := by decide +kernel
theorem dX4_freeTurnsOfOther_22 : decode cX4_freeTurnsOfOther 22 = .ok (.iload_n 3, 1) := by decide +kernel
theorem dX4_freeTurnsOfOther_23 : decode cX4_freeTurnsOfOther 23 = .ok (.ifCond .ge 9, 3) := by decide +kernel
theorem dX4_freeTurnsOfOther_26 : decode cX4_freeTurnsOfOther 26 = .ok (.iload 4, 2) := by decide +kernel
theorem dX4_freeTurnsOfOther_28 : decode cX4_freeTurnsOfOther 28 = .ok (.ineg, 1) := by decide +kernel
theorem dX4_freeTurnsOfOther_29 : decode cX4_freeTurnsOfOther 29 = .ok (.goto 5, 3) := by decide +kernel
theorem dX4_freeTurnsOfOther_32 : decode cX4_freeTurnsOfOther 32 = .ok (.iload 4, 2) := by decide +kernel
theorem dX4_freeTurnsOfOther_34 : decode cX4_freeTurnsOfOther 34 = .ok (.ireturn, 1) := by decide +kernel
theorem dX4_move_0 : decode cX4_move 0 = .ok (.aload_n 0, 1) := by decide +kernel
theorem dX4_move_1 : decode cX4_move 1 = .ok (.getfield 9, 3) := by decide +kernel
theorem dX4_move_4 : decode cX4_move 4 = .ok (.iload_n 1, 1) := by decide +kernel
theorem dX4_move_5 : decode cX4_move 5 = .ok (.invokestatic 21, 3) := by decide +kernel
theorem dX4_move_8 : decode cX4_move 8 = .ok (.istore_n 3, 1) := by decide +kernel
theorem dX4_move_9 : decode cX4_move 9 = .ok (.aload_n 0, 1) := by decide +kernel
theorem dX4_move_10 : decode cX4_move 10 = .ok (.getfield 9, 3) := by decide +kernel
theorem dX4_move_13 : decode cX4_move 13 = .ok (.iload_n 2, 1) := by decide +kernel
theorem dX4_move_14 : decode cX4_move 14 = .ok (.invokestatic 21, 3) := by decide +kernel
theorem dX4_move_17 : decode cX4_move 17 = .ok (.istore 4, 2) := by decide +kernel
theorem dX4_move_19 : decode cX4_move 19 = .ok (.bipush 10, 2) := by decide +kernel
theorem dX4_move_21 : decode cX4_move 21 = .ok (.iload_n 3, 1) := by decide +kernel
theorem dX4_move_22 : decode cX4_move 22 = .ok (.iload 4, 2) := by decide +kernel
theorem dX4_move_24 : decode cX4_move 24 = .ok (.isub, 1) := by decide +kernel
theorem dX4_move_25 : decode cX4_move 25 = .ok (.bipush 20, 2) := by decide +kernel
theorem dX4_move_27 : decode cX4_move 27 = .ok (.idiv, 1) := by decide +kernel
theorem dX4_move_28 : decode cX4_move 28 = .ok (.isub, 1) := by decide +kernel
theorem dX4_move_29 : decode cX4_move 29 = .ok (.iconst 1, 1) := by decide +kernel
theorem dX4_move_30 : decode cX4_move 30 = .ok (.bipush 19, 2) := by decide +kernel
theorem dX4_move_32 : decode cX4_move 32 = .ok (.invokestatic 38, 3) := by decide +kernel
theorem dX4_move_35 : decode cX4_move 35 = .ok (.istore 5, 2) := by decide +kernel
theorem dX4_move_37 : decode cX4_move 37 = .ok (.aload_n 0, 1) := by decide +kernel
theorem dX4_move_38 : decode cX4_move 38 = .ok (.getfield 9, 3) := by decide +kernel
theorem dX4_move_41 : decode cX4_move 41 = .ok (.iload_n 1, 1) := by decide +kernel
theorem dX4_move_42 : decode cX4_move 42 = .ok (.iload_n 3, 1) := by decide +kernel
theorem dX4_move_43 : decode cX4_move 43 = .ok (.iload 5, 2) := by decide +kernel
theorem dX4_move_45 : decode cX4_move 45 = .ok (.iadd, 1) := by decide +kernel
theorem dX4_move_46 : decode cX4_move 46 = .ok (.iconst 0, 1) := by decide +kernel
theorem dX4_move_47 : decode cX4_move 47 = .ok (.sipush 2000, 3) := by decide +kernel
theorem dX4_move_50 : decode cX4_move 50 = .ok (.invokestatic 38, 3) := by decide +kernel
theorem dX4_move_53 : decode cX4_move 53 = .ok (.invokestatic 25, 3) := by decide +kernel
theorem dX4_move_56 : decode cX4_move 56 = .ok (.aload_n 0, 1) := by decide +kernel
theorem dX4_move_57 : decode cX4_move 57 = .ok (.getfield 9, 3) := by decide +kernel
theorem dX4_move_60 : decode cX4_move 60 = .ok (.iload_n 2, 1) := by decide +kernel
theorem dX4_move_61 : decode cX4_move 61 = .ok (.iload 4, 2) := by decide +kernel
theorem dX4_move_63 : decode cX4_move 63 = .ok (.iload 5, 2) := by decide +kernel
theorem dX4_move_65 : decode cX4_move 65 = .ok (.isub, 1) := by decide +kernel
theorem dX4_move_66 : decode cX4_move 66 = .ok (.iconst 0, 1) := by decide +kernel
theorem dX4_move_67 : decode cX4_move 67 = .ok (.sipush 2000, 3) := by decide +kernel
theorem dX4_move_70 : decode cX4_move 70 = .ok (.invokestatic 38, 3) := by decide +kernel
theorem dX4_move_73 : decode cX4_move 73 = .ok (.invokestatic 25, 3) := by decide +kernel
theorem dX4_move_76 : decode cX4_move 76 = .ok (.iload 5, 2) := by decide +kernel
theorem dX4_move_78 : decode cX4_move 78 = .ok (.ireturn, 1) := by decide +kernel
theorem dX4_held_0 : decode cX4_held 0 = .ok (.iload_n 1, 1) := by decide +kernel
theorem dX4_held_1 : decode cX4_held 1 = .ok (.iload_n 2, 1) := by decide +kernel
theorem dX4_held_2 : decode cX4_held 2 = .ok (.iload_n 0, 1) := by decide +kernel
theorem dX4_held_3 : decode cX4_held 3 = .ok (.invokestatic 42, 3) := by decide +kernel
theorem dX4_held_6 : decode cX4_held 6 = .ok (.invokestatic 46, 3) := by decide +kernel
theorem dX4_held_9 : decode cX4_held 9 = .ok (.ireturn, 1) := by decide +kernel
theorem dX5_init_0 : decode cX5_init 0 = .ok (.aload_n 0, 1) := by decide +kernel
theorem dX5_init_1 : decode cX5_init 1 = .ok (.invokespecial 3, 3) := by decide +kernel
theorem dX5_init_4 : decode cX5_init 4 = .ok (.aload_n 0, 1) := by decide +kernel
theorem dX5_init_5 : decode cX5_init 5 = .ok (.new 9, 3) := by decide +kernel
theorem dX5_init_8 : decode cX5_init 8 = .ok (.dup, 1) := by decide +kernel
theorem dX5_init_9 : decode cX5_init 9 = .ok (.invokespecial 11, 3) := by decide +kernel
theorem dX5_init_12 : decode cX5_init 12 = .ok (.putfield 12, 3) := by decide +kernel
theorem dX5_init_15 : decode cX5_init 15 = .ok (.aload_n 0, 1) := by decide +kernel
theorem dX5_init_16 : decode cX5_init 16 = .ok (.new 16, 3) := by decide +kernel
theorem dX5_init_19 : decode cX5_init 19 = .ok (.dup, 1) := by decide +kernel
theorem dX5_init_20 : decode cX5_init 20 = .ok (.invokespecial 18, 3) := by decide +kernel
theorem dX5_init_23 : decode cX5_init 23 = .ok (.putfield 19, 3) := by decide +kernel
theorem dX5_init_26 : decode cX5_init 26 = .ok (.aload_n 0, 1) := by decide +kernel
theorem dX5_init_27 : decode cX5_init 27 = .ok (.new 23, 3) := by decide +kernel
theorem dX5_init_30 : decode cX5_init 30 = .ok (.dup, 1) := by decide +kernel
theorem dX5_init_31 : decode cX5_init 31 = .ok (.invokespecial 25, 3) := by decide +kernel
theorem dX5_init_34 : decode cX5_init 34 = .ok (.putfield 26, 3) := by decide +kernel
theorem dX5_init_37 : decode cX5_init 37 = .ok (.aload_n 0, 1) := by decide +kernel
theorem dX5_init_38 : decode cX5_init 38 = .ok (.new 30, 3) := by decide +kernel
theorem dX5_init_41 : decode cX5_init 41 = .ok (.dup, 1) := by decide +kernel
theorem dX5_init_42 : decode cX5_init 42 = .ok (.invokespecial 32, 3) := by decide +kernel
theorem dX5_init_45 : decode cX5_init 45 = .ok (.putfield 33, 3) := by decide +kernel
theorem dX5_init_48 : decode cX5_init 48 = .ok (.return_, 1) := by decide +kernel
theorem dX5_game_0 : decode cX5_game 0 = .ok (.iload_n 1, 1) := by decide +kernel
theorem dX5_game_1 : decode cX5_game 1 = .ok (.invokestatic 37, 3) := by decide +kernel
theorem dX5_game_4 : decode cX5_game 4 = .ok (.ifCond .eq 15, 3) := by decide +kernel
theorem dX5_game_7 : decode cX5_game 7 = .ok (.iload_n 2, 1) := by decide +kernel
theorem dX5_game_8 : decode cX5_game 8 = .ok (.invokestatic 37, 3) := by decide +kernel
theorem dX5_game_11 : decode cX5_game 11 = .ok (.ifCond .eq 8, 3) := by decide +kernel
theorem dX5_game_14 : decode cX5_game 14 = .ok (.iload_n 1, 1) := by decide +kernel
theorem dX5_game_15 : decode cX5_game 15 = .ok (.iload_n 2, 1) := by decide +kernel
theorem dX5_game_16 : decode cX5_game 16 = .ok (.if_icmp .ne 6, 3) := by decide +kernel
theorem dX5_game_19 : decode cX5_game 19 = .ok (.bipush (-101), 2) := by decide +kernel
theorem dX5_game_21 : decode cX5_game 21 = .ok (.ireturn, 1) := by decide +kernel
theorem dX5_game_22 : decode cX5_game 22 = .ok (.aload_n 0, 1) := by decide +kernel
theorem dX5_game_23 : decode cX5_game 23 = .ok (.getfield 26, 3) := by decide +kernel
theorem dX5_game_26 : decode cX5_game 26 = .ok (.iload_n 1, 1) := by decide +kernel
theorem dX5_game_27 : decode cX5_game 27 = .ok (.iload_n 2, 1) := by decide +kernel
theorem dX5_game_28 : decode cX5_game 28 = .ok (.invokevirtual 41, 3) := by decide +kernel
theorem dX5_game_31 : decode cX5_game 31 = .ok (.istore_n 3, 1) := by decide +kernel
theorem dX5_game_32 : decode cX5_game 32 = .ok (.aload_n 0, 1) := by decide +kernel
theorem dX5_game_33 : decode cX5_game 33 = .ok (.getfield 12, 3) := by decide +kernel
theorem dX5_game_36 : decode cX5_game 36 = .ok (.iload_n 1, 1) := by decide +kernel
theorem dX5_game_37 : decode cX5_game 37 = .ok (.iload_n 2, 1) := by decide +kernel
theorem dX5_game_38 : decode cX5_game 38 = .ok (.iconst 0, 1) := by decide +kernel
theorem dX5_game_39 : decode cX5_game 39 = .ok (.iload_n 3, 1) := by decide +kernel
theorem dX5_game_40 : decode cX5_game 40 = .ok (.ineg, 1) := by decide +kernel
theorem dX5_game_41 : decode cX5_game 41 = .ok (.invokestatic 45, 3) := by decide +kernel
theorem dX5_game_44 : decode cX5_game 44 = .ok (.iconst 0, 1) := by decide +kernel
theorem dX5_game_45 : decode cX5_game 45 = .ok (.iload_n 3, 1) := by decide +kernel
theorem dX5_game_46 : decode cX5_game 46 = .ok (.invokestatic 45, 3) := by decide +kernel
theorem dX5_game_49 : decode cX5_game 49 = .ok (.invokevirtual 50, 3) := by decide +kernel
theorem dX5_game_52 : decode cX5_game 52 = .ok (.iload_n 3, 1) := by decide +kernel
theorem dX5_game_53 : decode cX5_game 53 = .ok (.ireturn, 1) := by decide +kernel
theorem dX5_stroke_0 : decode cX5_stroke 0 = .ok (.iload_n 1, 1) := by decide +kernel
theorem dX5_stroke_1 : decode cX5_stroke 1 = .ok (.iconst 0, 1) := by decide +kernel
theorem dX5_stroke_2 : decode cX5_stroke 2 = .ok (.bipush 6, 2) := by decide +kernel
theorem dX5_stroke_4 : decode cX5_stroke 4 = .ok (.invokestatic 54, 3) := by decide +kernel
theorem dX5_stroke_7 : decode cX5_stroke 7 = .ok (.ifCond .ne 5, 3) := by decide +kernel
theorem dX5_stroke_10 : decode cX5_stroke 10 = .ok (.iconst (-1), 1) := by decide +kernel
theorem dX5_stroke_11 : decode cX5_stroke 11 = .ok (.ireturn, 1) := by decide +kernel
theorem dX5_stroke_12 : decode cX5_stroke 12 = .ok (.iload_n 1, 1) := by decide +kernel
theorem dX5_stroke_13 : decode cX5_stroke 13 = .ok (.ifCond .eq 8, 3) := by decide +kernel
theorem dX5_stroke_16 : decode cX5_stroke 16 = .ok (.iload_n 1, 1) := by decide +kernel
theorem dX5_stroke_17 : decode cX5_stroke 17 = .ok (.iconst 3, 1) := by decide +kernel
theorem dX5_stroke_18 : decode cX5_stroke 18 = .ok (.if_icmp .ne 7, 3) := by decide +kernel
theorem dX5_stroke_21 : decode cX5_stroke 21 = .ok (.iconst 1, 1) := by decide +kernel
theorem dX5_stroke_22 : decode cX5_stroke 22 = .ok (.goto 4, 3) := by decide +kernel
theorem dX5_stroke_25 : decode cX5_stroke 25 = .ok (.iconst 0, 1) := by decide +kernel
theorem dX5_stroke_26 : decode cX5_stroke 26 = .ok (.istore_n 3, 1) := by decide +kernel
theorem dX5_stroke_27 : decode cX5_stroke 27 = .ok (.iload_n 3, 1) := by decide +kernel
theorem dX5_stroke_28 : decode cX5_stroke 28 = .ok (.ifCond .eq 14, 3) := by decide +kernel
theorem dX5_stroke_31 : decode cX5_stroke 31 = .ok (.iload_n 2, 1) := by decide +kernel
theorem dX5_stroke_32 : decode cX5_stroke 32 = .ok (.iconst 0, 1) := by decide +kernel
theorem dX5_stroke_33 : decode cX5_stroke 33 = .ok (.iconst 3, 1) := by decide +kernel
theorem dX5_stroke_34 : decode cX5_stroke 34 = .ok (.invokestatic 54, 3) := by decide +kernel
theorem dX5_stroke_37 : decode cX5_stroke 37 = .ok (.ifCond .ne 5, 3) := by decide +kernel
theorem dX5_stroke_40 : decode cX5_stroke 40 = .ok (.iconst (-1), 1) := by decide +kernel
theorem dX5_stroke_41 : decode cX5_stroke 41 = .ok (.ireturn, 1) := by decide +kernel
theorem dX5_stroke_42 : decode cX5_stroke 42 = .ok (.aload_n 0, 1) := by decide +kernel
theorem dX5_stroke_43 : decode cX5_stroke 43 = .ok (.getfield 12, 3) := by decide +kernel
theorem dX5_stroke_46 : decode cX5_stroke 46 = .ok (.iload_n 1, 1) := by decide +kernel
theorem dX5_stroke_47 : decode cX5_stroke 47 = .ok (.iload_n 3, 1) := by decide +kernel
theorem dX5_stroke_48 : decode cX5_stroke 48 = .ok (.ifCond .eq 7, 3) := by decide +kernel
theorem dX5_stroke_51 : decode cX5_stroke 51 = .ok (.iload_n 2, 1) := by decide +kernel
theorem dX5_stroke_52 : decode cX5_stroke 52 = .ok (.goto 4, 3) := by decide +kernel
theorem dX5_stroke_55 : decode cX5_stroke 55 = .ok (.iconst 0, 1) := by decide +kernel
theorem dX5_stroke_56 : decode cX5_stroke 56 = .ok (.invokevirtual 58, 3) := by decide +kernel
theorem dX5_stroke_59 : decode cX5_stroke 59 = .ok (.ireturn, 1) := by decide +kernel
theorem dX5_told_0 : decode cX5_told 0 = .ok (.iload_n 1, 1) := by decide +kernel
theorem dX5_told_1 : decode cX5_told 1 = .ok (.ifCond .lt 12, 3) := by decide +kernel
theorem dX5_told_4 : decode cX5_told 4 = .ok (.iload_n 2, 1) := by decide +kernel
theorem dX5_told_5 : decode cX5_told 5 = .ok (.iconst 0, 1) := by decide +kernel
theorem dX5_told_6 : decode cX5_told 6 = .ok (.iconst 3, 1) := by decide +kernel
theorem dX5_told_7 : decode cX5_told 7 = .ok (.invokestatic 54, 3) := by decide +kernel
theorem dX5_told_10 : decode cX5_told 10 = .ok (.ifCond .ne 7, 3) := by decide +kernel
theorem dX5_told_13 : decode cX5_told 13 = .ok (.iconst (-1), 1) := by decide +kernel
theorem dX5_told_14 : decode cX5_told 14 = .ok (.goto 12, 3) := by decide +kernel
theorem dX5_told_17 : decode cX5_told 17 = .ok (.aload_n 0, 1) := by decide +kernel
theorem dX5_told_18 : decode cX5_told 18 = .ok (.getfield 12, 3) := by decide +kernel
theorem dX5_told_21 : decode cX5_told 21 = .ok (.iload_n 1, 1) := by decide +kernel
theorem dX5_told_22 : decode cX5_told 22 = .ok (.iload_n 2, 1) := by decide +kernel
theorem dX5_told_23 : decode cX5_told 23 = .ok (.invokevirtual 61, 3) := by decide +kernel
theorem dX5_told_26 : decode cX5_told 26 = .ok (.ireturn, 1) := by decide +kernel
theorem dX5_hit_0 : decode cX5_hit 0 = .ok (.aload_n 0, 1) := by decide +kernel
theorem dX5_hit_1 : decode cX5_hit 1 = .ok (.getfield 12, 3) := by decide +kernel
theorem dX5_hit_4 : decode cX5_hit 4 = .ok (.iload_n 1, 1) := by decide +kernel
theorem dX5_hit_5 : decode cX5_hit 5 = .ok (.invokevirtual 64, 3) := by decide +kernel
theorem dX5_hit_8 : decode cX5_hit 8 = .ok (.ireturn, 1) := by decide +kernel
theorem dX5_state_0 : decode cX5_state 0 = .ok (.iload_n 2, 1) := by decide +kernel
theorem dX5_state_1 : decode cX5_state 1 = .ok (.iconst 0, 1) := by decide +kernel
theorem dX5_state_2 : decode cX5_state 2 = .ok (.bipush 11, 2) := by decide +kernel
theorem dX5_state_4 : decode cX5_state 4 = .ok (.invokestatic 54, 3) := by decide +kernel
theorem dX5_state_7 : decode cX5_state 7 = .ok (.ifCond .eq 15, 3) := by decide +kernel
theorem dX5_state_10 : decode cX5_state 10 = .ok (.aload_n 0, 1) := by decide +kernel
theorem dX5_state_11 : decode cX5_state 11 = .ok (.getfield 12, 3) := by decide +kernel
theorem dX5_state_14 : decode cX5_state 14 = .ok (.iload_n 1, 1) := by decide +kernel
theorem dX5_state_15 : decode cX5_state 15 = .ok (.iload_n 2, 1) := by decide +kernel
theorem dX5_state_16 : decode cX5_state 16 = .ok (.invokevirtual 68, 3) := by decide +kernel
theorem dX5_state_19 : decode cX5_state 19 = .ok (.goto 4, 3) := by decide +kernel
theorem dX5_state_22 : decode cX5_state 22 = .ok (.iconst (-1), 1) := by decide +kernel
theorem dX5_state_23 : decode cX5_state 23 = .ok (.ireturn, 1) := by decide +kernel
theorem dX5_found_0 : decode cX5_found 0 = .ok (.aload_n 0, 1) := by decide +kernel
theorem dX5_found_1 : decode cX5_found 1 = .ok (.getfield 12, 3) := by decide +kernel
theorem dX5_found_4 : decode cX5_found 4 = .ok (.iload_n 1, 1) := by decide +kernel
theorem dX5_found_5 : decode cX5_found 5 = .ok (.aload_n 0, 1) := by decide +kernel
theorem dX5_found_6 : decode cX5_found 6 = .ok (.getfield 19, 3) := by decide +kernel
theorem dX5_found_9 : decode cX5_found 9 = .ok (.invokevirtual 71, 3) := by decide +kernel
theorem dX5_found_12 : decode cX5_found 12 = .ok (.ireturn, 1) := by decide +kernel
theorem dX5_type_0 : decode cX5_type 0 = .ok (.aload_n 0, 1) := by decide +kernel
theorem dX5_type_1 : decode cX5_type 1 = .ok (.getfield 19, 3) := by decide +kernel
theorem dX5_type_4 : decode cX5_type 4 = .ok (.lload_n 1, 1) := by decide +kernel
theorem dX5_type_5 : decode cX5_type 5 = .ok (.iload_n 3, 1) := by decide +kernel
theorem dX5_type_6 : decode cX5_type 6 = .ok (.invokevirtual 75, 3) := by decide +kernel
theorem dX5_type_9 : decode cX5_type 9 = .ok (.ireturn, 1) := by decide +kernel
theorem dX5_laws_0 : decode cX5_laws 0 = .ok (.aload_n 0, 1) := by decide +kernel
theorem dX5_laws_1 : decode cX5_laws 1 = .ok (.getfield 19, 3) := by decide +kernel
theorem dX5_laws_4 : decode cX5_laws 4 = .ok (.invokevirtual 79, 3) := by decide +kernel
theorem dX5_laws_7 : decode cX5_laws 7 = .ok (.ireturn, 1) := by decide +kernel
theorem dX5_count_0 : decode cX5_count 0 = .ok (.iload_n 1, 1) := by decide +kernel
theorem dX5_count_1 : decode cX5_count 1 = .ok (.iconst 0, 1) := by decide +kernel
theorem dX5_count_2 : decode cX5_count 2 = .ok (.iconst 2, 1) := by decide +kernel
theorem dX5_count_3 : decode cX5_count 3 = .ok (.invokestatic 54, 3) := by decide +kernel
theorem dX5_count_6 : decode cX5_count 6 = .ok (.ifCond .eq 14, 3) := by decide +kernel
theorem dX5_count_9 : decode cX5_count 9 = .ok (.aload_n 0, 1) := by decide +kernel
theorem dX5_count_10 : decode cX5_count 10 = .ok (.getfield 12, 3) := by decide +kernel
theorem dX5_count_13 : decode cX5_count 13 = .ok (.iload_n 1, 1) := by decide +kernel
theorem dX5_count_14 : decode cX5_count 14 = .ok (.invokevirtual 83, 3) := by decide +kernel
theorem dX5_count_17 : decode cX5_count 17 = .ok (.goto 4, 3) := by decide +kernel
theorem dX5_count_20 : decode cX5_count 20 = .ok (.iconst (-1), 1) := by decide +kernel
theorem dX5_count_21 : decode cX5_count 21 = .ok (.ireturn, 1) := by decide +kernel
theorem dX5_index_0 : decode cX5_index 0 = .ok (.iload_n 1, 1) := by decide +kernel
theorem dX5_index_1 : decode cX5_index 1 = .ok (.invokestatic 37, 3) := by decide +kernel
theorem dX5_index_4 : decode cX5_index 4 = .ok (.ifCond .eq 26, 3) := by decide +kernel
theorem dX5_index_7 : decode cX5_index 7 = .ok (.iload_n 2, 1) := by decide +kernel
theorem dX5_index_8 : decode cX5_index 8 = .ok (.iconst 0, 1) := by decide +kernel
theorem dX5_index_9 : decode cX5_index 9 = .ok (.sipush 2000, 3) := by decide +kernel
theorem dX5_index_12 : decode cX5_index 12 = .ok (.invokestatic 54, 3) := by decide +kernel
theorem dX5_index_15 : decode cX5_index 15 = .ok (.ifCond .eq 15, 3) := by decide +kernel
theorem dX5_index_18 : decode cX5_index 18 = .ok (.aload_n 0, 1) := by decide +kernel
theorem dX5_index_19 : decode cX5_index 19 = .ok (.getfield 26, 3) := by decide +kernel
theorem dX5_index_22 : decode cX5_index 22 = .ok (.iload_n 1, 1) := by decide +kernel
theorem dX5_index_23 : decode cX5_index 23 = .ok (.iload_n 2, 1) := by decide +kernel
theorem dX5_index_24 : decode cX5_index 24 = .ok (.invokevirtual 86, 3) := by decide +kernel
theorem dX5_index_27 : decode cX5_index 27 = .ok (.goto 4, 3) := by decide +kernel
theorem dX5_index_30 : decode cX5_index 30 = .ok (.iconst (-1), 1) := by decide +kernel
theorem dX5_index_31 : decode cX5_index 31 = .ok (.ireturn, 1) := by decide +kernel
theorem dX5_handicap_0 : decode cX5_handicap 0 = .ok (.iload_n 1, 1) := by decide +kernel
theorem dX5_handicap_1 : decode cX5_handicap 1 = .ok (.invokestatic 37, 3) := by decide +kernel
theorem dX5_handicap_4 : decode cX5_handicap 4 = .ok (.ifCond .eq 14, 3) := by decide +kernel
theorem dX5_handicap_7 : decode cX5_handicap 7 = .ok (.aload_n 0, 1) := by decide +kernel
theorem dX5_handicap_8 : decode cX5_handicap 8 = .ok (.getfield 26, 3) := by decide +kernel
theorem dX5_handicap_11 : decode cX5_handicap 11 = .ok (.iload_n 1, 1) := by decide +kernel
theorem dX5_handicap_12 : decode cX5_handicap 12 = .ok (.invokevirtual 89, 3) := by decide +kernel
theorem dX5_handicap_15 : decode cX5_handicap 15 = .ok (.goto 5, 3) := by decide +kernel
theorem dX5_handicap_18 : decode cX5_handicap 18 = .ok (.bipush (-101), 2) := by decide +kernel
theorem dX5_handicap_20 : decode cX5_handicap 20 = .ok (.ireturn, 1) := by decide +kernel
theorem dX5_settle_0 : decode cX5_settle 0 = .ok (.aload_n 0, 1) := by decide +kernel
theorem dX5_settle_1 : decode cX5_settle 1 = .ok (.getfield 12, 3) := by decide +kernel
theorem dX5_settle_4 : decode cX5_settle 4 = .ok (.invokevirtual 92, 3) := by decide +kernel
theorem dX5_settle_7 : decode cX5_settle 7 = .ok (.istore_n 1, 1) := by decide +kernel
theorem dX5_settle_8 : decode cX5_settle 8 = .ok (.iload_n 1, 1) := by decide +kernel
theorem dX5_settle_9 : decode cX5_settle 9 = .ok (.bipush (-4), 2) := by decide +kernel
theorem dX5_settle_11 : decode cX5_settle 11 = .ok (.if_icmp .ne 6, 3) := by decide +kernel
theorem dX5_settle_14 : decode cX5_settle 14 = .ok (.bipush (-2), 2) := by decide +kernel
theorem dX5_settle_16 : decode cX5_settle 16 = .ok (.ireturn, 1) := by decide +kernel
theorem dX5_settle_17 : decode cX5_settle 17 = .ok (.aload_n 0, 1) := by decide +kernel
theorem dX5_settle_18 : decode cX5_settle 18 = .ok (.getfield 26, 3) := by decide +kernel
theorem dX5_settle_21 : decode cX5_settle 21 = .ok (.aload_n 0, 1) := by decide +kernel
theorem dX5_settle_22 : decode cX5_settle 22 = .ok (.getfield 12, 3) := by decide +kernel
theorem dX5_settle_25 : decode cX5_settle 25 = .ok (.iload_n 1, 1) := by decide +kernel
theorem dX5_settle_26 : decode cX5_settle 26 = .ok (.invokevirtual 95, 3) := by decide +kernel
theorem dX5_settle_29 : decode cX5_settle 29 = .ok (.aload_n 0, 1) := by decide +kernel
theorem dX5_settle_30 : decode cX5_settle 30 = .ok (.getfield 12, 3) := by decide +kernel
theorem dX5_settle_33 : decode cX5_settle 33 = .ok (.iconst 1, 1) := by decide +kernel
theorem dX5_settle_34 : decode cX5_settle 34 = .ok (.iload_n 1, 1) := by decide +kernel
theorem dX5_settle_35 : decode cX5_settle 35 = .ok (.isub, 1) := by decide +kernel
theorem dX5_settle_36 : decode cX5_settle 36 = .ok (.invokevirtual 95, 3) := by decide +kernel
theorem dX5_settle_39 : decode cX5_settle 39 = .ok (.invokevirtual 98, 3) := by decide +kernel
theorem dX5_settle_42 : decode cX5_settle 42 = .ok (.istore_n 2, 1) := by decide +kernel
theorem dX5_settle_43 : decode cX5_settle 43 = .ok (.aload_n 0, 1) := by decide +kernel
theorem dX5_settle_44 : decode cX5_settle 44 = .ok (.getfield 12, 3) := by decide +kernel
theorem dX5_settle_47 : decode cX5_settle 47 = .ok (.invokevirtual 101, 3) := by decide +kernel
theorem dX5_settle_50 : decode cX5_settle 50 = .ok (.iload_n 2, 1) := by decide +kernel
theorem dX5_settle_51 : decode cX5_settle 51 = .ok (.ireturn, 1) := by decide +kernel
theorem dX5_match_0 : decode cX5_match 0 = .ok (.iload_n 1, 1) := by decide +kernel
theorem dX5_match_1 : decode cX5_match 1 = .ok (.invokestatic 104, 3) := by decide +kernel
theorem dX5_match_4 : decode cX5_match 4 = .ok (.ifCond .eq 24, 3) := by decide +kernel
theorem dX5_match_7 : decode cX5_match 7 = .ok (.iload_n 2, 1) := by decide +kernel
theorem dX5_match_8 : decode cX5_match 8 = .ok (.iconst 0, 1) := by decide +kernel
theorem dX5_match_9 : decode cX5_match 9 = .ok (.iconst 2, 1) := by decide +kernel
theorem dX5_match_10 : decode cX5_match 10 = .ok (.invokestatic 54, 3) := by decide +kernel
theorem dX5_match_13 : decode cX5_match 13 = .ok (.ifCond .eq 15, 3) := by decide +kernel
theorem dX5_match_16 : decode cX5_match 16 = .ok (.aload_n 0, 1) := by decide +kernel
theorem dX5_match_17 : decode cX5_match 17 = .ok (.getfield 33, 3) := by decide +kernel
theorem dX5_match_20 : decode cX5_match 20 = .ok (.iload_n 1, 1) := by decide +kernel
theorem dX5_match_21 : decode cX5_match 21 = .ok (.iload_n 2, 1) := by decide +kernel
theorem dX5_match_22 : decode cX5_match 22 = .ok (.invokevirtual 107, 3) := by decide +kernel
theorem dX5_match_25 : decode cX5_match 25 = .ok (.goto 4, 3) := by decide +kernel
theorem dX5_match_28 : decode cX5_match 28 = .ok (.iconst (-1), 1) := by decide +kernel
theorem dX5_match_29 : decode cX5_match 29 = .ok (.ireturn, 1) := by decide +kernel
theorem dX5_win_0 : decode cX5_win 0 = .ok (.iload_n 1, 1) := by decide +kernel
theorem dX5_win_1 : decode cX5_win 1 = .ok (.invokestatic 104, 3) := by decide +kernel
theorem dX5_win_4 : decode cX5_win 4 = .ok (.ifCond .eq 22, 3) := by decide +kernel
theorem dX5_win_7 : decode cX5_win 7 = .ok (.iload_n 2, 1) := by decide +kernel
theorem dX5_win_8 : decode cX5_win 8 = .ok (.invokestatic 37, 3) := by decide +kernel
theorem dX5_win_11 : decode cX5_win 11 = .ok (.ifCond .eq 15, 3) := by decide +kernel
theorem dX5_win_14 : decode cX5_win 14 = .ok (.aload_n 0, 1) := by decide +kernel
theorem dX5_win_15 : decode cX5_win 15 = .ok (.getfield 33, 3) := by decide +kernel
theorem dX5_win_18 : decode cX5_win 18 = .ok (.iload_n 1, 1) := by decide +kernel
theorem dX5_win_19 : decode cX5_win 19 = .ok (.iload_n 2, 1) := by decide +kernel
theorem dX5_win_20 : decode cX5_win 20 = .ok (.invokevirtual 110, 3) := by decide +kernel
theorem dX5_win_23 : decode cX5_win 23 = .ok (.goto 4, 3) := by decide +kernel
theorem dX5_win_26 : decode cX5_win 26 = .ok (.iconst (-1), 1) := by decide +kernel
theorem dX5_win_27 : decode cX5_win 27 = .ok (.ireturn, 1) := by decide +kernel
theorem dX5_unwin_0 : decode cX5_unwin 0 = .ok (.iload_n 1, 1) := by decide +kernel
theorem dX5_unwin_1 : decode cX5_unwin 1 = .ok (.invokestatic 104, 3) := by decide +kernel
theorem dX5_unwin_4 : decode cX5_unwin 4 = .ok (.ifCond .eq 14, 3) := by decide +kernel
theorem dX5_unwin_7 : decode cX5_unwin 7 = .ok (.aload_n 0, 1) := by decide +kernel
theorem dX5_unwin_8 : decode cX5_unwin 8 = .ok (.getfield 33, 3) := by decide +kernel
theorem dX5_unwin_11 : decode cX5_unwin 11 = .ok (.iload_n 1, 1) := by decide +kernel
theorem dX5_unwin_12 : decode cX5_unwin 12 = .ok (.invokevirtual 113, 3) := by decide +kernel
theorem dX5_unwin_15 : decode cX5_unwin 15 = .ok (.goto 4, 3) := by decide +kernel
theorem dX5_unwin_18 : decode cX5_unwin 18 = .ok (.iconst (-1), 1) := by decide +kernel
theorem dX5_unwin_19 : decode cX5_unwin 19 = .ok (.ireturn, 1) := by decide +kernel
theorem dX5_champion_0 : decode cX5_champion 0 = .ok (.aload_n 0, 1) := by decide +kernel
theorem dX5_champion_1 : decode cX5_champion 1 = .ok (.getfield 33, 3) := by decide +kernel
theorem dX5_champion_4 : decode cX5_champion 4 = .ok (.invokevirtual 116, 3) := by decide +kernel
theorem dX5_champion_7 : decode cX5_champion 7 = .ok (.ireturn, 1) := by decide +kernel
theorem dX5_lawns_0 : decode cX5_lawns 0 = .ok (.iload_n 1, 1) := by decide +kernel
theorem dX5_lawns_1 : decode cX5_lawns 1 = .ok (.iconst 1, 1) := by decide +kernel
theorem dX5_lawns_2 : decode cX5_lawns 2 = .ok (.iconst 4, 1) := by decide +kernel
theorem dX5_lawns_3 : decode cX5_lawns 3 = .ok (.invokestatic 54, 3) := by decide +kernel
theorem dX5_lawns_6 : decode cX5_lawns 6 = .ok (.ifCond .eq 14, 3) := by decide +kernel
theorem dX5_lawns_9 : decode cX5_lawns 9 = .ok (.aload_n 0, 1) := by decide +kernel
theorem dX5_lawns_10 : decode cX5_lawns 10 = .ok (.getfield 33, 3) := by decide +kernel
theorem dX5_lawns_13 : decode cX5_lawns 13 = .ok (.iload_n 1, 1) := by decide +kernel
theorem dX5_lawns_14 : decode cX5_lawns 14 = .ok (.invokevirtual 119, 3) := by decide +kernel
theorem dX5_lawns_17 : decode cX5_lawns 17 = .ok (.goto 4, 3) := by decide +kernel
theorem dX5_lawns_20 : decode cX5_lawns 20 = .ok (.iconst (-1), 1) := by decide +kernel
theorem dX5_lawns_21 : decode cX5_lawns 21 = .ok (.ireturn, 1) := by decide +kernel
theorem dX5_lay_0 : decode cX5_lay 0 = .ok (.iload_n 1, 1) := by decide +kernel
theorem dX5_lay_1 : decode cX5_lay 1 = .ok (.invokestatic 104, 3) := by decide +kernel
theorem dX5_lay_4 : decode cX5_lay 4 = .ok (.ifCond .eq 14, 3) := by decide +kernel
theorem dX5_lay_7 : decode cX5_lay 7 = .ok (.aload_n 0, 1) := by decide +kernel
theorem dX5_lay_8 : decode cX5_lay 8 = .ok (.getfield 33, 3) := by decide +kernel
theorem dX5_lay_11 : decode cX5_lay 11 = .ok (.iload_n 1, 1) := by decide +kernel
theorem dX5_lay_12 : decode cX5_lay 12 = .ok (.invokevirtual 122, 3) := by decide +kernel
theorem dX5_lay_15 : decode cX5_lay 15 = .ok (.goto 4, 3) := by decide +kernel
theorem dX5_lay_18 : decode cX5_lay 18 = .ok (.iconst (-1), 1) := by decide +kernel
theorem dX5_lay_19 : decode cX5_lay 19 = .ok (.ireturn, 1) := by decide +kernel
theorem dX5_hour_0 : decode cX5_hour 0 = .ok (.iload_n 1, 1) := by decide +kernel
theorem dX5_hour_1 : decode cX5_hour 1 = .ok (.invokestatic 104, 3) := by decide +kernel
theorem dX5_hour_4 : decode cX5_hour 4 = .ok (.ifCond .eq 14, 3) := by decide +kernel
theorem dX5_hour_7 : decode cX5_hour 7 = .ok (.aload_n 0, 1) := by decide +kernel
theorem dX5_hour_8 : decode cX5_hour 8 = .ok (.getfield 33, 3) := by decide +kernel
theorem dX5_hour_11 : decode cX5_hour 11 = .ok (.iload_n 1, 1) := by decide +kernel
theorem dX5_hour_12 : decode cX5_hour 12 = .ok (.invokevirtual 125, 3) := by decide +kernel
theorem dX5_hour_15 : decode cX5_hour 15 = .ok (.goto 4, 3) := by decide +kernel
theorem dX5_hour_18 : decode cX5_hour 18 = .ok (.iconst (-1), 1) := by decide +kernel
theorem dX5_hour_19 : decode cX5_hour 19 = .ok (.ireturn, 1) := by decide +kernel
theorem dX5_clear_0 : decode cX5_clear 0 = .ok (.aload_n 0, 1) := by decide +kernel
theorem dX5_clear_1 : decode cX5_clear 1 = .ok (.getfield 33, 3) := by decide +kernel
theorem dX5_clear_4 : decode cX5_clear 4 = .ok (.invokevirtual 128, 3) := by decide +kernel
theorem dX5_clear_7 : decode cX5_clear 7 = .ok (.ireturn, 1) := by decide +kernel
theorem dX5_within_0 : decode cX5_within 0 = .ok (.iload_n 0, 1) := by decide +kernel
theorem dX5_within_1 : decode cX5_within 1 = .ok (.iload_n 1, 1) := by decide +kernel
theorem dX5_within_2 : decode cX5_within 2 = .ok (.if_icmp .lt 12, 3) := by decide +kernel
theorem dX5_within_5 : decode cX5_within 5 = .ok (.iload_n 0, 1) := by decide +kernel
theorem dX5_within_6 : decode cX5_within 6 = .ok (.iload_n 2, 1) := by decide +kernel
theorem dX5_within_7 : decode cX5_within 7 = .ok (.if_icmp .gt 7, 3) := by decide +kernel
theorem dX5_within_10 : decode cX5_within 10 = .ok (.iconst 1, 1) := by decide +kernel
theorem dX5_within_11 : decode cX5_within 11 = .ok (.goto 4, 3) := by decide +kernel
theorem dX5_within_14 : decode cX5_within 14 = .ok (.iconst 0, 1) := by decide +kernel
theorem dX5_within_15 : decode cX5_within 15 = .ok (.ireturn, 1) := by decide +kernel
theorem dX5_isPlayer_0 : decode cX5_isPlayer 0 = .ok (.iload_n 0, 1) := by decide +kernel
theorem dX5_isPlayer_1 : decode cX5_isPlayer 1 = .ok (.iconst 0, 1) := by decide +kernel
theorem dX5_isPlayer_2 : decode cX5_isPlayer 2 = .ok (.bipush 7, 2) := by decide +kernel
theorem dX5_isPlayer_4 : decode cX5_isPlayer 4 = .ok (.invokestatic 54, 3) := by decide +kernel
theorem dX5_isPlayer_7 : decode cX5_isPlayer 7 = .ok (.ireturn, 1) := by decide +kernel
theorem dX5_at_0 : decode cX5_at 0 = .ok (.iload_n 1, 1) := by decide +kernel
theorem dX5_at_1 : decode cX5_at 1 = .ok (.ifCond .lt 15, 3) := by decide +kernel
theorem dX5_at_4 : decode cX5_at 4 = .ok (.iload_n 1, 1) := by decide +kernel
theorem dX5_at_5 : decode cX5_at 5 = .ok (.aload_n 0, 1) := by decide +kernel
theorem dX5_at_6 : decode cX5_at 6 = .ok (.arraylength, 1) := by decide +kernel
theorem dX5_at_7 : decode cX5_at 7 = .ok (.if_icmp .ge 9, 3) := by decide +kernel
theorem dX5_at_10 : decode cX5_at 10 = .ok (.aload_n 0, 1) := by decide +kernel
theorem dX5_at_11 : decode cX5_at 11 = .ok (.iload_n 1, 1) := by decide +kernel
theorem dX5_at_12 : decode cX5_at 12 = .ok (.iaload, 1) := by decide +kernel
theorem dX5_at_13 : decode cX5_at 13 = .ok (.goto 5, 3) := by decide +kernel
theorem dX5_at_16 : decode cX5_at 16 = .ok (.bipush (-4), 2) := by decide +kernel
theorem dX5_at_18 : decode cX5_at 18 = .ok (.ireturn, 1) := by decide +kernel
theorem dX5_set_0 : decode cX5_set 0 = .ok (.iload_n 1, 1) := by decide +kernel
theorem dX5_set_1 : decode cX5_set 1 = .ok (.ifCond .lt 13, 3) := by decide +kernel
theorem dX5_set_4 : decode cX5_set 4 = .ok (.iload_n 1, 1) := by decide +kernel
theorem dX5_set_5 : decode cX5_set 5 = .ok (.aload_n 0, 1) := by decide +kernel
theorem dX5_set_6 : decode cX5_set 6 = .ok (.arraylength, 1) := by decide +kernel
theorem dX5_set_7 : decode cX5_set 7 = .ok (.if_icmp .ge 7, 3) := by decide +kernel
theorem dX5_set_10 : decode cX5_set 10 = .ok (.aload_n 0, 1) := by decide +kernel
theorem dX5_set_11 : decode cX5_set 11 = .ok (.iload_n 1, 1) := by decide +kernel
theorem dX5_set_12 : decode cX5_set 12 = .ok (.iload_n 2, 1) := by decide +kernel
theorem dX5_set_13 : decode cX5_set 13 = .ok (.iastore, 1) := by decide +kernel
theorem dX5_set_14 : decode cX5_set 14 = .ok (.return_, 1) := by decide +kernel
theorem dX6_in_0 : decode cX6_in 0 = .ok (.iload_n 0, 1) := by decide +kernel
theorem dX6_in_1 : decode cX6_in 1 = .ok (.iload_n 1, 1) := by decide +kernel
theorem dX6_in_2 : decode cX6_in 2 = .ok (.if_icmp .lt 12, 3) := by decide +kernel
theorem dX6_in_5 : decode cX6_in 5 = .ok (.iload_n 0, 1) := by decide +kernel
theorem dX6_in_6 : decode cX6_in 6 = .ok (.iload_n 2, 1) := by decide +kernel
theorem dX6_in_7 : decode cX6_in 7 = .ok (.if_icmp .gt 7, 3) := by decide +kernel
theorem dX6_in_10 : decode cX6_in 10 = .ok (.iconst 1, 1) := by decide +kernel
theorem dX6_in_11 : decode cX6_in 11 = .ok (.goto 4, 3) := by decide +kernel
theorem dX6_in_14 : decode cX6_in 14 = .ok (.iconst 0, 1) := by decide +kernel
theorem dX6_in_15 : decode cX6_in 15 = .ok (.ireturn, 1) := by decide +kernel
theorem dX6_init_0 : decode cX6_init 0 = .ok (.aload_n 0, 1) := by decide +kernel
theorem dX6_init_1 : decode cX6_init 1 = .ok (.invokespecial 1, 3) := by decide +kernel
theorem dX6_init_4 : decode cX6_init 4 = .ok (.aload_n 0, 1) := by decide +kernel
theorem dX6_init_5 : decode cX6_init 5 = .ok (.bipush 8, 2) := by decide +kernel
theorem dX6_init_7 : decode cX6_init 7 = .ok (.newarray .int, 2) := by decide +kernel
theorem dX6_init_9 : decode cX6_init 9 = .ok (.dup, 1) := by decide +kernel
theorem dX6_init_10 : decode cX6_init 10 = .ok (.iconst 0, 1) := by decide +kernel
theorem dX6_init_11 : decode cX6_init 11 = .ok (.sipush 1000, 3) := by decide +kernel
theorem dX6_init_14 : decode cX6_init 14 = .ok (.iastore, 1) := by decide +kernel
theorem dX6_init_15 : decode cX6_init 15 = .ok (.dup, 1) := by decide +kernel
theorem dX6_init_16 : decode cX6_init 16 = .ok (.iconst 1, 1) := by decide +kernel
theorem dX6_init_17 : decode cX6_init 17 = .ok (.sipush 1000, 3) := by decide +kernel
theorem dX6_init_20 : decode cX6_init 20 = .ok (.iastore, 1) := by decide +kernel
theorem dX6_init_21 : decode cX6_init 21 = .ok (.dup, 1) := by decide +kernel
theorem dX6_init_22 : decode cX6_init 22 = .ok (.iconst 2, 1) := by decide +kernel
theorem dX6_init_23 : decode cX6_init 23 = .ok (.sipush 1000, 3) := by decide +kernel
theorem dX6_init_26 : decode cX6_init 26 = .ok (.iastore, 1) := by decide +kernel
theorem dX6_init_27 : decode cX6_init 27 = .ok (.dup, 1) := by decide +kernel
theorem dX6_init_28 : decode cX6_init 28 = .ok (.iconst 3, 1) := by decide +kernel
theorem dX6_init_29 : decode cX6_init 29 = .ok (.sipush 1000, 3) := by decide +kernel
theorem dX6_init_32 : decode cX6_init 32 = .ok (.iastore, 1) := by decide +kernel
theorem dX6_init_33 : decode cX6_init 33 = .ok (.dup, 1) := by decide +kernel
theorem dX6_init_34 : decode cX6_init 34 = .ok (.iconst 4, 1) := by decide +kernel
theorem dX6_init_35 : decode cX6_init 35 = .ok (.sipush 1000, 3) := by decide +kernel
theorem dX6_init_38 : decode cX6_init 38 = .ok (.iastore, 1) := by decide +kernel
theorem dX6_init_39 : decode cX6_init 39 = .ok (.dup, 1) := by decide +kernel
theorem dX6_init_40 : decode cX6_init 40 = .ok (.iconst 5, 1) := by decide +kernel
theorem dX6_init_41 : decode cX6_init 41 = .ok (.sipush 1000, 3) := by decide +kernel
theorem dX6_init_44 : decode cX6_init 44 = .ok (.iastore, 1) := by decide +kernel
theorem dX6_init_45 : decode cX6_init 45 = .ok (.dup, 1) := by decide +kernel
theorem dX6_init_46 : decode cX6_init 46 = .ok (.bipush 6, 2) := by decide +kernel
theorem dX6_init_48 : decode cX6_init 48 = .ok (.sipush 1000, 3) := by decide +kernel
theorem dX6_init_51 : decode cX6_init 51 = .ok (.iastore, 1) := by decide +kernel
theorem dX6_init_52 : decode cX6_init 52 = .ok (.dup, 1) := by decide +kernel
theorem dX6_init_53 : decode cX6_init 53 = .ok (.bipush 7, 2) := by decide +kernel
theorem dX6_init_55 : decode cX6_init 55 = .ok (.sipush 1000, 3) := by decide +kernel
theorem dX6_init_58 : decode cX6_init 58 = .ok (.iastore, 1) := by decide +kernel
theorem dX6_init_59 : decode cX6_init 59 = .ok (.putfield 7, 3) := by decide +kernel
theorem dX6_init_62 : decode cX6_init 62 = .ok (.aload_n 0, 1) := by decide +kernel
theorem dX6_init_63 : decode cX6_init 63 = .ok (.iconst 2, 1) := by decide +kernel
theorem dX6_init_64 : decode cX6_init 64 = .ok (.newarray .int, 2) := by decide +kernel
theorem dX6_init_66 : decode cX6_init 66 = .ok (.putfield 13, 3) := by decide +kernel
theorem dX6_init_69 : decode cX6_init 69 = .ok (.aload_n 0, 1) := by decide +kernel
theorem dX6_init_70 : decode cX6_init 70 = .ok (.iconst 2, 1) := by decide +kernel
theorem dX6_init_71 : decode cX6_init 71 = .ok (.newarray .int, 2) := by decide +kernel
theorem dX6_init_73 : decode cX6_init 73 = .ok (.putfield 16, 3) := by decide +kernel
theorem dX6_init_76 : decode cX6_init 76 = .ok (.aload_n 0, 1) := by decide +kernel
theorem dX6_init_77 : decode cX6_init 77 = .ok (.sipush 150, 3) := by decide +kernel
theorem dX6_init_80 : decode cX6_init 80 = .ok (.newarray .int, 2) := by decide +kernel
theorem dX6_init_82 : decode cX6_init 82 = .ok (.putfield 19, 3) := by decide +kernel
theorem dX6_init_85 : decode cX6_init 85 = .ok (.aload_n 0, 1) := by decide +kernel
theorem dX6_init_86 : decode cX6_init 86 = .ok (.sipush 150, 3) := by decide +kernel
theorem dX6_init_89 : decode cX6_init 89 = .ok (.newarray .int, 2) := by decide +kernel
theorem dX6_init_91 : decode cX6_init 91 = .ok (.putfield 22, 3) := by decide +kernel
theorem dX6_init_94 : decode cX6_init 94 = .ok (.aload_n 0, 1) := by decide +kernel
theorem dX6_init_95 : decode cX6_init 95 = .ok (.sipush 150, 3) := by decide +kernel
theorem dX6_init_98 : decode cX6_init 98 = .ok (.newarray .int, 2) := by decide +kernel
theorem dX6_init_100 : decode cX6_init 100 = .ok (.putfield 25, 3) := by decide +kernel
theorem dX6_init_103 : decode cX6_init 103 = .ok (.aload_n 0, 1) := by decide +kernel
theorem dX6_init_104 : decode cX6_init 104 = .ok (.sipush 150, 3) := by decide +kernel
theorem dX6_init_107 : decode cX6_init 107 = .ok (.newarray .int, 2) := by decide +kernel
theorem dX6_init_109 : decode cX6_init 109 = .ok (.putfield 28, 3) := by decide +kernel
theorem dX6_init_112 : decode cX6_init 112 = .ok (.aload_n 0, 1) := by decide +kernel
theorem dX6_init_113 : decode cX6_init 113 = .ok (.sipush 150, 3) := by decide +kernel
theorem dX6_init_116 : decode cX6_init 116 = .ok (.newarray .boolean, 2) := by decide +kernel
theorem dX6_init_118 : decode cX6_init 118 = .ok (.putfield 31, 3) := by decide +kernel
theorem dX6_init_121 : decode cX6_init 121 = .ok (.aload_n 0, 1) := by decide +kernel
theorem dX6_init_122 : decode cX6_init 122 = .ok (.sipush 151, 3) := by decide +kernel
theorem dX6_init_125 : decode cX6_init 125 = .ok (.newarray .int, 2) := by decide +kernel
theorem dX6_init_127 : decode cX6_init 127 = .ok (.putfield 35, 3) := by decide +kernel
theorem dX6_init_130 : decode cX6_init 130 = .ok (.aload_n 0, 1) := by decide +kernel
theorem dX6_init_131 : decode cX6_init 131 = .ok (.sipush 151, 3) := by decide +kernel
theorem dX6_init_134 : decode cX6_init 134 = .ok (.newarray .boolean, 2) := by decide +kernel
theorem dX6_init_136 : decode cX6_init 136 = .ok (.putfield 38, 3) := by decide +kernel
theorem dX6_init_139 : decode cX6_init 139 = .ok (.aload_n 0, 1) := by decide +kernel
theorem dX6_init_140 : decode cX6_init 140 = .ok (.iconst 4, 1) := by decide +kernel
theorem dX6_init_141 : decode cX6_init 141 = .ok (.newarray .int, 2) := by decide +kernel
theorem dX6_init_143 : decode cX6_init 143 = .ok (.putfield 41, 3) := by decide +kernel
theorem dX6_init_146 : decode cX6_init 146 = .ok (.aload_n 0, 1) := by decide +kernel
theorem dX6_init_147 : decode cX6_init 147 = .ok (.iconst 2, 1) := by decide +kernel
theorem dX6_init_148 : decode cX6_init 148 = .ok (.newarray .int, 2) := by decide +kernel
theorem dX6_init_150 : decode cX6_init 150 = .ok (.putfield 44, 3) := by decide +kernel
theorem dX6_init_153 : decode cX6_init 153 = .ok (.aload_n 0, 1) := by decide +kernel
theorem dX6_init_154 : decode cX6_init 154 = .ok (.iconst 2, 1) := by decide +kernel
theorem dX6_init_155 : decode cX6_init 155 = .ok (.newarray .int, 2) := by decide +kernel
theorem dX6_init_157 : decode cX6_init 157 = .ok (.putfield 47, 3) := by decide +kernel
theorem dX6_init_160 : decode cX6_init 160 = .ok (.aload_n 0, 1) := by decide +kernel
theorem dX6_init_161 : decode cX6_init 161 = .ok (.iconst 2, 1) := by decide +kernel
theorem dX6_init_162 : decode cX6_init 162 = .ok (.newarray .int, 2) := by decide +kernel
theorem dX6_init_164 : decode cX6_init 164 = .ok (.putfield 50, 3) := by decide +kernel
theorem dX6_init_167 : decode cX6_init 167 = .ok (.aload_n 0, 1) := by decide +kernel
theorem dX6_init_168 : decode cX6_init 168 = .ok (.iconst 2, 1) := by decide +kernel
theorem dX6_init_169 : decode cX6_init 169 = .ok (.newarray .int, 2) := by decide +kernel
theorem dX6_init_171 : decode cX6_init 171 = .ok (.putfield 53, 3) := by decide +kernel
theorem dX6_init_174 : decode cX6_init 174 = .ok (.aload_n 0, 1) := by decide +kernel
theorem dX6_init_175 : decode cX6_init 175 = .ok (.iconst 2, 1) := by decide +kernel
theorem dX6_init_176 : decode cX6_init 176 = .ok (.newarray .int, 2) := by decide +kernel
theorem dX6_init_178 : decode cX6_init 178 = .ok (.putfield 56, 3) := by decide +kernel
theorem dX6_init_181 : decode cX6_init 181 = .ok (.aload_n 0, 1) := by decide +kernel
theorem dX6_init_182 : decode cX6_init 182 = .ok (.bipush 30, 2) := by decide +kernel
theorem dX6_init_184 : decode cX6_init 184 = .ok (.newarray .int, 2) := by decide +kernel
theorem dX6_init_186 : decode cX6_init 186 = .ok (.putfield 59, 3) := by decide +kernel
theorem dX6_init_189 : decode cX6_init 189 = .ok (.aload_n 0, 1) := by decide +kernel
theorem dX6_init_190 : decode cX6_init 190 = .ok (.bipush 15, 2) := by decide +kernel
theorem dX6_init_192 : decode cX6_init 192 = .ok (.newarray .int, 2) := by decide +kernel
theorem dX6_init_194 : decode cX6_init 194 = .ok (.putfield 62, 3) := by decide +kernel
theorem dX6_init_197 : decode cX6_init 197 = .ok (.aload_n 0, 1) := by decide +kernel
theorem dX6_init_198 : decode cX6_init 198 = .ok (.bipush 15, 2) := by decide +kernel
theorem dX6_init_200 : decode cX6_init 200 = .ok (.newarray .int, 2) := by decide +kernel
theorem dX6_init_202 : decode cX6_init 202 = .ok (.putfield 65, 3) := by decide +kernel
theorem dX6_init_205 : decode cX6_init 205 = .ok (.aload_n 0, 1) := by decide +kernel
theorem dX6_init_206 : decode cX6_init 206 = .ok (.iconst 2, 1) := by decide +kernel
theorem dX6_init_207 : decode cX6_init 207 = .ok (.putfield 68, 3) := by decide +kernel
theorem dX6_init_210 : decode cX6_init 210 = .ok (.aload_n 0, 1) := by decide +kernel
theorem dX6_init_211 : decode cX6_init 211 = .ok (.getfield 47, 3) := by decide +kernel
theorem dX6_init_214 : decode cX6_init 214 = .ok (.iconst 0, 1) := by decide +kernel
theorem dX6_init_215 : decode cX6_init 215 = .ok (.iconst 5, 1) := by decide +kernel
theorem dX6_init_216 : decode cX6_init 216 = .ok (.iastore, 1) := by decide +kernel
theorem dX6_init_217 : decode cX6_init 217 = .ok (.aload_n 0, 1) := by decide +kernel
theorem dX6_init_218 : decode cX6_init 218 = .ok (.getfield 47, 3) := by decide +kernel
theorem dX6_init_221 : decode cX6_init 221 = .ok (.iconst 1, 1) := by decide +kernel
theorem dX6_init_222 : decode cX6_init 222 = .ok (.iconst 2, 1) := by decide +kernel
theorem dX6_init_223 : decode cX6_init 223 = .ok (.iastore, 1) := by decide +kernel
theorem dX6_init_224 : decode cX6_init 224 = .ok (.aload_n 0, 1) := by decide +kernel
theorem dX6_init_225 : decode cX6_init 225 = .ok (.getfield 50, 3) := by decide +kernel
theorem dX6_init_228 : decode cX6_init 228 = .ok (.iconst 0, 1) := by decide +kernel
theorem dX6_init_229 : decode cX6_init 229 = .ok (.bipush 82, 2) := by decide +kernel
theorem dX6_init_231 : decode cX6_init 231 = .ok (.iastore, 1) := by decide +kernel
theorem dX6_init_232 : decode cX6_init 232 = .ok (.aload_n 0, 1) := by decide +kernel
theorem dX6_init_233 : decode cX6_init 233 = .ok (.getfield 50, 3) := by decide +kernel
theorem dX6_init_236 : decode cX6_init 236 = .ok (.iconst 1, 1) := by decide +kernel
theorem dX6_init_237 : decode cX6_init 237 = .ok (.bipush 78, 2) := by decide +kernel
theorem dX6_init_239 : decode cX6_init 239 = .ok (.iastore, 1) := by decide +kernel
theorem dX6_init_240 : decode cX6_init 240 = .ok (.iconst 0, 1) := by decide +kernel
theorem dX6_init_241 : decode cX6_init 241 = .ok (.istore_n 1, 1) := by decide +kernel
theorem dX6_init_242 : decode cX6_init 242 = .ok (.iload_n 1, 1) := by decide +kernel
theorem dX6_init_243 : decode cX6_init 243 = .ok (.bipush 15, 2) := by decide +kernel
theorem dX6_init_245 : decode cX6_init 245 = .ok (.if_icmp .ge 23, 3) := by decide +kernel
theorem dX6_init_248 : decode cX6_init 248 = .ok (.aload_n 0, 1) := by decide +kernel
theorem dX6_init_249 : decode cX6_init 249 = .ok (.getfield 62, 3) := by decide +kernel
theorem dX6_init_252 : decode cX6_init 252 = .ok (.iload_n 1, 1) := by decide +kernel
theorem dX6_init_253 : decode cX6_init 253 = .ok (.iconst (-1), 1) := by decide +kernel
theorem dX6_init_254 : decode cX6_init 254 = .ok (.iastore, 1) := by decide +kernel
theorem dX6_init_255 : decode cX6_init 255 = .ok (.aload_n 0, 1) := by decide +kernel
theorem dX6_init_256 : decode cX6_init 256 = .ok (.getfield 65, 3) := by decide +kernel
theorem dX6_init_259 : decode cX6_init 259 = .ok (.iload_n 1, 1) := by decide +kernel
theorem dX6_init_260 : decode cX6_init 260 = .ok (.iconst (-1), 1) := by decide +kernel
theorem dX6_init_261 : decode cX6_init 261 = .ok (.iastore, 1) := by decide +kernel
theorem dX6_init_262 : decode cX6_init 262 = .ok (.iinc 1 1, 3) := by decide +kernel
theorem dX6_init_265 : decode cX6_init 265 = .ok (.goto (-23), 3) := by decide +kernel
theorem dX6_init_268 : decode cX6_init 268 = .ok (.iconst 0, 1) := by decide +kernel
theorem dX6_init_269 : decode cX6_init 269 = .ok (.istore_n 1, 1) := by decide +kernel
theorem dX6_init_270 : decode cX6_init 270 = .ok (.iload_n 1, 1) := by decide +kernel
theorem dX6_init_271 : decode cX6_init 271 = .ok (.sipush 151, 3) := by decide +kernel
theorem dX6_init_274 : decode cX6_init 274 = .ok (.if_icmp .ge 16, 3) := by decide +kernel
theorem dX6_init_277 : decode cX6_init 277 = .ok (.aload_n 0, 1) := by decide +kernel
theorem dX6_init_278 : decode cX6_init 278 = .ok (.getfield 35, 3) := by decide +kernel
theorem dX6_init_281 : decode cX6_init 281 = .ok (.iload_n 1, 1) := by decide +kernel
theorem dX6_init_282 : decode cX6_init 282 = .ok (.iconst (-1), 1) := by decide +kernel
theorem dX6_init_283 : decode cX6_init 283 = .ok (.iastore, 1) := by decide +kernel
theorem dX6_init_284 : decode cX6_init 284 = .ok (.iinc 1 1, 3) := by decide +kernel
theorem dX6_init_287 : decode cX6_init 287 = .ok (.goto (-17), 3) := by decide +kernel
theorem dX6_init_290 : decode cX6_init 290 = .ok (.return_, 1) := by decide +kernel
theorem dX6_isPlayer_0 : decode cX6_isPlayer 0 = .ok (.iload_n 0, 1) := by decide +kernel
theorem dX6_isPlayer_1 : decode cX6_isPlayer 1 = .ok (.iconst 0, 1) := by decide +kernel
theorem dX6_isPlayer_2 : decode cX6_isPlayer 2 = .ok (.bipush 7, 2) := by decide +kernel
theorem dX6_isPlayer_4 : decode cX6_isPlayer 4 = .ok (.invokestatic 72, 3) := by decide +kernel
theorem dX6_isPlayer_7 : decode cX6_isPlayer 7 = .ok (.ireturn, 1) := by decide +kernel
theorem dX6_index_0 : decode cX6_index 0 = .ok (.iload_n 1, 1) := by decide +kernel
theorem dX6_index_1 : decode cX6_index 1 = .ok (.invokestatic 76, 3) := by decide +kernel
theorem dX6_index_4 : decode cX6_index 4 = .ok (.ifCond .eq 14, 3) := by decide +kernel
theorem dX6_index_7 : decode cX6_index 7 = .ok (.iload_n 2, 1) := by decide +kernel
theorem dX6_index_8 : decode cX6_index 8 = .ok (.iconst 0, 1) := by decide +kernel
theorem dX6_index_9 : decode cX6_index 9 = .ok (.sipush 2000, 3) := by decide +kernel
theorem dX6_index_12 : decode cX6_index 12 = .ok (.invokestatic 72, 3) := by decide +kernel
theorem dX6_index_15 : decode cX6_index 15 = .ok (.ifCond .ne 5, 3) := by decide +kernel
theorem dX6_index_18 : decode cX6_index 18 = .ok (.iconst (-1), 1) := by decide +kernel
theorem dX6_index_19 : decode cX6_index 19 = .ok (.ireturn, 1) := by decide +kernel
theorem dX6_index_20 : decode cX6_index 20 = .ok (.aload_n 0, 1) := by decide +kernel
theorem dX6_index_21 : decode cX6_index 21 = .ok (.getfield 7, 3) := by decide +kernel
theorem dX6_index_24 : decode cX6_index 24 = .ok (.iload_n 1, 1) := by decide +kernel
theorem dX6_index_25 : decode cX6_index 25 = .ok (.iaload, 1) := by decide +kernel
theorem dX6_index_26 : decode cX6_index 26 = .ok (.istore_n 3, 1) := by decide +kernel
theorem dX6_index_27 : decode cX6_index 27 = .ok (.aload_n 0, 1) := by decide +kernel
theorem dX6_index_28 : decode cX6_index 28 = .ok (.getfield 7, 3) := by decide +kernel
theorem dX6_index_31 : decode cX6_index 31 = .ok (.iload_n 1, 1) := by decide +kernel
theorem dX6_index_32 : decode cX6_index 32 = .ok (.iload_n 2, 1) := by decide +kernel
theorem dX6_index_33 : decode cX6_index 33 = .ok (.iastore, 1) := by decide +kernel
theorem dX6_index_34 : decode cX6_index 34 = .ok (.iload_n 3, 1) := by decide +kernel
theorem dX6_index_35 : decode cX6_index 35 = .ok (.ireturn, 1) := by decide +kernel
theorem dX6_handicapOf_0 : decode cX6_handicapOf 0 = .ok (.bipush 20, 2) := by decide +kernel
theorem dX6_handicapOf_2 : decode cX6_handicapOf 2 = .ok (.aload_n 0, 1) := by decide +kernel
theorem dX6_handicapOf_3 : decode cX6_handicapOf 3 = .ok (.getfield 7, 3) := by decide +kernel
theorem dX6_handicapOf_6 : decode cX6_handicapOf 6 = .ok (.iload_n 1, 1) := by decide +kernel
theorem dX6_handicapOf_7 : decode cX6_handicapOf 7 = .ok (.iaload, 1) := by decide +kernel
theorem dX6_handicapOf_8 : decode cX6_handicapOf 8 = .ok (.bipush 100, 2) := by decide +kernel
theorem dX6_handicapOf_10 : decode cX6_handicapOf 10 = .ok (.idiv, 1) := by decide +kernel
theorem dX6_handicapOf_11 : decode cX6_handicapOf 11 = .ok (.isub, 1) := by decide +kernel
theorem dX6_handicapOf_12 : decode cX6_handicapOf 12 = .ok (.ireturn, 1) := by decide +kernel
theorem dX6_handicap_0 : decode cX6_handicap 0 = .ok (.iload_n 1, 1) := by decide +kernel
theorem dX6_handicap_1 : decode cX6_handicap 1 = .ok (.invokestatic 76, 3) := by decide +kernel
theorem dX6_handicap_4 : decode cX6_handicap 4 = .ok (.ifCond .eq 11, 3) := by decide +kernel
theorem dX6_handicap_7 : decode cX6_handicap 7 = .ok (.aload_n 0, 1) := by decide +kernel
theorem dX6_handicap_8 : decode cX6_handicap 8 = .ok (.iload_n 1, 1) := by decide +kernel
theorem dX6_handicap_9 : decode cX6_handicap 9 = .ok (.invokevirtual 80, 3) := by decide +kernel
theorem dX6_handicap_12 : decode cX6_handicap 12 = .ok (.goto 5, 3) := by decide +kernel
theorem dX6_handicap_15 : decode cX6_handicap 15 = .ok (.bipush (-101), 2) := by decide +kernel
theorem dX6_handicap_17 : decode cX6_handicap 17 = .ok (.ireturn, 1) := by decide +kernel
theorem dX6_game_0 : decode cX6_game 0 = .ok (.iload_n 1, 1) := by decide +kernel
theorem dX6_game_1 : decode cX6_game 1 = .ok (.invokestatic 76, 3) := by decide +kernel
theorem dX6_game_4 : decode cX6_game 4 = .ok (.ifCond .eq 15, 3) := by decide +kernel
theorem dX6_game_7 : decode cX6_game 7 = .ok (.iload_n 2, 1) := by decide +kernel
theorem dX6_game_8 : decode cX6_game 8 = .ok (.invokestatic 76, 3) := by decide +kernel
theorem dX6_game_11 : decode cX6_game 11 = .ok (.ifCond .eq 8, 3) := by decide +kernel
theorem dX6_game_14 : decode cX6_game 14 = .ok (.iload_n 1, 1) := by decide +kernel
theorem dX6_game_15 : decode cX6_game 15 = .ok (.iload_n 2, 1) := by decide +kernel
theorem dX6_game_16 : decode cX6_game 16 = .ok (.if_icmp .ne 6, 3) := by decide +kernel
theorem dX6_game_19 : decode cX6_game 19 = .ok (.bipush (-101), 2) := by decide +kernel
theorem dX6_game_21 : decode cX6_game 21 = .ok (.ireturn, 1) := by decide +kernel
theorem dX6_game_22 : decode cX6_game 22 = .ok (.aload_n 0, 1) := by decide +kernel
theorem dX6_game_23 : decode cX6_game 23 = .ok (.iconst 1, 1) := by decide +kernel
theorem dX6_game_24 : decode cX6_game 24 = .ok (.putfield 84, 3) := by decide +kernel
theorem dX6_game_27 : decode cX6_game 27 = .ok (.aload_n 0, 1) := by decide +kernel
theorem dX6_game_28 : decode cX6_game 28 = .ok (.getfield 13, 3) := by decide +kernel
theorem dX6_game_31 : decode cX6_game 31 = .ok (.iconst 0, 1) := by decide +kernel
theorem dX6_game_32 : decode cX6_game 32 = .ok (.iload_n 1, 1) := by decide +kernel
theorem dX6_game_33 : decode cX6_game 33 = .ok (.iastore, 1) := by decide +kernel
theorem dX6_game_34 : decode cX6_game 34 = .ok (.aload_n 0, 1) := by decide +kernel
theorem dX6_game_35 : decode cX6_game 35 = .ok (.getfield 13, 3) := by decide +kernel
theorem dX6_game_38 : decode cX6_game 38 = .ok (.iconst 1, 1) := by decide +kernel
theorem dX6_game_39 : decode cX6_game 39 = .ok (.iload_n 2, 1) := by decide +kernel
theorem dX6_game_40 : decode cX6_game 40 = .ok (.iastore, 1) := by decide +kernel
theorem dX6_game_41 : decode cX6_game 41 = .ok (.aload_n 0, 1) := by decide +kernel
theorem dX6_game_42 : decode cX6_game 42 = .ok (.iload_n 2, 1) := by decide +kernel
theorem dX6_game_43 : decode cX6_game 43 = .ok (.invokevirtual 80, 3) := by decide +kernel
theorem dX6_game_46 : decode cX6_game 46 = .ok (.aload_n 0, 1) := by decide +kernel
theorem dX6_game_47 : decode cX6_game 47 = .ok (.iload_n 1, 1) := by decide +kernel
theorem dX6_game_48 : decode cX6_game 48 = .ok (.invokevirtual 80, 3) := by decide +kernel
theorem dX6_game_51 : decode cX6_game 51 = .ok (.isub, 1) := by decide +kernel
theorem dX6_game_52 : decode cX6_game 52 = .ok (.istore_n 3, 1) := by decide +kernel
theorem dX6_game_53 : decode cX6_game 53 = .ok (.aload_n 0, 1) := by decide +kernel
theorem dX6_game_54 : decode cX6_game 54 = .ok (.getfield 16, 3) := by decide +kernel
theorem dX6_game_57 : decode cX6_game 57 = .ok (.iconst 0, 1) := by decide +kernel
theorem dX6_game_58 : decode cX6_game 58 = .ok (.iload_n 3, 1) := by decide +kernel
theorem dX6_game_59 : decode cX6_game 59 = .ok (.ifCond .ge 11, 3) := by decide +kernel
theorem dX6_game_62 : decode cX6_game 62 = .ok (.iconst 1, 1) := by decide +kernel
theorem dX6_game_63 : decode cX6_game 63 = .ok (.iload_n 3, 1) := by decide +kernel
theorem dX6_game_64 : decode cX6_game 64 = .ok (.isub, 1) := by decide +kernel
theorem dX6_game_65 : decode cX6_game 65 = .ok (.iconst 2, 1) := by decide +kernel
theorem dX6_game_66 : decode cX6_game 66 = .ok (.idiv, 1) := by decide +kernel
theorem dX6_game_67 : decode cX6_game 67 = .ok (.goto 4, 3) := by decide +kernel
theorem dX6_game_70 : decode cX6_game 70 = .ok (.iconst 0, 1) := by decide +kernel
theorem dX6_game_71 : decode cX6_game 71 = .ok (.iastore, 1) := by decide +kernel
theorem dX6_game_72 : decode cX6_game 72 = .ok (.aload_n 0, 1) := by decide +kernel
theorem dX6_game_73 : decode cX6_game 73 = .ok (.getfield 16, 3) := by decide +kernel
theorem dX6_game_76 : decode cX6_game 76 = .ok (.iconst 1, 1) := by decide +kernel
theorem dX6_game_77 : decode cX6_game 77 = .ok (.iload_n 3, 1) := by decide +kernel
theorem dX6_game_78 : decode cX6_game 78 = .ok (.ifCond .le 11, 3) := by decide +kernel
theorem dX6_game_81 : decode cX6_game 81 = .ok (.iload_n 3, 1) := by decide +kernel
theorem dX6_game_82 : decode cX6_game 82 = .ok (.iconst 1, 1) := by decide +kernel
theorem dX6_game_83 : decode cX6_game 83 = .ok (.iadd, 1) := by decide +kernel
theorem dX6_game_84 : decode cX6_game 84 = .ok (.iconst 2, 1) := by decide +kernel
theorem dX6_game_85 : decode cX6_game 85 = .ok (.idiv, 1) := by decide +kernel
theorem dX6_game_86 : decode cX6_game 86 = .ok (.goto 4, 3) := by decide +kernel
theorem dX6_game_89 : decode cX6_game 89 = .ok (.iconst 0, 1) := by decide +kernel
theorem dX6_game_90 : decode cX6_game 90 = .ok (.iastore, 1) := by decide +kernel
theorem dX6_game_91 : decode cX6_game 91 = .ok (.aload_n 0, 1) := by decide +kernel
theorem dX6_game_92 : decode cX6_game 92 = .ok (.iconst 0, 1) := by decide +kernel
theorem dX6_game_93 : decode cX6_game 93 = .ok (.putfield 88, 3) := by decide +kernel
theorem dX6_game_96 : decode cX6_game 96 = .ok (.aload_n 0, 1) := by decide +kernel
theorem dX6_game_97 : decode cX6_game 97 = .ok (.iconst 0, 1) := by decide +kernel
theorem dX6_game_98 : decode cX6_game 98 = .ok (.invokevirtual 91, 3) := by decide +kernel
theorem dX6_game_101 : decode cX6_game 101 = .ok (.aload_n 0, 1) := by decide +kernel
theorem dX6_game_102 : decode cX6_game 102 = .ok (.getfield 16, 3) := by decide +kernel
theorem dX6_game_105 : decode cX6_game 105 = .ok (.iconst 1, 1) := by decide +kernel
theorem dX6_game_106 : decode cX6_game 106 = .ok (.iaload, 1) := by decide +kernel
theorem dX6_game_107 : decode cX6_game 107 = .ok (.aload_n 0, 1) := by decide +kernel
theorem dX6_game_108 : decode cX6_game 108 = .ok (.getfield 16, 3) := by decide +kernel
theorem dX6_game_111 : decode cX6_game 111 = .ok (.iconst 0, 1) := by decide +kernel
theorem dX6_game_112 : decode cX6_game 112 = .ok (.iaload, 1) := by decide +kernel
theorem dX6_game_113 : decode cX6_game 113 = .ok (.isub, 1) := by decide +kernel
theorem dX6_game_114 : decode cX6_game 114 = .ok (.ireturn, 1) := by decide +kernel
theorem dX6_forget_0 : decode cX6_forget 0 = .ok (.iload_n 1, 1) := by decide +kernel
theorem dX6_forget_1 : decode cX6_forget 1 = .ok (.istore_n 2, 1) := by decide +kernel
theorem dX6_forget_2 : decode cX6_forget 2 = .ok (.iload_n 2, 1) := by decide +kernel
theorem dX6_forget_3 : decode cX6_forget 3 = .ok (.sipush 151, 3) := by decide +kernel
theorem dX6_forget_6 : decode cX6_forget 6 = .ok (.if_icmp .ge 23, 3) := by decide +kernel
theorem dX6_forget_9 : decode cX6_forget 9 = .ok (.aload_n 0, 1) := by decide +kernel
theorem dX6_forget_10 : decode cX6_forget 10 = .ok (.getfield 35, 3) := by decide +kernel
theorem dX6_forget_13 : decode cX6_forget 13 = .ok (.iload_n 2, 1) := by decide +kernel
theorem dX6_forget_14 : decode cX6_forget 14 = .ok (.iconst (-1), 1) := by decide +kernel
theorem dX6_forget_15 : decode cX6_forget 15 = .ok (.iastore, 1) := by decide +kernel
theorem dX6_forget_16 : decode cX6_forget 16 = .ok (.aload_n 0, 1) := by decide +kernel
theorem dX6_forget_17 : decode cX6_forget 17 = .ok (.getfield 38, 3) := by decide +kernel
theorem dX6_forget_20 : decode cX6_forget 20 = .ok (.iload_n 2, 1) := by decide +kernel
theorem dX6_forget_21 : decode cX6_forget 21 = .ok (.iconst 0, 1) := by decide +kernel
theorem dX6_forget_22 : decode cX6_forget 22 = .ok (.bastore, 1) := by decide +kernel
theorem dX6_forget_23 : decode cX6_forget 23 = .ok (.iinc 2 1, 3) := by decide +kernel
theorem dX6_forget_26 : decode cX6_forget 26 = .ok (.goto (-24), 3) := by decide +kernel
theorem dX6_forget_29 : decode cX6_forget 29 = .ok (.return_, 1) := by decide +kernel
theorem dX6_others_0 : decode cX6_others 0 = .ok (.iconst 0, 1) := by decide +kernel
theorem dX6_others_1 : decode cX6_others 1 = .ok (.istore_n 1, 1) := by decide +kernel
theorem dX6_others_2 : decode cX6_others 2 = .ok (.iconst 0, 1) := by decide +kernel
theorem dX6_others_3 : decode cX6_others 3 = .ok (.istore_n 2, 1) := by decide +kernel
theorem dX6_others_4 : decode cX6_others 4 = .ok (.iload_n 2, 1) := by decide +kernel
theorem dX6_others_5 : decode cX6_others 5 = .ok (.iconst 4, 1) := by decide +kernel
theorem dX6_others_6 : decode cX6_others 6 = .ok (.if_icmp .ge 38, 3) := by decide +kernel
theorem dX6_others_9 : decode cX6_others 9 = .ok (.iload_n 1, 1) := by decide +kernel
theorem dX6_others_10 : decode cX6_others 10 = .ok (.iload_n 2, 1) := by decide +kernel
theorem dX6_others_11 : decode cX6_others 11 = .ok (.aload_n 0, 1) := by decide +kernel
theorem dX6_others_12 : decode cX6_others 12 = .ok (.getfield 95, 3) := by decide +kernel
theorem dX6_others_15 : decode cX6_others 15 = .ok (.if_icmp .eq 20, 3) := by decide +kernel
theorem dX6_others_18 : decode cX6_others 18 = .ok (.aload_n 0, 1) := by decide +kernel
theorem dX6_others_19 : decode cX6_others 19 = .ok (.getfield 41, 3) := by decide +kernel
theorem dX6_others_22 : decode cX6_others 22 = .ok (.iload_n 2, 1) := by decide +kernel
theorem dX6_others_23 : decode cX6_others 23 = .ok (.iaload, 1) := by decide +kernel
theorem dX6_others_24 : decode cX6_others 24 = .ok (.bipush 7, 2) := by decide +kernel
theorem dX6_others_26 : decode cX6_others 26 = .ok (.if_icmp .eq 9, 3) := by decide +kernel
theorem dX6_others_29 : decode cX6_others 29 = .ok (.iconst 1, 1) := by decide +kernel
theorem dX6_others_30 : decode cX6_others 30 = .ok (.iload_n 2, 1) := by decide +kernel
theorem dX6_others_31 : decode cX6_others 31 = .ok (.ishl, 1) := by decide +kernel
theorem dX6_others_32 : decode cX6_others 32 = .ok (.goto 4, 3) := by decide +kernel
theorem dX6_others_35 : decode cX6_others 35 = .ok (.iconst 0, 1) := by decide +kernel
theorem dX6_others_36 : decode cX6_others 36 = .ok (.ior, 1) := by decide +kernel
theorem dX6_others_37 : decode cX6_others 37 = .ok (.istore_n 1, 1) := by decide +kernel
theorem dX6_others_38 : decode cX6_others 38 = .ok (.iinc 2 1, 3) := by decide +kernel
theorem dX6_others_41 : decode cX6_others 41 = .ok (.goto (-37), 3) := by decide +kernel
theorem dX6_others_44 : decode cX6_others 44 = .ok (.iload_n 1, 1) := by decide +kernel
theorem dX6_others_45 : decode cX6_others 45 = .ok (.ireturn, 1) := by decide +kernel
theorem dX6_begin_0 : decode cX6_begin 0 = .ok (.aload_n 0, 1) := by decide +kernel
theorem dX6_begin_1 : decode cX6_begin 1 = .ok (.iload_n 1, 1) := by decide +kernel
theorem dX6_begin_2 : decode cX6_begin 2 = .ok (.putfield 95, 3) := by decide +kernel
theorem dX6_begin_5 : decode cX6_begin 5 = .ok (.aload_n 0, 1) := by decide +kernel
theorem dX6_begin_6 : decode cX6_begin 6 = .ok (.iload_n 2, 1) := by decide +kernel
theorem dX6_begin_7 : decode cX6_begin 7 = .ok (.putfield 98, 3) := by decide +kernel
theorem dX6_begin_10 : decode cX6_begin 10 = .ok (.aload_n 0, 1) := by decide +kernel
theorem dX6_begin_11 : decode cX6_begin 11 = .ok (.iconst 1, 1) := by decide +kernel
theorem dX6_begin_12 : decode cX6_begin 12 = .ok (.putfield 101, 3) := by decide +kernel
theorem dX6_begin_15 : decode cX6_begin 15 = .ok (.aload_n 0, 1) := by decide +kernel
theorem dX6_begin_16 : decode cX6_begin 16 = .ok (.bipush (-4), 2) := by decide +kernel
theorem dX6_begin_18 : decode cX6_begin 18 = .ok (.putfield 104, 3) := by decide +kernel
theorem dX6_begin_21 : decode cX6_begin 21 = .ok (.aload_n 0, 1) := by decide +kernel
theorem dX6_begin_22 : decode cX6_begin 22 = .ok (.aload_n 0, 1) := by decide +kernel
theorem dX6_begin_23 : decode cX6_begin 23 = .ok (.invokevirtual 107, 3) := by decide +kernel
theorem dX6_begin_26 : decode cX6_begin 26 = .ok (.putfield 111, 3) := by decide +kernel
theorem dX6_begin_29 : decode cX6_begin 29 = .ok (.return_, 1) := by decide +kernel
theorem dX6_endTurn_0 : decode cX6_endTurn 0 = .ok (.aload_n 0, 1) := by decide +kernel
theorem dX6_endTurn_1 : decode cX6_endTurn 1 = .ok (.aload_n 0, 1) := by decide +kernel
theorem dX6_endTurn_2 : decode cX6_endTurn 2 = .ok (.getfield 95, 3) := by decide +kernel
theorem dX6_endTurn_5 : decode cX6_endTurn 5 = .ok (.putfield 114, 3) := by decide +kernel
theorem dX6_endTurn_8 : decode cX6_endTurn 8 = .ok (.aload_n 0, 1) := by decide +kernel
theorem dX6_endTurn_9 : decode cX6_endTurn 9 = .ok (.aload_n 0, 1) := by decide +kernel
theorem dX6_endTurn_10 : decode cX6_endTurn 10 = .ok (.getfield 98, 3) := by decide +kernel
theorem dX6_endTurn_13 : decode cX6_endTurn 13 = .ok (.putfield 117, 3) := by decide +kernel
theorem dX6_endTurn_16 : decode cX6_endTurn 16 = .ok (.aload_n 0, 1) := by decide +kernel
theorem dX6_endTurn_17 : decode cX6_endTurn 17 = .ok (.iconst 1, 1) := by decide +kernel
theorem dX6_endTurn_18 : decode cX6_endTurn 18 = .ok (.aload_n 0, 1) := by decide +kernel
theorem dX6_endTurn_19 : decode cX6_endTurn 19 = .ok (.getfield 98, 3) := by decide +kernel
theorem dX6_endTurn_22 : decode cX6_endTurn 22 = .ok (.isub, 1) := by decide +kernel
theorem dX6_endTurn_23 : decode cX6_endTurn 23 = .ok (.putfield 120, 3) := by decide +kernel
theorem dX6_endTurn_26 : decode cX6_endTurn 26 = .ok (.aload_n 0, 1) := by decide +kernel
theorem dX6_endTurn_27 : decode cX6_endTurn 27 = .ok (.bipush (-4), 2) := by decide +kernel
theorem dX6_endTurn_29 : decode cX6_endTurn 29 = .ok (.putfield 95, 3) := by decide +kernel
theorem dX6_endTurn_32 : decode cX6_endTurn 32 = .ok (.aload_n 0, 1) := by decide +kernel
theorem dX6_endTurn_33 : decode cX6_endTurn 33 = .ok (.iconst 0, 1) := by decide +kernel
theorem dX6_endTurn_34 : decode cX6_endTurn 34 = .ok (.putfield 101, 3) := by decide +kernel
theorem dX6_endTurn_37 : decode cX6_endTurn 37 = .ok (.aload_n 0, 1) := by decide +kernel
theorem dX6_endTurn_38 : decode cX6_endTurn 38 = .ok (.iconst 0, 1) := by decide +kernel
theorem dX6_endTurn_39 : decode cX6_endTurn 39 = .ok (.putfield 111, 3) := by decide +kernel
theorem dX6_endTurn_42 : decode cX6_endTurn 42 = .ok (.aload_n 0, 1) := by decide +kernel
theorem dX6_endTurn_43 : decode cX6_endTurn 43 = .ok (.bipush (-4), 2) := by decide +kernel
theorem dX6_endTurn_45 : decode cX6_endTurn 45 = .ok (.putfield 104, 3) := by decide +kernel
theorem dX6_endTurn_48 : decode cX6_endTurn 48 = .ok (.return_, 1) := by decide +kernel
theorem dX6_turnTo_0 : decode cX6_turnTo 0 = .ok (.aload_n 0, 1) := by decide +kernel
theorem dX6_turnTo_1 : decode cX6_turnTo 1 = .ok (.iload_n 1, 1) := by decide +kernel
theorem dX6_turnTo_2 : decode cX6_turnTo 2 = .ok (.putfield 120, 3) := by decide +kernel
theorem dX6_turnTo_5 : decode cX6_turnTo 5 = .ok (.aload_n 0, 1) := by decide +kernel
theorem dX6_turnTo_6 : decode cX6_turnTo 6 = .ok (.bipush (-4), 2) := by decide +kernel
theorem dX6_turnTo_8 : decode cX6_turnTo 8 = .ok (.putfield 95, 3) := by decide +kernel
theorem dX6_turnTo_11 : decode cX6_turnTo 11 = .ok (.aload_n 0, 1) := by decide +kernel
theorem dX6_turnTo_12 : decode cX6_turnTo 12 = .ok (.iconst 0, 1) := by decide +kernel
theorem dX6_turnTo_13 : decode cX6_turnTo 13 = .ok (.putfield 101, 3) := by decide +kernel
theorem dX6_turnTo_16 : decode cX6_turnTo 16 = .ok (.aload_n 0, 1) := by decide +kernel
theorem dX6_turnTo_17 : decode cX6_turnTo 17 = .ok (.iconst 0, 1) := by decide +kernel
theorem dX6_turnTo_18 : decode cX6_turnTo 18 = .ok (.putfield 111, 3) := by decide +kernel
theorem dX6_turnTo_21 : decode cX6_turnTo 21 = .ok (.aload_n 0, 1) := by decide +kernel
theorem dX6_turnTo_22 : decode cX6_turnTo 22 = .ok (.bipush (-4), 2) := by decide +kernel
theorem dX6_turnTo_24 : decode cX6_turnTo 24 = .ok (.putfield 104, 3) := by decide +kernel
theorem dX6_turnTo_27 : decode cX6_turnTo 27 = .ok (.aload_n 0, 1) := by decide +kernel
theorem dX6_turnTo_28 : decode cX6_turnTo 28 = .ok (.iconst (-1), 1) := by decide +kernel
theorem dX6_turnTo_29 : decode cX6_turnTo 29 = .ok (.putfield 114, 3) := by decide +kernel
theorem dX6_turnTo_32 : decode cX6_turnTo 32 = .ok (.return_, 1) := by decide +kernel
theorem dX6_won_0 : decode cX6_won 0 = .ok (.aload_n 0, 1) := by decide +kernel
theorem dX6_won_1 : decode cX6_won 1 = .ok (.getfield 41, 3) := by decide +kernel
theorem dX6_won_4 : decode cX6_won 4 = .ok (.iconst 0, 1) := by decide +kernel
theorem dX6_won_5 : decode cX6_won 5 = .ok (.iaload, 1) := by decide +kernel
theorem dX6_won_6 : decode cX6_won 6 = .ok (.bipush 7, 2) := by decide +kernel
theorem dX6_won_8 : decode cX6_won 8 = .ok (.if_icmp .ne 18, 3) := by decide +kernel
theorem dX6_won_11 : decode cX6_won 11 = .ok (.aload_n 0, 1) := by decide +kernel
theorem dX6_won_12 : decode cX6_won 12 = .ok (.getfield 41, 3) := by decide +kernel
theorem dX6_won_15 : decode cX6_won 15 = .ok (.iconst 2, 1) := by decide +kernel
theorem dX6_won_16 : decode cX6_won 16 = .ok (.iaload, 1) := by decide +kernel
theorem dX6_won_17 : decode cX6_won 17 = .ok (.bipush 7, 2) := by decide +kernel
theorem dX6_won_19 : decode cX6_won 19 = .ok (.if_icmp .ne 7, 3) := by decide +kernel
theorem dX6_won_22 : decode cX6_won 22 = .ok (.iconst 0, 1) := by decide +kernel
theorem dX6_won_23 : decode cX6_won 23 = .ok (.goto 31, 3) := by decide +kernel
theorem dX6_won_26 : decode cX6_won 26 = .ok (.aload_n 0, 1) := by decide +kernel
theorem dX6_won_27 : decode cX6_won 27 = .ok (.getfield 41, 3) := by decide +kernel
theorem dX6_won_30 : decode cX6_won 30 = .ok (.iconst 1, 1) := by decide +kernel
theorem dX6_won_31 : decode cX6_won 31 = .ok (.iaload, 1) := by decide +kernel
theorem dX6_won_32 : decode cX6_won 32 = .ok (.bipush 7, 2) := by decide +kernel
theorem dX6_won_34 : decode cX6_won 34 = .ok (.if_icmp .ne 18, 3) := by decide +kernel
theorem dX6_won_37 : decode cX6_won 37 = .ok (.aload_n 0, 1) := by decide +kernel
theorem dX6_won_38 : decode cX6_won 38 = .ok (.getfield 41, 3) := by decide +kernel
theorem dX6_won_41 : decode cX6_won 41 = .ok (.iconst 3, 1) := by decide +kernel
theorem dX6_won_42 : decode cX6_won 42 = .ok (.iaload, 1) := by decide +kernel
theorem dX6_won_43 : decode cX6_won 43 = .ok (.bipush 7, 2) := by decide +kernel
theorem dX6_won_45 : decode cX6_won 45 = .ok (.if_icmp .ne 7, 3) := by decide +kernel
theorem dX6_won_48 : decode cX6_won 48 = .ok (.iconst 1, 1) := by decide +kernel
theorem dX6_won_49 : decode cX6_won 49 = .ok (.goto 5, 3) := by decide +kernel
theorem dX6_won_52 : decode cX6_won 52 = .ok (.bipush (-4), 2) := by decide +kernel
theorem dX6_won_54 : decode cX6_won 54 = .ok (.ireturn, 1) := by decide +kernel
theorem dX6_canDo_0 : decode cX6_canDo 0 = .ok (.aload_n 0, 1) := by decide +kernel
theorem dX6_canDo_1 : decode cX6_canDo 1 = .ok (.getfield 95, 3) := by decide +kernel
theorem dX6_canDo_4 : decode cX6_canDo 4 = .ok (.ifCond .lt 16, 3) := by decide +kernel
theorem dX6_canDo_7 : decode cX6_canDo 7 = .ok (.aload_n 0, 1) := by decide +kernel
theorem dX6_canDo_8 : decode cX6_canDo 8 = .ok (.getfield 104, 3) := by decide +kernel
theorem dX6_canDo_11 : decode cX6_canDo 11 = .ok (.bipush (-4), 2) := by decide +kernel
theorem dX6_canDo_13 : decode cX6_canDo 13 = .ok (.if_icmp .ne 7, 3) := by decide +kernel
theorem dX6_canDo_16 : decode cX6_canDo 16 = .ok (.iconst 1, 1) := by decide +kernel
theorem dX6_canDo_17 : decode cX6_canDo 17 = .ok (.goto 4, 3) := by decide +kernel
theorem dX6_canDo_20 : decode cX6_canDo 20 = .ok (.iconst 0, 1) := by decide +kernel
theorem dX6_canDo_21 : decode cX6_canDo 21 = .ok (.istore_n 3, 1) := by decide +kernel
theorem dX6_canDo_22 : decode cX6_canDo 22 = .ok (.iload_n 1, 1) := by decide +kernel
theorem dX6_canDo_23 : decode cX6_canDo 23 = .ok (.tableswitch 162 0 5 #[37, 61, 63, 87, 116, 138], 37) := by decide +kernel
theorem dX6_canDo_60 : decode cX6_canDo 60 = .ok (.aload_n 0, 1) := by decide +kernel
theorem dX6_canDo_61 : decode cX6_canDo 61 = .ok (.getfield 95, 3) := by decide +kernel
theorem dX6_canDo_64 : decode cX6_canDo 64 = .ok (.ifCond .ge 18, 3) := by decide +kernel
theorem dX6_canDo_67 : decode cX6_canDo 67 = .ok (.aload_n 0, 1) := by decide +kernel
theorem dX6_canDo_68 : decode cX6_canDo 68 = .ok (.getfield 41, 3) := by decide +kernel
theorem dX6_canDo_71 : decode cX6_canDo 71 = .ok (.iload_n 2, 1) := by decide +kernel
theorem dX6_canDo_72 : decode cX6_canDo 72 = .ok (.iaload, 1) := by decide +kernel
theorem dX6_canDo_73 : decode cX6_canDo 73 = .ok (.bipush 7, 2) := by decide +kernel
theorem dX6_canDo_75 : decode cX6_canDo 75 = .ok (.if_icmp .eq 7, 3) := by decide +kernel
theorem dX6_canDo_78 : decode cX6_canDo 78 = .ok (.iconst 1, 1) := by decide +kernel
theorem dX6_canDo_79 : decode cX6_canDo 79 = .ok (.goto 4, 3) := by decide +kernel
theorem dX6_canDo_82 : decode cX6_canDo 82 = .ok (.iconst 0, 1) := by decide +kernel
theorem dX6_canDo_83 : decode cX6_canDo 83 = .ok (.ireturn, 1) := by decide +kernel
theorem dX6_canDo_84 : decode cX6_canDo 84 = .ok (.iload_n 3, 1) := by decide +kernel
theorem dX6_canDo_85 : decode cX6_canDo 85 = .ok (.ireturn, 1) := by decide +kernel
theorem dX6_canDo_86 : decode cX6_canDo 86 = .ok (.iload_n 3, 1) := by decide +kernel
theorem dX6_canDo_87 : decode cX6_canDo 87 = .ok (.ifCond .eq 21, 3) := by decide +kernel
theorem dX6_canDo_90 : decode cX6_canDo 90 = .ok (.aload_n 0, 1) := by decide +kernel
theorem dX6_canDo_91 : decode cX6_canDo 91 = .ok (.getfield 41, 3) := by decide +kernel
theorem dX6_canDo_94 : decode cX6_canDo 94 = .ok (.aload_n 0, 1) := by decide +kernel
theorem dX6_canDo_95 : decode cX6_canDo 95 = .ok (.getfield 95, 3) := by decide +kernel
theorem dX6_canDo_98 : decode cX6_canDo 98 = .ok (.iaload, 1) := by decide +kernel
theorem dX6_canDo_99 : decode cX6_canDo 99 = .ok (.bipush 6, 2) := by decide +kernel
theorem dX6_canDo_101 : decode cX6_canDo 101 = .ok (.if_icmp .ge 7, 3) := by decide +kernel
theorem dX6_canDo_104 : decode cX6_canDo 104 = .ok (.iconst 1, 1) := by decide +kernel
theorem dX6_canDo_105 : decode cX6_canDo 105 = .ok (.goto 4, 3) := by decide +kernel
theorem dX6_canDo_108 : decode cX6_canDo 108 = .ok (.iconst 0, 1) := by decide +kernel
theorem dX6_canDo_109 : decode cX6_canDo 109 = .ok (.ireturn, 1) := by decide +kernel
theorem dX6_canDo_110 : decode cX6_canDo 110 = .ok (.iload_n 3, 1) := by decide +kernel
theorem dX6_canDo_111 : decode cX6_canDo 111 = .ok (.ifCond .eq 26, 3) := by decide +kernel
theorem dX6_canDo_114 : decode cX6_canDo 114 = .ok (.iload_n 2, 1) := by decide +kernel
theorem dX6_canDo_115 : decode cX6_canDo 115 = .ok (.aload_n 0, 1) := by decide +kernel
theorem dX6_canDo_116 : decode cX6_canDo 116 = .ok (.getfield 95, 3) := by decide +kernel
theorem dX6_canDo_119 : decode cX6_canDo 119 = .ok (.if_icmp .eq 18, 3) := by decide +kernel
theorem dX6_canDo_122 : decode cX6_canDo 122 = .ok (.aload_n 0, 1) := by decide +kernel
theorem dX6_canDo_123 : decode cX6_canDo 123 = .ok (.getfield 41, 3) := by decide +kernel
theorem dX6_canDo_126 : decode cX6_canDo 126 = .ok (.iload_n 2, 1) := by decide +kernel
theorem dX6_canDo_127 : decode cX6_canDo 127 = .ok (.iaload, 1) := by decide +kernel
theorem dX6_canDo_128 : decode cX6_canDo 128 = .ok (.bipush 7, 2) := by decide +kernel
theorem dX6_canDo_130 : decode cX6_canDo 130 = .ok (.if_icmp .eq 7, 3) := by decide +kernel
theorem dX6_canDo_133 : decode cX6_canDo 133 = .ok (.iconst 1, 1) := by decide +kernel
theorem dX6_canDo_134 : decode cX6_canDo 134 = .ok (.goto 4, 3) := by decide +kernel
theorem dX6_canDo_137 : decode cX6_canDo 137 = .ok (.iconst 0, 1) := by decide +kernel
theorem dX6_canDo_138 : decode cX6_canDo 138 = .ok (.ireturn, 1) := by decide +kernel
theorem dX6_canDo_139 : decode cX6_canDo 139 = .ok (.aload_n 0, 1) := by decide +kernel
theorem dX6_canDo_140 : decode cX6_canDo 140 = .ok (.getfield 95, 3) := by decide +kernel
theorem dX6_canDo_143 : decode cX6_canDo 143 = .ok (.ifCond .lt 16, 3) := by decide +kernel
theorem dX6_canDo_146 : decode cX6_canDo 146 = .ok (.aload_n 0, 1) := by decide +kernel
theorem dX6_canDo_147 : decode cX6_canDo 147 = .ok (.getfield 104, 3) := by decide +kernel
theorem dX6_canDo_150 : decode cX6_canDo 150 = .ok (.bipush (-4), 2) := by decide +kernel
theorem dX6_canDo_152 : decode cX6_canDo 152 = .ok (.if_icmp .eq 7, 3) := by decide +kernel
theorem dX6_canDo_155 : decode cX6_canDo 155 = .ok (.iconst 1, 1) := by decide +kernel
theorem dX6_canDo_156 : decode cX6_canDo 156 = .ok (.goto 4, 3) := by decide +kernel
theorem dX6_canDo_159 : decode cX6_canDo 159 = .ok (.iconst 0, 1) := by decide +kernel
theorem dX6_canDo_160 : decode cX6_canDo 160 = .ok (.ireturn, 1) := by decide +kernel
theorem dX6_canDo_161 : decode cX6_canDo 161 = .ok (.iload_n 3, 1) := by decide +kernel
theorem dX6_canDo_162 : decode cX6_canDo 162 = .ok (.ifCond .eq 21, 3) := by decide +kernel
theorem dX6_canDo_165 : decode cX6_canDo 165 = .ok (.aload_n 0, 1) := by decide +kernel
theorem dX6_canDo_166 : decode cX6_canDo 166 = .ok (.getfield 41, 3) := by decide +kernel
theorem dX6_canDo_169 : decode cX6_canDo 169 = .ok (.aload_n 0, 1) := by decide +kernel
theorem dX6_canDo_170 : decode cX6_canDo 170 = .ok (.getfield 95, 3) := by decide +kernel
theorem dX6_canDo_173 : decode cX6_canDo 173 = .ok (.iaload, 1) := by decide +kernel
theorem dX6_canDo_174 : decode cX6_canDo 174 = .ok (.bipush 6, 2) := by decide +kernel
theorem dX6_canDo_176 : decode cX6_canDo 176 = .ok (.if_icmp .ne 7, 3) := by decide +kernel
theorem dX6_canDo_179 : decode cX6_canDo 179 = .ok (.iconst 1, 1) := by decide +kernel
theorem dX6_canDo_180 : decode cX6_canDo 180 = .ok (.goto 4, 3) := by decide +kernel
theorem dX6_canDo_183 : decode cX6_canDo 183 = .ok (.iconst 0, 1) := by decide +kernel
theorem dX6_canDo_184 : decode cX6_canDo 184 = .ok (.ireturn, 1) := by decide +kernel
theorem dX6_canDo_185 : decode cX6_canDo 185 = .ok (.aload_n 0, 1) := by decide +kernel
theorem dX6_canDo_186 : decode cX6_canDo 186 = .ok (.getfield 95, 3) := by decide +kernel
theorem dX6_canDo_189 : decode cX6_canDo 189 = .ok (.ifCond .ge 40, 3) := by decide +kernel
theorem dX6_canDo_192 : decode cX6_canDo 192 = .ok (.aload_n 0, 1) := by decide +kernel
theorem dX6_canDo_193 : decode cX6_canDo 193 = .ok (.getfield 114, 3) := by decide +kernel
theorem dX6_canDo_196 : decode cX6_canDo 196 = .ok (.ifCond .lt 33, 3) := by decide +kernel
theorem dX6_canDo_199 : decode cX6_canDo 199 = .ok (.aload_n 0, 1) := by decide +kernel
theorem dX6_canDo_200 : decode cX6_canDo 200 = .ok (.getfield 44, 3) := by decide +kernel
theorem dX6_canDo_203 : decode cX6_canDo 203 = .ok (.aload_n 0, 1) := by decide +kernel
theorem dX6_canDo_204 : decode cX6_canDo 204 = .ok (.getfield 117, 3) := by decide +kernel
theorem dX6_canDo_207 : decode cX6_canDo 207 = .ok (.iaload, 1) := by decide +kernel
theorem dX6_canDo_208 : decode cX6_canDo 208 = .ok (.ifCond .le 21, 3) := by decide +kernel
theorem dX6_canDo_211 : decode cX6_canDo 211 = .ok (.aload_n 0, 1) := by decide +kernel
theorem dX6_canDo_212 : decode cX6_canDo 212 = .ok (.getfield 41, 3) := by decide +kernel
theorem dX6_canDo_215 : decode cX6_canDo 215 = .ok (.aload_n 0, 1) := by decide +kernel
theorem dX6_canDo_216 : decode cX6_canDo 216 = .ok (.getfield 114, 3) := by decide +kernel
theorem dX6_canDo_219 : decode cX6_canDo 219 = .ok (.iaload, 1) := by decide +kernel
theorem dX6_canDo_220 : decode cX6_canDo 220 = .ok (.bipush 7, 2) := by decide +kernel
theorem dX6_canDo_222 : decode cX6_canDo 222 = .ok (.if_icmp .eq 7, 3) := by decide +kernel
theorem dX6_canDo_225 : decode cX6_canDo 225 = .ok (.iconst 1, 1) := by decide +kernel
theorem dX6_canDo_226 : decode cX6_canDo 226 = .ok (.goto 4, 3) := by decide +kernel
theorem dX6_canDo_229 : decode cX6_canDo 229 = .ok (.iconst 0, 1) := by decide +kernel
theorem dX6_canDo_230 : decode cX6_canDo 230 = .ok (.ireturn, 1) := by decide +kernel
theorem dX6_isWrong_0 : decode cX6_isWrong 0 = .ok (.iload_n 1, 1) := by decide +kernel
theorem dX6_isWrong_1 : decode cX6_isWrong 1 = .ok (.ifCond .ne 21, 3) := by decide +kernel
theorem dX6_isWrong_4 : decode cX6_isWrong 4 = .ok (.iload_n 2, 1) := by decide +kernel
theorem dX6_isWrong_5 : decode cX6_isWrong 5 = .ok (.iconst 2, 1) := by decide +kernel
theorem dX6_isWrong_6 : decode cX6_isWrong 6 = .ok (.irem, 1) := by decide +kernel
theorem dX6_isWrong_7 : decode cX6_isWrong 7 = .ok (.aload_n 0, 1) := by decide +kernel
theorem dX6_isWrong_8 : decode cX6_isWrong 8 = .ok (.getfield 120, 3) := by decide +kernel
theorem dX6_isWrong_11 : decode cX6_isWrong 11 = .ok (.if_icmp .eq 7, 3) := by decide +kernel
theorem dX6_isWrong_14 : decode cX6_isWrong 14 = .ok (.iconst 1, 1) := by decide +kernel
theorem dX6_isWrong_15 : decode cX6_isWrong 15 = .ok (.goto 28, 3) := by decide +kernel
theorem dX6_isWrong_18 : decode cX6_isWrong 18 = .ok (.iconst 0, 1) := by decide +kernel
theorem dX6_isWrong_19 : decode cX6_isWrong 19 = .ok (.goto 24, 3) := by decide +kernel
theorem dX6_isWrong_22 : decode cX6_isWrong 22 = .ok (.iload_n 1, 1) := by decide +kernel
theorem dX6_isWrong_23 : decode cX6_isWrong 23 = .ok (.iconst 3, 1) := by decide +kernel
theorem dX6_isWrong_24 : decode cX6_isWrong 24 = .ok (.if_icmp .ne 18, 3) := by decide +kernel
theorem dX6_isWrong_27 : decode cX6_isWrong 27 = .ok (.aload_n 0, 1) := by decide +kernel
theorem dX6_isWrong_28 : decode cX6_isWrong 28 = .ok (.getfield 111, 3) := by decide +kernel
theorem dX6_isWrong_31 : decode cX6_isWrong 31 = .ok (.iload_n 2, 1) := by decide +kernel
theorem dX6_isWrong_32 : decode cX6_isWrong 32 = .ok (.ishr, 1) := by decide +kernel
theorem dX6_isWrong_33 : decode cX6_isWrong 33 = .ok (.iconst 1, 1) := by decide +kernel
theorem dX6_isWrong_34 : decode cX6_isWrong 34 = .ok (.iand, 1) := by decide +kernel
theorem dX6_isWrong_35 : decode cX6_isWrong 35 = .ok (.ifCond .ne 7, 3) := by decide +kernel
theorem dX6_isWrong_38 : decode cX6_isWrong 38 = .ok (.iconst 1, 1) := by decide +kernel
theorem dX6_isWrong_39 : decode cX6_isWrong 39 = .ok (.goto 4, 3) := by decide +kernel
theorem dX6_isWrong_42 : decode cX6_isWrong 42 = .ok (.iconst 0, 1) := by decide +kernel
theorem dX6_isWrong_43 : decode cX6_isWrong 43 = .ok (.ireturn, 1) := by decide +kernel
theorem dX6_make_0 : decode cX6_make 0 = .ok (.iload_n 1, 1) := by decide +kernel
theorem dX6_make_1 : decode cX6_make 1 = .ok (.tableswitch 158 0 5 #[39, 51, 64, 93, 125, 139], 39) := by decide +kernel
theorem dX6_make_40 : decode cX6_make 40 = .ok (.aload_n 0, 1) := by decide +kernel
theorem dX6_make_41 : decode cX6_make 41 = .ok (.iload_n 2, 1) := by decide +kernel
theorem dX6_make_42 : decode cX6_make 42 = .ok (.aload_n 0, 1) := by decide +kernel
theorem dX6_make_43 : decode cX6_make 43 = .ok (.getfield 120, 3) := by decide +kernel
theorem dX6_make_46 : decode cX6_make 46 = .ok (.invokevirtual 123, 3) := by decide +kernel
theorem dX6_make_49 : decode cX6_make 49 = .ok (.goto 135, 3) := by decide +kernel
theorem dX6_make_52 : decode cX6_make 52 = .ok (.aload_n 0, 1) := by decide +kernel
theorem dX6_make_53 : decode cX6_make 53 = .ok (.dup, 1) := by decide +kernel
theorem dX6_make_54 : decode cX6_make 54 = .ok (.getfield 101, 3) := by decide +kernel
theorem dX6_make_57 : decode cX6_make 57 = .ok (.iconst 1, 1) := by decide +kernel
theorem dX6_make_58 : decode cX6_make 58 = .ok (.isub, 1) := by decide +kernel
theorem dX6_make_59 : decode cX6_make 59 = .ok (.putfield 101, 3) := by decide +kernel
theorem dX6_make_62 : decode cX6_make 62 = .ok (.goto 122, 3) := by decide +kernel
theorem dX6_make_65 : decode cX6_make 65 = .ok (.aload_n 0, 1) := by decide +kernel
theorem dX6_make_66 : decode cX6_make 66 = .ok (.getfield 41, 3) := by decide +kernel
theorem dX6_make_69 : decode cX6_make 69 = .ok (.aload_n 0, 1) := by decide +kernel
theorem dX6_make_70 : decode cX6_make 70 = .ok (.getfield 95, 3) := by decide +kernel
theorem dX6_make_73 : decode cX6_make 73 = .ok (.dup2, 1) := by decide +kernel
theorem dX6_make_74 : decode cX6_make 74 = .ok (.iaload, 1) := by decide +kernel
theorem dX6_make_75 : decode cX6_make 75 = .ok (.iconst 1, 1) := by decide +kernel
theorem dX6_make_76 : decode cX6_make 76 = .ok (.iadd, 1) := by decide +kernel
theorem dX6_make_77 : decode cX6_make 77 = .ok (.iastore, 1) := by decide +kernel
theorem dX6_make_78 : decode cX6_make 78 = .ok (.aload_n 0, 1) := by decide +kernel
theorem dX6_make_79 : decode cX6_make 79 = .ok (.iconst 1, 1) := by decide +kernel
theorem dX6_make_80 : decode cX6_make 80 = .ok (.putfield 101, 3) := by decide +kernel
theorem dX6_make_83 : decode cX6_make 83 = .ok (.aload_n 0, 1) := by decide +kernel
theorem dX6_make_84 : decode cX6_make 84 = .ok (.aload_n 0, 1) := by decide +kernel
theorem dX6_make_85 : decode cX6_make 85 = .ok (.invokevirtual 107, 3) := by decide +kernel
theorem dX6_make_88 : decode cX6_make 88 = .ok (.putfield 111, 3) := by decide +kernel
theorem dX6_make_91 : decode cX6_make 91 = .ok (.goto 93, 3) := by decide +kernel
theorem dX6_make_94 : decode cX6_make 94 = .ok (.aload_n 0, 1) := by decide +kernel
theorem dX6_make_95 : decode cX6_make 95 = .ok (.dup, 1) := by decide +kernel
theorem dX6_make_96 : decode cX6_make 96 = .ok (.getfield 101, 3) := by decide +kernel
theorem dX6_make_99 : decode cX6_make 99 = .ok (.iconst 1, 1) := by decide +kernel
theorem dX6_make_100 : decode cX6_make 100 = .ok (.isub, 1) := by decide +kernel
theorem dX6_make_101 : decode cX6_make 101 = .ok (.putfield 101, 3) := by decide +kernel
theorem dX6_make_104 : decode cX6_make 104 = .ok (.aload_n 0, 1) := by decide +kernel
theorem dX6_make_105 : decode cX6_make 105 = .ok (.iload_n 2, 1) := by decide +kernel
theorem dX6_make_106 : decode cX6_make 106 = .ok (.putfield 104, 3) := by decide +kernel
theorem dX6_make_109 : decode cX6_make 109 = .ok (.aload_n 0, 1) := by decide +kernel
theorem dX6_make_110 : decode cX6_make 110 = .ok (.dup, 1) := by decide +kernel
theorem dX6_make_111 : decode cX6_make 111 = .ok (.getfield 111, 3) := by decide +kernel
theorem dX6_make_114 : decode cX6_make 114 = .ok (.iconst 1, 1) := by decide +kernel
theorem dX6_make_115 : decode cX6_make 115 = .ok (.iload_n 2, 1) := by decide +kernel
theorem dX6_make_116 : decode cX6_make 116 = .ok (.ishl, 1) := by decide +kernel
theorem dX6_make_117 : decode cX6_make 117 = .ok (.iconst (-1), 1) := by decide +kernel
theorem dX6_make_118 : decode cX6_make 118 = .ok (.ixor, 1) := by decide +kernel
theorem dX6_make_119 : decode cX6_make 119 = .ok (.iand, 1) := by decide +kernel
theorem dX6_make_120 : decode cX6_make 120 = .ok (.putfield 111, 3) := by decide +kernel
theorem dX6_make_123 : decode cX6_make 123 = .ok (.goto 61, 3) := by decide +kernel
theorem dX6_make_126 : decode cX6_make 126 = .ok (.aload_n 0, 1) := by decide +kernel
theorem dX6_make_127 : decode cX6_make 127 = .ok (.iconst 1, 1) := by decide +kernel
theorem dX6_make_128 : decode cX6_make 128 = .ok (.putfield 101, 3) := by decide +kernel
theorem dX6_make_131 : decode cX6_make 131 = .ok (.aload_n 0, 1) := by decide +kernel
theorem dX6_make_132 : decode cX6_make 132 = .ok (.bipush (-4), 2) := by decide +kernel
theorem dX6_make_134 : decode cX6_make 134 = .ok (.putfield 104, 3) := by decide +kernel
theorem dX6_make_137 : decode cX6_make 137 = .ok (.goto 47, 3) := by decide +kernel
theorem dX6_make_140 : decode cX6_make 140 = .ok (.aload_n 0, 1) := by decide +kernel
theorem dX6_make_141 : decode cX6_make 141 = .ok (.getfield 41, 3) := by decide +kernel
theorem dX6_make_144 : decode cX6_make 144 = .ok (.aload_n 0, 1) := by decide +kernel
theorem dX6_make_145 : decode cX6_make 145 = .ok (.getfield 95, 3) := by decide +kernel
theorem dX6_make_148 : decode cX6_make 148 = .ok (.bipush 7, 2) := by decide +kernel
theorem dX6_make_150 : decode cX6_make 150 = .ok (.iastore, 1) := by decide +kernel
theorem dX6_make_151 : decode cX6_make 151 = .ok (.aload_n 0, 1) := by decide +kernel
theorem dX6_make_152 : decode cX6_make 152 = .ok (.iconst 0, 1) := by decide +kernel
theorem dX6_make_153 : decode cX6_make 153 = .ok (.putfield 101, 3) := by decide +kernel
theorem dX6_make_156 : decode cX6_make 156 = .ok (.goto 28, 3) := by decide +kernel
theorem dX6_make_159 : decode cX6_make 159 = .ok (.aload_n 0, 1) := by decide +kernel
theorem dX6_make_160 : decode cX6_make 160 = .ok (.getfield 44, 3) := by decide +kernel
theorem dX6_make_163 : decode cX6_make 163 = .ok (.aload_n 0, 1) := by decide +kernel
theorem dX6_make_164 : decode cX6_make 164 = .ok (.getfield 117, 3) := by decide +kernel
theorem dX6_make_167 : decode cX6_make 167 = .ok (.dup2, 1) := by decide +kernel
theorem dX6_make_168 : decode cX6_make 168 = .ok (.iaload, 1) := by decide +kernel
theorem dX6_make_169 : decode cX6_make 169 = .ok (.iconst 1, 1) := by decide +kernel
theorem dX6_make_170 : decode cX6_make 170 = .ok (.isub, 1) := by decide +kernel
theorem dX6_make_171 : decode cX6_make 171 = .ok (.iastore, 1) := by decide +kernel
theorem dX6_make_172 : decode cX6_make 172 = .ok (.aload_n 0, 1) := by decide +kernel
theorem dX6_make_173 : decode cX6_make 173 = .ok (.aload_n 0, 1) := by decide +kernel
theorem dX6_make_174 : decode cX6_make 174 = .ok (.getfield 114, 3) := by decide +kernel
theorem dX6_make_177 : decode cX6_make 177 = .ok (.aload_n 0, 1) := by decide +kernel
theorem dX6_make_178 : decode cX6_make 178 = .ok (.getfield 117, 3) := by decide +kernel
theorem dX6_make_181 : decode cX6_make 181 = .ok (.invokevirtual 123, 3) := by decide +kernel
theorem dX6_make_184 : decode cX6_make 184 = .ok (.aload_n 0, 1) := by decide +kernel
theorem dX6_make_185 : decode cX6_make 185 = .ok (.getfield 95, 3) := by decide +kernel
theorem dX6_make_188 : decode cX6_make 188 = .ok (.ifCond .lt 23, 3) := by decide +kernel
theorem dX6_make_191 : decode cX6_make 191 = .ok (.aload_n 0, 1) := by decide +kernel
theorem dX6_make_192 : decode cX6_make 192 = .ok (.getfield 101, 3) := by decide +kernel
theorem dX6_make_195 : decode cX6_make 195 = .ok (.ifCond .ne 16, 3) := by decide +kernel
theorem dX6_make_198 : decode cX6_make 198 = .ok (.aload_n 0, 1) := by decide +kernel
theorem dX6_make_199 : decode cX6_make 199 = .ok (.getfield 104, 3) := by decide +kernel
theorem dX6_make_202 : decode cX6_make 202 = .ok (.bipush (-4), 2) := by decide +kernel
theorem dX6_make_204 : decode cX6_make 204 = .ok (.if_icmp .ne 7, 3) := by decide +kernel
theorem dX6_make_207 : decode cX6_make 207 = .ok (.aload_n 0, 1) := by decide +kernel
theorem dX6_make_208 : decode cX6_make 208 = .ok (.invokevirtual 127, 3) := by decide +kernel
theorem dX6_make_211 : decode cX6_make 211 = .ok (.return_, 1) := by decide +kernel
theorem dX6_goTo_0 : decode cX6_goTo 0 = .ok (.iconst 0, 1) := by decide +kernel
theorem dX6_goTo_1 : decode cX6_goTo 1 = .ok (.istore_n 2, 1) := by decide +kernel
theorem dX6_goTo_2 : decode cX6_goTo 2 = .ok (.iload_n 2, 1) := by decide +kernel
theorem dX6_goTo_3 : decode cX6_goTo 3 = .ok (.iconst 4, 1) := by decide +kernel
theorem dX6_goTo_4 : decode cX6_goTo 4 = .ok (.if_icmp .ge 16, 3) := by decide +kernel
theorem dX6_goTo_7 : decode cX6_goTo 7 = .ok (.aload_n 0, 1) := by decide +kernel
theorem dX6_goTo_8 : decode cX6_goTo 8 = .ok (.getfield 41, 3) := by decide +kernel
theorem dX6_goTo_11 : decode cX6_goTo 11 = .ok (.iload_n 2, 1) := by decide +kernel
theorem dX6_goTo_12 : decode cX6_goTo 12 = .ok (.iconst 0, 1) := by decide +kernel
theorem dX6_goTo_13 : decode cX6_goTo 13 = .ok (.iastore, 1) := by decide +kernel
theorem dX6_goTo_14 : decode cX6_goTo 14 = .ok (.iinc 2 1, 3) := by decide +kernel
theorem dX6_goTo_17 : decode cX6_goTo 17 = .ok (.goto (-15), 3) := by decide +kernel
theorem dX6_goTo_20 : decode cX6_goTo 20 = .ok (.aload_n 0, 1) := by decide +kernel
theorem dX6_goTo_21 : decode cX6_goTo 21 = .ok (.getfield 44, 3) := by decide +kernel
theorem dX6_goTo_24 : decode cX6_goTo 24 = .ok (.iconst 0, 1) := by decide +kernel
theorem dX6_goTo_25 : decode cX6_goTo 25 = .ok (.aload_n 0, 1) := by decide +kernel
theorem dX6_goTo_26 : decode cX6_goTo 26 = .ok (.getfield 16, 3) := by decide +kernel
theorem dX6_goTo_29 : decode cX6_goTo 29 = .ok (.iconst 0, 1) := by decide +kernel
theorem dX6_goTo_30 : decode cX6_goTo 30 = .ok (.iaload, 1) := by decide +kernel
theorem dX6_goTo_31 : decode cX6_goTo 31 = .ok (.iastore, 1) := by decide +kernel
theorem dX6_goTo_32 : decode cX6_goTo 32 = .ok (.aload_n 0, 1) := by decide +kernel
theorem dX6_goTo_33 : decode cX6_goTo 33 = .ok (.getfield 44, 3) := by decide +kernel
theorem dX6_goTo_36 : decode cX6_goTo 36 = .ok (.iconst 1, 1) := by decide +kernel
theorem dX6_goTo_37 : decode cX6_goTo 37 = .ok (.aload_n 0, 1) := by decide +kernel
theorem dX6_goTo_38 : decode cX6_goTo 38 = .ok (.getfield 16, 3) := by decide +kernel
theorem dX6_goTo_41 : decode cX6_goTo 41 = .ok (.iconst 1, 1) := by decide +kernel
theorem dX6_goTo_42 : decode cX6_goTo 42 = .ok (.iaload, 1) := by decide +kernel
theorem dX6_goTo_43 : decode cX6_goTo 43 = .ok (.iastore, 1) := by decide +kernel
theorem dX6_goTo_44 : decode cX6_goTo 44 = .ok (.aload_n 0, 1) := by decide +kernel
theorem dX6_goTo_45 : decode cX6_goTo 45 = .ok (.iconst 0, 1) := by decide +kernel
theorem dX6_goTo_46 : decode cX6_goTo 46 = .ok (.invokevirtual 130, 3) := by decide +kernel
theorem dX6_goTo_49 : decode cX6_goTo 49 = .ok (.iconst 0, 1) := by decide +kernel
theorem dX6_goTo_50 : decode cX6_goTo 50 = .ok (.istore_n 2, 1) := by decide +kernel
theorem dX6_goTo_51 : decode cX6_goTo 51 = .ok (.iload_n 2, 1) := by decide +kernel
theorem dX6_goTo_52 : decode cX6_goTo 52 = .ok (.iload_n 1, 1) := by decide +kernel
theorem dX6_goTo_53 : decode cX6_goTo 53 = .ok (.if_icmp .gt 69, 3) := by decide +kernel
theorem dX6_goTo_56 : decode cX6_goTo 56 = .ok (.aload_n 0, 1) := by decide +kernel
theorem dX6_goTo_57 : decode cX6_goTo 57 = .ok (.getfield 38, 3) := by decide +kernel
theorem dX6_goTo_60 : decode cX6_goTo 60 = .ok (.iload_n 2, 1) := by decide +kernel
theorem dX6_goTo_61 : decode cX6_goTo 61 = .ok (.baload, 1) := by decide +kernel
theorem dX6_goTo_62 : decode cX6_goTo 62 = .ok (.ifCond .eq 14, 3) := by decide +kernel
theorem dX6_goTo_65 : decode cX6_goTo 65 = .ok (.aload_n 0, 1) := by decide +kernel
theorem dX6_goTo_66 : decode cX6_goTo 66 = .ok (.getfield 95, 3) := by decide +kernel
theorem dX6_goTo_69 : decode cX6_goTo 69 = .ok (.ifCond .lt 7, 3) := by decide +kernel
theorem dX6_goTo_72 : decode cX6_goTo 72 = .ok (.aload_n 0, 1) := by decide +kernel
theorem dX6_goTo_73 : decode cX6_goTo 73 = .ok (.invokevirtual 127, 3) := by decide +kernel
theorem dX6_goTo_76 : decode cX6_goTo 76 = .ok (.aload_n 0, 1) := by decide +kernel
theorem dX6_goTo_77 : decode cX6_goTo 77 = .ok (.getfield 35, 3) := by decide +kernel
theorem dX6_goTo_80 : decode cX6_goTo 80 = .ok (.iload_n 2, 1) := by decide +kernel
theorem dX6_goTo_81 : decode cX6_goTo 81 = .ok (.iaload, 1) := by decide +kernel
theorem dX6_goTo_82 : decode cX6_goTo 82 = .ok (.ifCond .lt 13, 3) := by decide +kernel
theorem dX6_goTo_85 : decode cX6_goTo 85 = .ok (.aload_n 0, 1) := by decide +kernel
theorem dX6_goTo_86 : decode cX6_goTo 86 = .ok (.aload_n 0, 1) := by decide +kernel
theorem dX6_goTo_87 : decode cX6_goTo 87 = .ok (.getfield 35, 3) := by decide +kernel
theorem dX6_goTo_90 : decode cX6_goTo 90 = .ok (.iload_n 2, 1) := by decide +kernel
theorem dX6_goTo_91 : decode cX6_goTo 91 = .ok (.iaload, 1) := by decide +kernel
theorem dX6_goTo_92 : decode cX6_goTo 92 = .ok (.invokevirtual 130, 3) := by decide +kernel
theorem dX6_goTo_95 : decode cX6_goTo 95 = .ok (.iload_n 2, 1) := by decide +kernel
theorem dX6_goTo_96 : decode cX6_goTo 96 = .ok (.iload_n 1, 1) := by decide +kernel
theorem dX6_goTo_97 : decode cX6_goTo 97 = .ok (.if_icmp .ge 19, 3) := by decide +kernel
theorem dX6_goTo_100 : decode cX6_goTo 100 = .ok (.aload_n 0, 1) := by decide +kernel
theorem dX6_goTo_101 : decode cX6_goTo 101 = .ok (.aload_n 0, 1) := by decide +kernel
theorem dX6_goTo_102 : decode cX6_goTo 102 = .ok (.getfield 19, 3) := by decide +kernel
theorem dX6_goTo_105 : decode cX6_goTo 105 = .ok (.iload_n 2, 1) := by decide +kernel
theorem dX6_goTo_106 : decode cX6_goTo 106 = .ok (.iaload, 1) := by decide +kernel
theorem dX6_goTo_107 : decode cX6_goTo 107 = .ok (.aload_n 0, 1) := by decide +kernel
theorem dX6_goTo_108 : decode cX6_goTo 108 = .ok (.getfield 22, 3) := by decide +kernel
theorem dX6_goTo_111 : decode cX6_goTo 111 = .ok (.iload_n 2, 1) := by decide +kernel
theorem dX6_goTo_112 : decode cX6_goTo 112 = .ok (.iaload, 1) := by decide +kernel
theorem dX6_goTo_113 : decode cX6_goTo 113 = .ok (.invokevirtual 133, 3) := by decide +kernel
theorem dX6_goTo_116 : decode cX6_goTo 116 = .ok (.iinc 2 1, 3) := by decide +kernel
theorem dX6_goTo_119 : decode cX6_goTo 119 = .ok (.goto (-68), 3) := by decide +kernel
theorem dX6_goTo_122 : decode cX6_goTo 122 = .ok (.return_, 1) := by decide +kernel
theorem dX6_stroke_0 : decode cX6_stroke 0 = .ok (.iload_n 1, 1) := by decide +kernel
theorem dX6_stroke_1 : decode cX6_stroke 1 = .ok (.ifCond .eq 8, 3) := by decide +kernel
theorem dX6_stroke_4 : decode cX6_stroke 4 = .ok (.iload_n 1, 1) := by decide +kernel
theorem dX6_stroke_5 : decode cX6_stroke 5 = .ok (.iconst 3, 1) := by decide +kernel
theorem dX6_stroke_6 : decode cX6_stroke 6 = .ok (.if_icmp .ne 7, 3) := by decide +kernel
theorem dX6_stroke_9 : decode cX6_stroke 9 = .ok (.iconst 1, 1) := by decide +kernel
theorem dX6_stroke_10 : decode cX6_stroke 10 = .ok (.goto 4, 3) := by decide +kernel
theorem dX6_stroke_13 : decode cX6_stroke 13 = .ok (.iconst 0, 1) := by decide +kernel
theorem dX6_stroke_14 : decode cX6_stroke 14 = .ok (.istore_n 3, 1) := by decide +kernel
theorem dX6_stroke_15 : decode cX6_stroke 15 = .ok (.iload_n 1, 1) := by decide +kernel
theorem dX6_stroke_16 : decode cX6_stroke 16 = .ok (.iconst 0, 1) := by decide +kernel
theorem dX6_stroke_17 : decode cX6_stroke 17 = .ok (.bipush 6, 2) := by decide +kernel
theorem dX6_stroke_19 : decode cX6_stroke 19 = .ok (.invokestatic 72, 3) := by decide +kernel
theorem dX6_stroke_22 : decode cX6_stroke 22 = .ok (.ifCond .eq 16, 3) := by decide +kernel
theorem dX6_stroke_25 : decode cX6_stroke 25 = .ok (.iload_n 3, 1) := by decide +kernel
theorem dX6_stroke_26 : decode cX6_stroke 26 = .ok (.ifCond .eq 14, 3) := by decide +kernel
theorem dX6_stroke_29 : decode cX6_stroke 29 = .ok (.iload_n 2, 1) := by decide +kernel
theorem dX6_stroke_30 : decode cX6_stroke 30 = .ok (.iconst 0, 1) := by decide +kernel
theorem dX6_stroke_31 : decode cX6_stroke 31 = .ok (.iconst 3, 1) := by decide +kernel
theorem dX6_stroke_32 : decode cX6_stroke 32 = .ok (.invokestatic 72, 3) := by decide +kernel
theorem dX6_stroke_35 : decode cX6_stroke 35 = .ok (.ifCond .ne 5, 3) := by decide +kernel
theorem dX6_stroke_38 : decode cX6_stroke 38 = .ok (.iconst (-1), 1) := by decide +kernel
theorem dX6_stroke_39 : decode cX6_stroke 39 = .ok (.ireturn, 1) := by decide +kernel
theorem dX6_stroke_40 : decode cX6_stroke 40 = .ok (.aload_n 0, 1) := by decide +kernel
theorem dX6_stroke_41 : decode cX6_stroke 41 = .ok (.getfield 84, 3) := by decide +kernel
theorem dX6_stroke_44 : decode cX6_stroke 44 = .ok (.ifCond .ne 6, 3) := by decide +kernel
theorem dX6_stroke_47 : decode cX6_stroke 47 = .ok (.bipush (-2), 2) := by decide +kernel
theorem dX6_stroke_49 : decode cX6_stroke 49 = .ok (.ireturn, 1) := by decide +kernel
theorem dX6_stroke_50 : decode cX6_stroke 50 = .ok (.aload_n 0, 1) := by decide +kernel
theorem dX6_stroke_51 : decode cX6_stroke 51 = .ok (.aload_n 0, 1) := by decide +kernel
theorem dX6_stroke_52 : decode cX6_stroke 52 = .ok (.getfield 88, 3) := by decide +kernel
theorem dX6_stroke_55 : decode cX6_stroke 55 = .ok (.invokevirtual 136, 3) := by decide +kernel
theorem dX6_stroke_58 : decode cX6_stroke 58 = .ok (.iload_n 3, 1) := by decide +kernel
theorem dX6_stroke_59 : decode cX6_stroke 59 = .ok (.ifCond .eq 7, 3) := by decide +kernel
theorem dX6_stroke_62 : decode cX6_stroke 62 = .ok (.iload_n 2, 1) := by decide +kernel
theorem dX6_stroke_63 : decode cX6_stroke 63 = .ok (.goto 4, 3) := by decide +kernel
theorem dX6_stroke_66 : decode cX6_stroke 66 = .ok (.iconst 0, 1) := by decide +kernel
theorem dX6_stroke_67 : decode cX6_stroke 67 = .ok (.istore 4, 2) := by decide +kernel
theorem dX6_stroke_69 : decode cX6_stroke 69 = .ok (.aload_n 0, 1) := by decide +kernel
theorem dX6_stroke_70 : decode cX6_stroke 70 = .ok (.invokevirtual 139, 3) := by decide +kernel
theorem dX6_stroke_73 : decode cX6_stroke 73 = .ok (.bipush (-4), 2) := by decide +kernel
theorem dX6_stroke_75 : decode cX6_stroke 75 = .ok (.if_icmp .ne 13, 3) := by decide +kernel
theorem dX6_stroke_78 : decode cX6_stroke 78 = .ok (.aload_n 0, 1) := by decide +kernel
theorem dX6_stroke_79 : decode cX6_stroke 79 = .ok (.iload_n 1, 1) := by decide +kernel
theorem dX6_stroke_80 : decode cX6_stroke 80 = .ok (.iload 4, 2) := by decide +kernel
theorem dX6_stroke_82 : decode cX6_stroke 82 = .ok (.invokevirtual 142, 3) := by decide +kernel
theorem dX6_stroke_85 : decode cX6_stroke 85 = .ok (.ifCond .ne 6, 3) := by decide +kernel
theorem dX6_stroke_88 : decode cX6_stroke 88 = .ok (.bipush (-2), 2) := by decide +kernel
theorem dX6_stroke_90 : decode cX6_stroke 90 = .ok (.ireturn, 1) := by decide +kernel
theorem dX6_stroke_91 : decode cX6_stroke 91 = .ok (.aload_n 0, 1) := by decide +kernel
theorem dX6_stroke_92 : decode cX6_stroke 92 = .ok (.getfield 88, 3) := by decide +kernel
theorem dX6_stroke_95 : decode cX6_stroke 95 = .ok (.sipush 150, 3) := by decide +kernel
theorem dX6_stroke_98 : decode cX6_stroke 98 = .ok (.if_icmp .ne 6, 3) := by decide +kernel
theorem dX6_stroke_101 : decode cX6_stroke 101 = .ok (.bipush (-3), 2) := by decide +kernel
theorem dX6_stroke_103 : decode cX6_stroke 103 = .ok (.ireturn, 1) := by decide +kernel
theorem dX6_stroke_104 : decode cX6_stroke 104 = .ok (.aload_n 0, 1) := by decide +kernel
theorem dX6_stroke_105 : decode cX6_stroke 105 = .ok (.getfield 19, 3) := by decide +kernel
theorem dX6_stroke_108 : decode cX6_stroke 108 = .ok (.aload_n 0, 1) := by decide +kernel
theorem dX6_stroke_109 : decode cX6_stroke 109 = .ok (.getfield 88, 3) := by decide +kernel
theorem dX6_stroke_112 : decode cX6_stroke 112 = .ok (.iload_n 1, 1) := by decide +kernel
theorem dX6_stroke_113 : decode cX6_stroke 113 = .ok (.iastore, 1) := by decide +kernel
theorem dX6_stroke_114 : decode cX6_stroke 114 = .ok (.aload_n 0, 1) := by decide +kernel
theorem dX6_stroke_115 : decode cX6_stroke 115 = .ok (.getfield 22, 3) := by decide +kernel
theorem dX6_stroke_118 : decode cX6_stroke 118 = .ok (.aload_n 0, 1) := by decide +kernel
theorem dX6_stroke_119 : decode cX6_stroke 119 = .ok (.getfield 88, 3) := by decide +kernel
theorem dX6_stroke_122 : decode cX6_stroke 122 = .ok (.iload 4, 2) := by decide +kernel
theorem dX6_stroke_124 : decode cX6_stroke 124 = .ok (.iastore, 1) := by decide +kernel
theorem dX6_stroke_125 : decode cX6_stroke 125 = .ok (.aload_n 0, 1) := by decide +kernel
theorem dX6_stroke_126 : decode cX6_stroke 126 = .ok (.getfield 31, 3) := by decide +kernel
theorem dX6_stroke_129 : decode cX6_stroke 129 = .ok (.aload_n 0, 1) := by decide +kernel
theorem dX6_stroke_130 : decode cX6_stroke 130 = .ok (.getfield 88, 3) := by decide +kernel
theorem dX6_stroke_133 : decode cX6_stroke 133 = .ok (.aload_n 0, 1) := by decide +kernel
theorem dX6_stroke_134 : decode cX6_stroke 134 = .ok (.iload_n 1, 1) := by decide +kernel
theorem dX6_stroke_135 : decode cX6_stroke 135 = .ok (.iload 4, 2) := by decide +kernel
theorem dX6_stroke_137 : decode cX6_stroke 137 = .ok (.invokevirtual 146, 3) := by decide +kernel
theorem dX6_stroke_140 : decode cX6_stroke 140 = .ok (.bastore, 1) := by decide +kernel
theorem dX6_stroke_141 : decode cX6_stroke 141 = .ok (.aload_n 0, 1) := by decide +kernel
theorem dX6_stroke_142 : decode cX6_stroke 142 = .ok (.getfield 25, 3) := by decide +kernel
theorem dX6_stroke_145 : decode cX6_stroke 145 = .ok (.aload_n 0, 1) := by decide +kernel
theorem dX6_stroke_146 : decode cX6_stroke 146 = .ok (.getfield 88, 3) := by decide +kernel
theorem dX6_stroke_149 : decode cX6_stroke 149 = .ok (.iload_n 1, 1) := by decide +kernel
theorem dX6_stroke_150 : decode cX6_stroke 150 = .ok (.ifCond .ne 8, 3) := by decide +kernel
theorem dX6_stroke_153 : decode cX6_stroke 153 = .ok (.iload 4, 2) := by decide +kernel
theorem dX6_stroke_155 : decode cX6_stroke 155 = .ok (.goto 20, 3) := by decide +kernel
theorem dX6_stroke_158 : decode cX6_stroke 158 = .ok (.iload_n 1, 1) := by decide +kernel
theorem dX6_stroke_159 : decode cX6_stroke 159 = .ok (.bipush 6, 2) := by decide +kernel
theorem dX6_stroke_161 : decode cX6_stroke 161 = .ok (.if_icmp .ne 10, 3) := by decide +kernel
theorem dX6_stroke_164 : decode cX6_stroke 164 = .ok (.aload_n 0, 1) := by decide +kernel
theorem dX6_stroke_165 : decode cX6_stroke 165 = .ok (.getfield 114, 3) := by decide +kernel
theorem dX6_stroke_168 : decode cX6_stroke 168 = .ok (.goto 7, 3) := by decide +kernel
theorem dX6_stroke_171 : decode cX6_stroke 171 = .ok (.aload_n 0, 1) := by decide +kernel
theorem dX6_stroke_172 : decode cX6_stroke 172 = .ok (.getfield 95, 3) := by decide +kernel
theorem dX6_stroke_175 : decode cX6_stroke 175 = .ok (.iastore, 1) := by decide +kernel
theorem dX6_stroke_176 : decode cX6_stroke 176 = .ok (.aload_n 0, 1) := by decide +kernel
theorem dX6_stroke_177 : decode cX6_stroke 177 = .ok (.getfield 28, 3) := by decide +kernel
theorem dX6_stroke_180 : decode cX6_stroke 180 = .ok (.aload_n 0, 1) := by decide +kernel
theorem dX6_stroke_181 : decode cX6_stroke 181 = .ok (.getfield 88, 3) := by decide +kernel
theorem dX6_stroke_184 : decode cX6_stroke 184 = .ok (.iload_n 1, 1) := by decide +kernel
theorem dX6_stroke_185 : decode cX6_stroke 185 = .ok (.ifCond .ne 10, 3) := by decide +kernel
theorem dX6_stroke_188 : decode cX6_stroke 188 = .ok (.aload_n 0, 1) := by decide +kernel
theorem dX6_stroke_189 : decode cX6_stroke 189 = .ok (.getfield 120, 3) := by decide +kernel
theorem dX6_stroke_192 : decode cX6_stroke 192 = .ok (.goto 20, 3) := by decide +kernel
theorem dX6_stroke_195 : decode cX6_stroke 195 = .ok (.iload_n 1, 1) := by decide +kernel
theorem dX6_stroke_196 : decode cX6_stroke 196 = .ok (.bipush 6, 2) := by decide +kernel
theorem dX6_stroke_198 : decode cX6_stroke 198 = .ok (.if_icmp .ne 10, 3) := by decide +kernel
theorem dX6_stroke_201 : decode cX6_stroke 201 = .ok (.aload_n 0, 1) := by decide +kernel
theorem dX6_stroke_202 : decode cX6_stroke 202 = .ok (.getfield 117, 3) := by decide +kernel
theorem dX6_stroke_205 : decode cX6_stroke 205 = .ok (.goto 7, 3) := by decide +kernel
theorem dX6_stroke_208 : decode cX6_stroke 208 = .ok (.aload_n 0, 1) := by decide +kernel
theorem dX6_stroke_209 : decode cX6_stroke 209 = .ok (.getfield 98, 3) := by decide +kernel
theorem dX6_stroke_212 : decode cX6_stroke 212 = .ok (.iastore, 1) := by decide +kernel
theorem dX6_stroke_213 : decode cX6_stroke 213 = .ok (.aload_n 0, 1) := by decide +kernel
theorem dX6_stroke_214 : decode cX6_stroke 214 = .ok (.dup, 1) := by decide +kernel
theorem dX6_stroke_215 : decode cX6_stroke 215 = .ok (.getfield 88, 3) := by decide +kernel
theorem dX6_stroke_218 : decode cX6_stroke 218 = .ok (.iconst 1, 1) := by decide +kernel
theorem dX6_stroke_219 : decode cX6_stroke 219 = .ok (.iadd, 1) := by decide +kernel
theorem dX6_stroke_220 : decode cX6_stroke 220 = .ok (.putfield 88, 3) := by decide +kernel
theorem dX6_stroke_223 : decode cX6_stroke 223 = .ok (.aload_n 0, 1) := by decide +kernel
theorem dX6_stroke_224 : decode cX6_stroke 224 = .ok (.getfield 88, 3) := by decide +kernel
theorem dX6_stroke_227 : decode cX6_stroke 227 = .ok (.iconst 1, 1) := by decide +kernel
theorem dX6_stroke_228 : decode cX6_stroke 228 = .ok (.isub, 1) := by decide +kernel
theorem dX6_stroke_229 : decode cX6_stroke 229 = .ok (.ireturn, 1) := by decide +kernel
theorem dX6_isStroke_0 : decode cX6_isStroke 0 = .ok (.aload_n 0, 1) := by decide +kernel
theorem dX6_isStroke_1 : decode cX6_isStroke 1 = .ok (.getfield 84, 3) := by decide +kernel
theorem dX6_isStroke_4 : decode cX6_isStroke 4 = .ok (.ifCond .eq 21, 3) := by decide +kernel
theorem dX6_isStroke_7 : decode cX6_isStroke 7 = .ok (.iload_n 1, 1) := by decide +kernel
theorem dX6_isStroke_8 : decode cX6_isStroke 8 = .ok (.iconst 0, 1) := by decide +kernel
theorem dX6_isStroke_9 : decode cX6_isStroke 9 = .ok (.aload_n 0, 1) := by decide +kernel
theorem dX6_isStroke_10 : decode cX6_isStroke 10 = .ok (.getfield 88, 3) := by decide +kernel
theorem dX6_isStroke_13 : decode cX6_isStroke 13 = .ok (.iconst 1, 1) := by decide +kernel
theorem dX6_isStroke_14 : decode cX6_isStroke 14 = .ok (.isub, 1) := by decide +kernel
theorem dX6_isStroke_15 : decode cX6_isStroke 15 = .ok (.invokestatic 72, 3) := by decide +kernel
theorem dX6_isStroke_18 : decode cX6_isStroke 18 = .ok (.ifCond .eq 7, 3) := by decide +kernel
theorem dX6_isStroke_21 : decode cX6_isStroke 21 = .ok (.iconst 1, 1) := by decide +kernel
theorem dX6_isStroke_22 : decode cX6_isStroke 22 = .ok (.goto 4, 3) := by decide +kernel
theorem dX6_isStroke_25 : decode cX6_isStroke 25 = .ok (.iconst 0, 1) := by decide +kernel
theorem dX6_isStroke_26 : decode cX6_isStroke 26 = .ok (.ireturn, 1) := by decide +kernel
theorem dX6_told_0 : decode cX6_told 0 = .ok (.iload_n 1, 1) := by decide +kernel
theorem dX6_told_1 : decode cX6_told 1 = .ok (.ifCond .lt 12, 3) := by decide +kernel
theorem dX6_told_4 : decode cX6_told 4 = .ok (.iload_n 2, 1) := by decide +kernel
theorem dX6_told_5 : decode cX6_told 5 = .ok (.iconst 0, 1) := by decide +kernel
theorem dX6_told_6 : decode cX6_told 6 = .ok (.iconst 3, 1) := by decide +kernel
theorem dX6_told_7 : decode cX6_told 7 = .ok (.invokestatic 72, 3) := by decide +kernel
theorem dX6_told_10 : decode cX6_told 10 = .ok (.ifCond .ne 5, 3) := by decide +kernel
theorem dX6_told_13 : decode cX6_told 13 = .ok (.iconst (-1), 1) := by decide +kernel
theorem dX6_told_14 : decode cX6_told 14 = .ok (.ireturn, 1) := by decide +kernel
theorem dX6_told_15 : decode cX6_told 15 = .ok (.aload_n 0, 1) := by decide +kernel
theorem dX6_told_16 : decode cX6_told 16 = .ok (.iload_n 1, 1) := by decide +kernel
theorem dX6_told_17 : decode cX6_told 17 = .ok (.invokevirtual 149, 3) := by decide +kernel
theorem dX6_told_20 : decode cX6_told 20 = .ok (.ifCond .ne 6, 3) := by decide +kernel
theorem dX6_told_23 : decode cX6_told 23 = .ok (.bipush (-4), 2) := by decide +kernel
theorem dX6_told_25 : decode cX6_told 25 = .ok (.ireturn, 1) := by decide +kernel
theorem dX6_told_26 : decode cX6_told 26 = .ok (.iload_n 2, 1) := by decide +kernel
theorem dX6_told_27 : decode cX6_told 27 = .ok (.ifCond .ne 12, 3) := by decide +kernel
theorem dX6_told_30 : decode cX6_told 30 = .ok (.aload_n 0, 1) := by decide +kernel
theorem dX6_told_31 : decode cX6_told 31 = .ok (.getfield 19, 3) := by decide +kernel
theorem dX6_told_34 : decode cX6_told 34 = .ok (.iload_n 1, 1) := by decide +kernel
theorem dX6_told_35 : decode cX6_told 35 = .ok (.iaload, 1) := by decide +kernel
theorem dX6_told_36 : decode cX6_told 36 = .ok (.goto 45, 3) := by decide +kernel
theorem dX6_told_39 : decode cX6_told 39 = .ok (.iload_n 2, 1) := by decide +kernel
theorem dX6_told_40 : decode cX6_told 40 = .ok (.iconst 1, 1) := by decide +kernel
theorem dX6_told_41 : decode cX6_told 41 = .ok (.if_icmp .ne 12, 3) := by decide +kernel
theorem dX6_told_44 : decode cX6_told 44 = .ok (.aload_n 0, 1) := by decide +kernel
theorem dX6_told_45 : decode cX6_told 45 = .ok (.getfield 25, 3) := by decide +kernel
theorem dX6_told_48 : decode cX6_told 48 = .ok (.iload_n 1, 1) := by decide +kernel
theorem dX6_told_49 : decode cX6_told 49 = .ok (.iaload, 1) := by decide +kernel
theorem dX6_told_50 : decode cX6_told 50 = .ok (.goto 31, 3) := by decide +kernel
theorem dX6_told_53 : decode cX6_told 53 = .ok (.iload_n 2, 1) := by decide +kernel
theorem dX6_told_54 : decode cX6_told 54 = .ok (.iconst 2, 1) := by decide +kernel
theorem dX6_told_55 : decode cX6_told 55 = .ok (.if_icmp .ne 12, 3) := by decide +kernel
theorem dX6_told_58 : decode cX6_told 58 = .ok (.aload_n 0, 1) := by decide +kernel
theorem dX6_told_59 : decode cX6_told 59 = .ok (.getfield 28, 3) := by decide +kernel
theorem dX6_told_62 : decode cX6_told 62 = .ok (.iload_n 1, 1) := by decide +kernel
theorem dX6_told_63 : decode cX6_told 63 = .ok (.iaload, 1) := by decide +kernel
theorem dX6_told_64 : decode cX6_told 64 = .ok (.goto 17, 3) := by decide +kernel
theorem dX6_told_67 : decode cX6_told 67 = .ok (.aload_n 0, 1) := by decide +kernel
theorem dX6_told_68 : decode cX6_told 68 = .ok (.getfield 31, 3) := by decide +kernel
theorem dX6_told_71 : decode cX6_told 71 = .ok (.iload_n 1, 1) := by decide +kernel
theorem dX6_told_72 : decode cX6_told 72 = .ok (.baload, 1) := by decide +kernel
theorem dX6_told_73 : decode cX6_told 73 = .ok (.ifCond .eq 7, 3) := by decide +kernel
theorem dX6_told_76 : decode cX6_told 76 = .ok (.iconst 1, 1) := by decide +kernel
theorem dX6_told_77 : decode cX6_told 77 = .ok (.goto 4, 3) := by decide +kernel
theorem dX6_told_80 : decode cX6_told 80 = .ok (.iconst 0, 1) := by decide +kernel
theorem dX6_told_81 : decode cX6_told 81 = .ok (.ireturn, 1) := by decide +kernel
theorem dX6_hit_0 : decode cX6_hit 0 = .ok (.aload_n 0, 1) := by decide +kernel
theorem dX6_hit_1 : decode cX6_hit 1 = .ok (.iload_n 1, 1) := by decide +kernel
theorem dX6_hit_2 : decode cX6_hit 2 = .ok (.invokevirtual 149, 3) := by decide +kernel
theorem dX6_hit_5 : decode cX6_hit 5 = .ok (.ifCond .ne 7, 3) := by decide +kernel
theorem dX6_hit_8 : decode cX6_hit 8 = .ok (.iconst (-1), 1) := by decide +kernel
theorem dX6_hit_9 : decode cX6_hit 9 = .ok (.goto 24, 3) := by decide +kernel
theorem dX6_hit_12 : decode cX6_hit 12 = .ok (.aload_n 0, 1) := by decide +kernel
theorem dX6_hit_13 : decode cX6_hit 13 = .ok (.getfield 19, 3) := by decide +kernel
theorem dX6_hit_16 : decode cX6_hit 16 = .ok (.iload_n 1, 1) := by decide +kernel
theorem dX6_hit_17 : decode cX6_hit 17 = .ok (.iaload, 1) := by decide +kernel
theorem dX6_hit_18 : decode cX6_hit 18 = .ok (.iconst 3, 1) := by decide +kernel
theorem dX6_hit_19 : decode cX6_hit 19 = .ok (.if_icmp .eq 8, 3) := by decide +kernel
theorem dX6_hit_22 : decode cX6_hit 22 = .ok (.bipush (-13), 2) := by decide +kernel
theorem dX6_hit_24 : decode cX6_hit 24 = .ok (.goto 9, 3) := by decide +kernel
theorem dX6_hit_27 : decode cX6_hit 27 = .ok (.aload_n 0, 1) := by decide +kernel
theorem dX6_hit_28 : decode cX6_hit 28 = .ok (.getfield 22, 3) := by decide +kernel
theorem dX6_hit_31 : decode cX6_hit 31 = .ok (.iload_n 1, 1) := by decide +kernel
theorem dX6_hit_32 : decode cX6_hit 32 = .ok (.iaload, 1) := by decide +kernel
theorem dX6_hit_33 : decode cX6_hit 33 = .ok (.ireturn, 1) := by decide +kernel
theorem dX6_state_0 : decode cX6_state 0 = .ok (.aload_n 0, 1) := by decide +kernel
theorem dX6_state_1 : decode cX6_state 1 = .ok (.getfield 84, 3) := by decide +kernel
theorem dX6_state_4 : decode cX6_state 4 = .ok (.ifCond .eq 25, 3) := by decide +kernel
theorem dX6_state_7 : decode cX6_state 7 = .ok (.iload_n 1, 1) := by decide +kernel
theorem dX6_state_8 : decode cX6_state 8 = .ok (.iconst 0, 1) := by decide +kernel
theorem dX6_state_9 : decode cX6_state 9 = .ok (.aload_n 0, 1) := by decide +kernel
theorem dX6_state_10 : decode cX6_state 10 = .ok (.getfield 88, 3) := by decide +kernel
theorem dX6_state_13 : decode cX6_state 13 = .ok (.invokestatic 72, 3) := by decide +kernel
theorem dX6_state_16 : decode cX6_state 16 = .ok (.ifCond .eq 13, 3) := by decide +kernel
theorem dX6_state_19 : decode cX6_state 19 = .ok (.iload_n 2, 1) := by decide +kernel
theorem dX6_state_20 : decode cX6_state 20 = .ok (.iconst 0, 1) := by decide +kernel
theorem dX6_state_21 : decode cX6_state 21 = .ok (.bipush 11, 2) := by decide +kernel
theorem dX6_state_23 : decode cX6_state 23 = .ok (.invokestatic 72, 3) := by decide +kernel
theorem dX6_state_26 : decode cX6_state 26 = .ok (.ifCond .ne 5, 3) := by decide +kernel
theorem dX6_state_29 : decode cX6_state 29 = .ok (.iconst (-1), 1) := by decide +kernel
theorem dX6_state_30 : decode cX6_state 30 = .ok (.ireturn, 1) := by decide +kernel
theorem dX6_state_31 : decode cX6_state 31 = .ok (.aload_n 0, 1) := by decide +kernel
theorem dX6_state_32 : decode cX6_state 32 = .ok (.iload_n 1, 1) := by decide +kernel
theorem dX6_state_33 : decode cX6_state 33 = .ok (.invokevirtual 136, 3) := by decide +kernel
theorem dX6_state_36 : decode cX6_state 36 = .ok (.iload_n 2, 1) := by decide +kernel
theorem dX6_state_37 : decode cX6_state 37 = .ok (.tableswitch 117 0 11 #[63, 82, 87, 92, 97, 117, 117, 117, 117, 102, 102, 112], 63) := by decide +kernel
theorem dX6_state_100 : decode cX6_state 100 = .ok (.aload_n 0, 1) := by decide +kernel
theorem dX6_state_101 : decode cX6_state 101 = .ok (.getfield 95, 3) := by decide +kernel
theorem dX6_state_104 : decode cX6_state 104 = .ok (.ifCond .lt 10, 3) := by decide +kernel
theorem dX6_state_107 : decode cX6_state 107 = .ok (.aload_n 0, 1) := by decide +kernel
theorem dX6_state_108 : decode cX6_state 108 = .ok (.getfield 98, 3) := by decide +kernel
theorem dX6_state_111 : decode cX6_state 111 = .ok (.goto 7, 3) := by decide +kernel
theorem dX6_state_114 : decode cX6_state 114 = .ok (.aload_n 0, 1) := by decide +kernel
theorem dX6_state_115 : decode cX6_state 115 = .ok (.getfield 120, 3) := by decide +kernel
theorem dX6_state_118 : decode cX6_state 118 = .ok (.ireturn, 1) := by decide +kernel
theorem dX6_state_119 : decode cX6_state 119 = .ok (.aload_n 0, 1) := by decide +kernel
theorem dX6_state_120 : decode cX6_state 120 = .ok (.getfield 95, 3) := by decide +kernel
theorem dX6_state_123 : decode cX6_state 123 = .ok (.ireturn, 1) := by decide +kernel
theorem dX6_state_124 : decode cX6_state 124 = .ok (.aload_n 0, 1) := by decide +kernel
theorem dX6_state_125 : decode cX6_state 125 = .ok (.getfield 101, 3) := by decide +kernel
theorem dX6_state_128 : decode cX6_state 128 = .ok (.ireturn, 1) := by decide +kernel
theorem dX6_state_129 : decode cX6_state 129 = .ok (.aload_n 0, 1) := by decide +kernel
theorem dX6_state_130 : decode cX6_state 130 = .ok (.getfield 111, 3) := by decide +kernel
theorem dX6_state_133 : decode cX6_state 133 = .ok (.ireturn, 1) := by decide +kernel
theorem dX6_state_134 : decode cX6_state 134 = .ok (.aload_n 0, 1) := by decide +kernel
theorem dX6_state_135 : decode cX6_state 135 = .ok (.getfield 104, 3) := by decide +kernel
theorem dX6_state_138 : decode cX6_state 138 = .ok (.ireturn, 1) := by decide +kernel
theorem dX6_state_139 : decode cX6_state 139 = .ok (.aload_n 0, 1) := by decide +kernel
theorem dX6_state_140 : decode cX6_state 140 = .ok (.getfield 44, 3) := by decide +kernel
theorem dX6_state_143 : decode cX6_state 143 = .ok (.iload_n 2, 1) := by decide +kernel
theorem dX6_state_144 : decode cX6_state 144 = .ok (.bipush 9, 2) := by decide +kernel
theorem dX6_state_146 : decode cX6_state 146 = .ok (.isub, 1) := by decide +kernel
theorem dX6_state_147 : decode cX6_state 147 = .ok (.iaload, 1) := by decide +kernel
theorem dX6_state_148 : decode cX6_state 148 = .ok (.ireturn, 1) := by decide +kernel
theorem dX6_state_149 : decode cX6_state 149 = .ok (.aload_n 0, 1) := by decide +kernel
theorem dX6_state_150 : decode cX6_state 150 = .ok (.invokevirtual 139, 3) := by decide +kernel
theorem dX6_state_153 : decode cX6_state 153 = .ok (.ireturn, 1) := by decide +kernel
theorem dX6_state_154 : decode cX6_state 154 = .ok (.aload_n 0, 1) := by decide +kernel
theorem dX6_state_155 : decode cX6_state 155 = .ok (.getfield 41, 3) := by decide +kernel
theorem dX6_state_158 : decode cX6_state 158 = .ok (.iload_n 2, 1) := by decide +kernel
theorem dX6_state_159 : decode cX6_state 159 = .ok (.iconst 5, 1) := by decide +kernel
theorem dX6_state_160 : decode cX6_state 160 = .ok (.isub, 1) := by decide +kernel
theorem dX6_state_161 : decode cX6_state 161 = .ok (.iaload, 1) := by decide +kernel
theorem dX6_state_162 : decode cX6_state 162 = .ok (.ireturn, 1) := by decide +kernel
theorem dX6_count_0 : decode cX6_count 0 = .ok (.iload_n 1, 1) := by decide +kernel
theorem dX6_count_1 : decode cX6_count 1 = .ok (.iconst 0, 1) := by decide +kernel
theorem dX6_count_2 : decode cX6_count 2 = .ok (.iconst 2, 1) := by decide +kernel
theorem dX6_count_3 : decode cX6_count 3 = .ok (.invokestatic 72, 3) := by decide +kernel
theorem dX6_count_6 : decode cX6_count 6 = .ok (.ifCond .ne 5, 3) := by decide +kernel
theorem dX6_count_9 : decode cX6_count 9 = .ok (.iconst (-1), 1) := by decide +kernel
theorem dX6_count_10 : decode cX6_count 10 = .ok (.ireturn, 1) := by decide +kernel
theorem dX6_count_11 : decode cX6_count 11 = .ok (.iconst 0, 1) := by decide +kernel
theorem dX6_count_12 : decode cX6_count 12 = .ok (.istore_n 2, 1) := by decide +kernel
theorem dX6_count_13 : decode cX6_count 13 = .ok (.iconst 0, 1) := by decide +kernel
theorem dX6_count_14 : decode cX6_count 14 = .ok (.istore_n 3, 1) := by decide +kernel
theorem dX6_count_15 : decode cX6_count 15 = .ok (.iload_n 3, 1) := by decide +kernel
theorem dX6_count_16 : decode cX6_count 16 = .ok (.aload_n 0, 1) := by decide +kernel
theorem dX6_count_17 : decode cX6_count 17 = .ok (.getfield 88, 3) := by decide +kernel
theorem dX6_count_20 : decode cX6_count 20 = .ok (.if_icmp .ge 79, 3) := by decide +kernel
theorem dX6_count_23 : decode cX6_count 23 = .ok (.aload_n 0, 1) := by decide +kernel
theorem dX6_count_24 : decode cX6_count 24 = .ok (.getfield 84, 3) := by decide +kernel
theorem dX6_count_27 : decode cX6_count 27 = .ok (.ifCond .eq 72, 3) := by decide +kernel
theorem dX6_count_30 : decode cX6_count 30 = .ok (.aload_n 0, 1) := by decide +kernel
theorem dX6_count_31 : decode cX6_count 31 = .ok (.getfield 19, 3) := by decide +kernel
theorem dX6_count_34 : decode cX6_count 34 = .ok (.iload_n 3, 1) := by decide +kernel
theorem dX6_count_35 : decode cX6_count 35 = .ok (.iaload, 1) := by decide +kernel
theorem dX6_count_36 : decode cX6_count 36 = .ok (.ifCond .eq 14, 3) := by decide +kernel
theorem dX6_count_39 : decode cX6_count 39 = .ok (.aload_n 0, 1) := by decide +kernel
theorem dX6_count_40 : decode cX6_count 40 = .ok (.getfield 19, 3) := by decide +kernel
theorem dX6_count_43 : decode cX6_count 43 = .ok (.iload_n 3, 1) := by decide +kernel
theorem dX6_count_44 : decode cX6_count 44 = .ok (.iaload, 1) := by decide +kernel
theorem dX6_count_45 : decode cX6_count 45 = .ok (.bipush 6, 2) := by decide +kernel
theorem dX6_count_47 : decode cX6_count 47 = .ok (.if_icmp .ne 7, 3) := by decide +kernel
theorem dX6_count_50 : decode cX6_count 50 = .ok (.iconst 1, 1) := by decide +kernel
theorem dX6_count_51 : decode cX6_count 51 = .ok (.goto 4, 3) := by decide +kernel
theorem dX6_count_54 : decode cX6_count 54 = .ok (.iconst 0, 1) := by decide +kernel
theorem dX6_count_55 : decode cX6_count 55 = .ok (.istore 4, 2) := by decide +kernel
theorem dX6_count_57 : decode cX6_count 57 = .ok (.iload_n 2, 1) := by decide +kernel
theorem dX6_count_58 : decode cX6_count 58 = .ok (.iload_n 1, 1) := by decide +kernel
theorem dX6_count_59 : decode cX6_count 59 = .ok (.ifCond .eq 27, 3) := by decide +kernel
theorem dX6_count_62 : decode cX6_count 62 = .ok (.iload_n 1, 1) := by decide +kernel
theorem dX6_count_63 : decode cX6_count 63 = .ok (.iconst 1, 1) := by decide +kernel
theorem dX6_count_64 : decode cX6_count 64 = .ok (.if_icmp .ne 12, 3) := by decide +kernel
theorem dX6_count_67 : decode cX6_count 67 = .ok (.aload_n 0, 1) := by decide +kernel
theorem dX6_count_68 : decode cX6_count 68 = .ok (.getfield 31, 3) := by decide +kernel
theorem dX6_count_71 : decode cX6_count 71 = .ok (.iload_n 3, 1) := by decide +kernel
theorem dX6_count_72 : decode cX6_count 72 = .ok (.baload, 1) := by decide +kernel
theorem dX6_count_73 : decode cX6_count 73 = .ok (.ifCond .ne 13, 3) := by decide +kernel
theorem dX6_count_76 : decode cX6_count 76 = .ok (.iload_n 1, 1) := by decide +kernel
theorem dX6_count_77 : decode cX6_count 77 = .ok (.iconst 2, 1) := by decide +kernel
theorem dX6_count_78 : decode cX6_count 78 = .ok (.if_icmp .ne 12, 3) := by decide +kernel
theorem dX6_count_81 : decode cX6_count 81 = .ok (.iload 4, 2) := by decide +kernel
theorem dX6_count_83 : decode cX6_count 83 = .ok (.ifCond .eq 7, 3) := by decide +kernel
theorem dX6_count_86 : decode cX6_count 86 = .ok (.iconst 1, 1) := by decide +kernel
theorem dX6_count_87 : decode cX6_count 87 = .ok (.goto 4, 3) := by decide +kernel
theorem dX6_count_90 : decode cX6_count 90 = .ok (.iconst 0, 1) := by decide +kernel
theorem dX6_count_91 : decode cX6_count 91 = .ok (.iadd, 1) := by decide +kernel
theorem dX6_count_92 : decode cX6_count 92 = .ok (.istore_n 2, 1) := by decide +kernel
theorem dX6_count_93 : decode cX6_count 93 = .ok (.iinc 3 1, 3) := by decide +kernel
theorem dX6_count_96 : decode cX6_count 96 = .ok (.goto (-81), 3) := by decide +kernel
theorem dX6_count_99 : decode cX6_count 99 = .ok (.iload_n 2, 1) := by decide +kernel
theorem dX6_count_100 : decode cX6_count 100 = .ok (.ireturn, 1) := by decide +kernel
theorem dX6_found_0 : decode cX6_found 0 = .ok (.aload_n 0, 1) := by decide +kernel
theorem dX6_found_1 : decode cX6_found 1 = .ok (.iload_n 1, 1) := by decide +kernel
theorem dX6_found_2 : decode cX6_found 2 = .ok (.invokevirtual 149, 3) := by decide +kernel
theorem dX6_found_5 : decode cX6_found 5 = .ok (.ifCond .ne 5, 3) := by decide +kernel
theorem dX6_found_8 : decode cX6_found 8 = .ok (.iconst (-1), 1) := by decide +kernel
theorem dX6_found_9 : decode cX6_found 9 = .ok (.ireturn, 1) := by decide +kernel
theorem dX6_found_10 : decode cX6_found 10 = .ok (.aload_n 0, 1) := by decide +kernel
theorem dX6_found_11 : decode cX6_found 11 = .ok (.getfield 19, 3) := by decide +kernel
theorem dX6_found_14 : decode cX6_found 14 = .ok (.iload_n 1, 1) := by decide +kernel
theorem dX6_found_15 : decode cX6_found 15 = .ok (.iaload, 1) := by decide +kernel
theorem dX6_found_16 : decode cX6_found 16 = .ok (.ifCond .ne 7, 3) := by decide +kernel
theorem dX6_found_19 : decode cX6_found 19 = .ok (.iconst 0, 1) := by decide +kernel
theorem dX6_found_20 : decode cX6_found 20 = .ok (.goto 4, 3) := by decide +kernel
theorem dX6_found_23 : decode cX6_found 23 = .ok (.iconst 1, 1) := by decide +kernel
theorem dX6_found_24 : decode cX6_found 24 = .ok (.istore_n 2, 1) := by decide +kernel
theorem dX6_found_25 : decode cX6_found 25 = .ok (.aload_n 0, 1) := by decide +kernel
theorem dX6_found_26 : decode cX6_found 26 = .ok (.getfield 31, 3) := by decide +kernel
theorem dX6_found_29 : decode cX6_found 29 = .ok (.iload_n 1, 1) := by decide +kernel
theorem dX6_found_30 : decode cX6_found 30 = .ok (.baload, 1) := by decide +kernel
theorem dX6_found_31 : decode cX6_found 31 = .ok (.ifCond .eq 29, 3) := by decide +kernel
theorem dX6_found_34 : decode cX6_found 34 = .ok (.aload_n 0, 1) := by decide +kernel
theorem dX6_found_35 : decode cX6_found 35 = .ok (.getfield 50, 3) := by decide +kernel
theorem dX6_found_38 : decode cX6_found 38 = .ok (.iload_n 2, 1) := by decide +kernel
theorem dX6_found_39 : decode cX6_found 39 = .ok (.iaload, 1) := by decide +kernel
theorem dX6_found_40 : decode cX6_found 40 = .ok (.ifCond .eq 20, 3) := by decide +kernel
theorem dX6_found_43 : decode cX6_found 43 = .ok (.aload_n 0, 1) := by decide +kernel
theorem dX6_found_44 : decode cX6_found 44 = .ok (.getfield 88, 3) := by decide +kernel
theorem dX6_found_47 : decode cX6_found 47 = .ok (.iconst 1, 1) := by decide +kernel
theorem dX6_found_48 : decode cX6_found 48 = .ok (.isub, 1) := by decide +kernel
theorem dX6_found_49 : decode cX6_found 49 = .ok (.iload_n 1, 1) := by decide +kernel
theorem dX6_found_50 : decode cX6_found 50 = .ok (.isub, 1) := by decide +kernel
theorem dX6_found_51 : decode cX6_found 51 = .ok (.aload_n 0, 1) := by decide +kernel
theorem dX6_found_52 : decode cX6_found 52 = .ok (.getfield 47, 3) := by decide +kernel
theorem dX6_found_55 : decode cX6_found 55 = .ok (.iload_n 2, 1) := by decide +kernel
theorem dX6_found_56 : decode cX6_found 56 = .ok (.iaload, 1) := by decide +kernel
theorem dX6_found_57 : decode cX6_found 57 = .ok (.if_icmp .le 6, 3) := by decide +kernel
theorem dX6_found_60 : decode cX6_found 60 = .ok (.bipush (-2), 2) := by decide +kernel
theorem dX6_found_62 : decode cX6_found 62 = .ok (.ireturn, 1) := by decide +kernel
theorem dX6_found_63 : decode cX6_found 63 = .ok (.aload_n 0, 1) := by decide +kernel
theorem dX6_found_64 : decode cX6_found 64 = .ok (.getfield 31, 3) := by decide +kernel
theorem dX6_found_67 : decode cX6_found 67 = .ok (.iload_n 1, 1) := by decide +kernel
theorem dX6_found_68 : decode cX6_found 68 = .ok (.iconst 0, 1) := by decide +kernel
theorem dX6_found_69 : decode cX6_found 69 = .ok (.bastore, 1) := by decide +kernel
theorem dX6_found_70 : decode cX6_found 70 = .ok (.aload_n 0, 1) := by decide +kernel
theorem dX6_found_71 : decode cX6_found 71 = .ok (.getfield 50, 3) := by decide +kernel
theorem dX6_found_74 : decode cX6_found 74 = .ok (.iload_n 2, 1) := by decide +kernel
theorem dX6_found_75 : decode cX6_found 75 = .ok (.iaload, 1) := by decide +kernel
theorem dX6_found_76 : decode cX6_found 76 = .ok (.bipush 82, 2) := by decide +kernel
theorem dX6_found_78 : decode cX6_found 78 = .ok (.if_icmp .ne 31, 3) := by decide +kernel
theorem dX6_found_81 : decode cX6_found 81 = .ok (.aload_n 0, 1) := by decide +kernel
theorem dX6_found_82 : decode cX6_found 82 = .ok (.iload_n 1, 1) := by decide +kernel
theorem dX6_found_83 : decode cX6_found 83 = .ok (.putfield 88, 3) := by decide +kernel
theorem dX6_found_86 : decode cX6_found 86 = .ok (.aload_n 0, 1) := by decide +kernel
theorem dX6_found_87 : decode cX6_found 87 = .ok (.iload_n 1, 1) := by decide +kernel
theorem dX6_found_88 : decode cX6_found 88 = .ok (.iconst 1, 1) := by decide +kernel
theorem dX6_found_89 : decode cX6_found 89 = .ok (.iadd, 1) := by decide +kernel
theorem dX6_found_90 : decode cX6_found 90 = .ok (.invokevirtual 91, 3) := by decide +kernel
theorem dX6_found_93 : decode cX6_found 93 = .ok (.aload_n 0, 1) := by decide +kernel
theorem dX6_found_94 : decode cX6_found 94 = .ok (.getfield 35, 3) := by decide +kernel
theorem dX6_found_97 : decode cX6_found 97 = .ok (.iload_n 1, 1) := by decide +kernel
theorem dX6_found_98 : decode cX6_found 98 = .ok (.iconst 1, 1) := by decide +kernel
theorem dX6_found_99 : decode cX6_found 99 = .ok (.aload_n 0, 1) := by decide +kernel
theorem dX6_found_100 : decode cX6_found 100 = .ok (.getfield 28, 3) := by decide +kernel
theorem dX6_found_103 : decode cX6_found 103 = .ok (.iload_n 1, 1) := by decide +kernel
theorem dX6_found_104 : decode cX6_found 104 = .ok (.iaload, 1) := by decide +kernel
theorem dX6_found_105 : decode cX6_found 105 = .ok (.isub, 1) := by decide +kernel
theorem dX6_found_106 : decode cX6_found 106 = .ok (.iastore, 1) := by decide +kernel
theorem dX6_found_107 : decode cX6_found 107 = .ok (.iconst 1, 1) := by decide +kernel
theorem dX6_found_108 : decode cX6_found 108 = .ok (.ireturn, 1) := by decide +kernel
theorem dX6_found_109 : decode cX6_found 109 = .ok (.aload_n 0, 1) := by decide +kernel
theorem dX6_found_110 : decode cX6_found 110 = .ok (.aload_n 0, 1) := by decide +kernel
theorem dX6_found_111 : decode cX6_found 111 = .ok (.getfield 88, 3) := by decide +kernel
theorem dX6_found_114 : decode cX6_found 114 = .ok (.invokevirtual 136, 3) := by decide +kernel
theorem dX6_found_117 : decode cX6_found 117 = .ok (.aload_n 0, 1) := by decide +kernel
theorem dX6_found_118 : decode cX6_found 118 = .ok (.getfield 38, 3) := by decide +kernel
theorem dX6_found_121 : decode cX6_found 121 = .ok (.aload_n 0, 1) := by decide +kernel
theorem dX6_found_122 : decode cX6_found 122 = .ok (.getfield 88, 3) := by decide +kernel
theorem dX6_found_125 : decode cX6_found 125 = .ok (.aload_n 0, 1) := by decide +kernel
theorem dX6_found_126 : decode cX6_found 126 = .ok (.getfield 38, 3) := by decide +kernel
theorem dX6_found_129 : decode cX6_found 129 = .ok (.aload_n 0, 1) := by decide +kernel
theorem dX6_found_130 : decode cX6_found 130 = .ok (.getfield 88, 3) := by decide +kernel
theorem dX6_found_133 : decode cX6_found 133 = .ok (.baload, 1) := by decide +kernel
theorem dX6_found_134 : decode cX6_found 134 = .ok (.ifCond .ne 10, 3) := by decide +kernel
theorem dX6_found_137 : decode cX6_found 137 = .ok (.aload_n 0, 1) := by decide +kernel
theorem dX6_found_138 : decode cX6_found 138 = .ok (.getfield 95, 3) := by decide +kernel
theorem dX6_found_141 : decode cX6_found 141 = .ok (.ifCond .lt 7, 3) := by decide +kernel
theorem dX6_found_144 : decode cX6_found 144 = .ok (.iconst 1, 1) := by decide +kernel
theorem dX6_found_145 : decode cX6_found 145 = .ok (.goto 4, 3) := by decide +kernel
theorem dX6_found_148 : decode cX6_found 148 = .ok (.iconst 0, 1) := by decide +kernel
theorem dX6_found_149 : decode cX6_found 149 = .ok (.bastore, 1) := by decide +kernel
theorem dX6_found_150 : decode cX6_found 150 = .ok (.iconst 2, 1) := by decide +kernel
theorem dX6_found_151 : decode cX6_found 151 = .ok (.ireturn, 1) := by decide +kernel
theorem dX6_type_0 : decode cX6_type 0 = .ok (.iload_n 3, 1) := by decide +kernel
theorem dX6_type_1 : decode cX6_type 1 = .ok (.iconst 1, 1) := by decide +kernel
theorem dX6_type_2 : decode cX6_type 2 = .ok (.bipush 8, 2) := by decide +kernel
theorem dX6_type_4 : decode cX6_type 4 = .ok (.invokestatic 72, 3) := by decide +kernel
theorem dX6_type_7 : decode cX6_type 7 = .ok (.ifCond .ne 5, 3) := by decide +kernel
theorem dX6_type_10 : decode cX6_type 10 = .ok (.iconst (-1), 1) := by decide +kernel
theorem dX6_type_11 : decode cX6_type 11 = .ok (.ireturn, 1) := by decide +kernel
theorem dX6_type_12 : decode cX6_type 12 = .ok (.iload_n 3, 1) := by decide +kernel
theorem dX6_type_13 : decode cX6_type 13 = .ok (.iconst 1, 1) := by decide +kernel
theorem dX6_type_14 : decode cX6_type 14 = .ok (.isub, 1) := by decide +kernel
theorem dX6_type_15 : decode cX6_type 15 = .ok (.istore 4, 2) := by decide +kernel
theorem dX6_type_17 : decode cX6_type 17 = .ok (.iload 4, 2) := by decide +kernel
theorem dX6_type_19 : decode cX6_type 19 = .ok (.ifCond .lt 33, 3) := by decide +kernel
theorem dX6_type_22 : decode cX6_type 22 = .ok (.lload_n 1, 1) := by decide +kernel
theorem dX6_type_23 : decode cX6_type 23 = .ok (.bipush 8, 2) := by decide +kernel
theorem dX6_type_25 : decode cX6_type 25 = .ok (.iload 4, 2) := by decide +kernel
theorem dX6_type_27 : decode cX6_type 27 = .ok (.imul, 1) := by decide +kernel
theorem dX6_type_28 : decode cX6_type 28 = .ok (.lshr, 1) := by decide +kernel
theorem dX6_type_29 : decode cX6_type 29 = .ok (.ldc2_w 152, 3) := by decide +kernel
theorem dX6_type_32 : decode cX6_type 32 = .ok (.land, 1) := by decide +kernel
theorem dX6_type_33 : decode cX6_type 33 = .ok (.l2i, 1) := by decide +kernel
theorem dX6_type_34 : decode cX6_type 34 = .ok (.bipush 32, 2) := by decide +kernel
theorem dX6_type_36 : decode cX6_type 36 = .ok (.bipush 126, 2) := by decide +kernel
theorem dX6_type_38 : decode cX6_type 38 = .ok (.invokestatic 72, 3) := by decide +kernel
theorem dX6_type_41 : decode cX6_type 41 = .ok (.ifCond .ne 5, 3) := by decide +kernel
theorem dX6_type_44 : decode cX6_type 44 = .ok (.iconst (-1), 1) := by decide +kernel
theorem dX6_type_45 : decode cX6_type 45 = .ok (.ireturn, 1) := by decide +kernel
theorem dX6_type_46 : decode cX6_type 46 = .ok (.iinc 4 (-1), 3) := by decide +kernel
theorem dX6_type_49 : decode cX6_type 49 = .ok (.goto (-32), 3) := by decide +kernel
theorem dX6_type_52 : decode cX6_type 52 = .ok (.aload_n 0, 1) := by decide +kernel
theorem dX6_type_53 : decode cX6_type 53 = .ok (.getfield 154, 3) := by decide +kernel
theorem dX6_type_56 : decode cX6_type 56 = .ok (.iload_n 3, 1) := by decide +kernel
theorem dX6_type_57 : decode cX6_type 57 = .ok (.iadd, 1) := by decide +kernel
theorem dX6_type_58 : decode cX6_type 58 = .ok (.bipush 30, 2) := by decide +kernel
theorem dX6_type_60 : decode cX6_type 60 = .ok (.if_icmp .le 6, 3) := by decide +kernel
theorem dX6_type_63 : decode cX6_type 63 = .ok (.bipush (-3), 2) := by decide +kernel
theorem dX6_type_65 : decode cX6_type 65 = .ok (.ireturn, 1) := by decide +kernel
theorem dX6_type_66 : decode cX6_type 66 = .ok (.iload_n 3, 1) := by decide +kernel
theorem dX6_type_67 : decode cX6_type 67 = .ok (.iconst 1, 1) := by decide +kernel
theorem dX6_type_68 : decode cX6_type 68 = .ok (.isub, 1) := by decide +kernel
theorem dX6_type_69 : decode cX6_type 69 = .ok (.istore 4, 2) := by decide +kernel
theorem dX6_type_71 : decode cX6_type 71 = .ok (.iload 4, 2) := by decide +kernel
theorem dX6_type_73 : decode cX6_type 73 = .ok (.ifCond .lt 40, 3) := by decide +kernel
theorem dX6_type_76 : decode cX6_type 76 = .ok (.aload_n 0, 1) := by decide +kernel
theorem dX6_type_77 : decode cX6_type 77 = .ok (.getfield 59, 3) := by decide +kernel
theorem dX6_type_80 : decode cX6_type 80 = .ok (.aload_n 0, 1) := by decide +kernel
theorem dX6_type_81 : decode cX6_type 81 = .ok (.getfield 154, 3) := by decide +kernel
theorem dX6_type_84 : decode cX6_type 84 = .ok (.lload_n 1, 1) := by decide +kernel
theorem dX6_type_85 : decode cX6_type 85 = .ok (.bipush 8, 2) := by decide +kernel
theorem dX6_type_87 : decode cX6_type 87 = .ok (.iload 4, 2) := by decide +kernel
theorem dX6_type_89 : decode cX6_type 89 = .ok (.imul, 1) := by decide +kernel
theorem dX6_type_90 : decode cX6_type 90 = .ok (.lshr, 1) := by decide +kernel
theorem dX6_type_91 : decode cX6_type 91 = .ok (.ldc2_w 152, 3) := by decide +kernel
theorem dX6_type_94 : decode cX6_type 94 = .ok (.land, 1) := by decide +kernel
theorem dX6_type_95 : decode cX6_type 95 = .ok (.l2i, 1) := by decide +kernel
theorem dX6_type_96 : decode cX6_type 96 = .ok (.iastore, 1) := by decide +kernel
theorem dX6_type_97 : decode cX6_type 97 = .ok (.aload_n 0, 1) := by decide +kernel
theorem dX6_type_98 : decode cX6_type 98 = .ok (.dup, 1) := by decide +kernel
theorem dX6_type_99 : decode cX6_type 99 = .ok (.getfield 154, 3) := by decide +kernel
theorem dX6_type_102 : decode cX6_type 102 = .ok (.iconst 1, 1) := by decide +kernel
theorem dX6_type_103 : decode cX6_type 103 = .ok (.iadd, 1) := by decide +kernel
theorem dX6_type_104 : decode cX6_type 104 = .ok (.putfield 154, 3) := by decide +kernel
theorem dX6_type_107 : decode cX6_type 107 = .ok (.iinc 4 (-1), 3) := by decide +kernel
theorem dX6_type_110 : decode cX6_type 110 = .ok (.goto (-39), 3) := by decide +kernel
theorem dX6_type_113 : decode cX6_type 113 = .ok (.aload_n 0, 1) := by decide +kernel
theorem dX6_type_114 : decode cX6_type 114 = .ok (.getfield 154, 3) := by decide +kernel
theorem dX6_type_117 : decode cX6_type 117 = .ok (.ireturn, 1) := by decide +kernel
theorem dX6_next_0 : decode cX6_next 0 = .ok (.aload_n 0, 1) := by decide +kernel
theorem dX6_next_1 : decode cX6_next 1 = .ok (.getfield 157, 3) := by decide +kernel
theorem dX6_next_4 : decode cX6_next 4 = .ok (.aload_n 0, 1) := by decide +kernel
theorem dX6_next_5 : decode cX6_next 5 = .ok (.getfield 154, 3) := by decide +kernel
theorem dX6_next_8 : decode cX6_next 8 = .ok (.if_icmp .ge 30, 3) := by decide +kernel
theorem dX6_next_11 : decode cX6_next 11 = .ok (.aload_n 0, 1) := by decide +kernel
theorem dX6_next_12 : decode cX6_next 12 = .ok (.getfield 59, 3) := by decide +kernel
theorem dX6_next_15 : decode cX6_next 15 = .ok (.aload_n 0, 1) := by decide +kernel
theorem dX6_next_16 : decode cX6_next 16 = .ok (.getfield 157, 3) := by decide +kernel
theorem dX6_next_19 : decode cX6_next 19 = .ok (.iaload, 1) := by decide +kernel
theorem dX6_next_20 : decode cX6_next 20 = .ok (.bipush 32, 2) := by decide +kernel
theorem dX6_next_22 : decode cX6_next 22 = .ok (.if_icmp .ne 16, 3) := by decide +kernel
theorem dX6_next_25 : decode cX6_next 25 = .ok (.aload_n 0, 1) := by decide +kernel
theorem dX6_next_26 : decode cX6_next 26 = .ok (.dup, 1) := by decide +kernel
theorem dX6_next_27 : decode cX6_next 27 = .ok (.getfield 157, 3) := by decide +kernel
theorem dX6_next_30 : decode cX6_next 30 = .ok (.iconst 1, 1) := by decide +kernel
theorem dX6_next_31 : decode cX6_next 31 = .ok (.iadd, 1) := by decide +kernel
theorem dX6_next_32 : decode cX6_next 32 = .ok (.putfield 157, 3) := by decide +kernel
theorem dX6_next_35 : decode cX6_next 35 = .ok (.goto (-35), 3) := by decide +kernel
theorem dX6_next_38 : decode cX6_next 38 = .ok (.aload_n 0, 1) := by decide +kernel
theorem dX6_next_39 : decode cX6_next 39 = .ok (.getfield 157, 3) := by decide +kernel
theorem dX6_next_42 : decode cX6_next 42 = .ok (.aload_n 0, 1) := by decide +kernel
theorem dX6_next_43 : decode cX6_next 43 = .ok (.getfield 154, 3) := by decide +kernel
theorem dX6_next_46 : decode cX6_next 46 = .ok (.if_icmp .ge 15, 3) := by decide +kernel
theorem dX6_next_49 : decode cX6_next 49 = .ok (.aload_n 0, 1) := by decide +kernel
theorem dX6_next_50 : decode cX6_next 50 = .ok (.getfield 59, 3) := by decide +kernel
theorem dX6_next_53 : decode cX6_next 53 = .ok (.aload_n 0, 1) := by decide +kernel
theorem dX6_next_54 : decode cX6_next 54 = .ok (.getfield 157, 3) := by decide +kernel
theorem dX6_next_57 : decode cX6_next 57 = .ok (.iaload, 1) := by decide +kernel
theorem dX6_next_58 : decode cX6_next 58 = .ok (.goto 4, 3) := by decide +kernel
theorem dX6_next_61 : decode cX6_next 61 = .ok (.iconst (-1), 1) := by decide +kernel
theorem dX6_next_62 : decode cX6_next 62 = .ok (.ireturn, 1) := by decide +kernel
theorem dX6_readClause_0 : decode cX6_readClause 0 = .ok (.aload_n 0, 1) := by decide +kernel
theorem dX6_readClause_1 : decode cX6_readClause 1 = .ok (.invokevirtual 160, 3) := by decide +kernel
theorem dX6_readClause_4 : decode cX6_readClause 4 = .ok (.istore_n 1, 1) := by decide +kernel
theorem dX6_readClause_5 : decode cX6_readClause 5 = .ok (.iload_n 1, 1) := by decide +kernel
theorem dX6_readClause_6 : decode cX6_readClause 6 = .ok (.bipush 112, 2) := by decide +kernel
theorem dX6_readClause_8 : decode cX6_readClause 8 = .ok (.if_icmp .eq 11, 3) := by decide +kernel
theorem dX6_readClause_11 : decode cX6_readClause 11 = .ok (.iload_n 1, 1) := by decide +kernel
theorem dX6_readClause_12 : decode cX6_readClause 12 = .ok (.bipush 114, 2) := by decide +kernel
theorem dX6_readClause_14 : decode cX6_readClause 14 = .ok (.if_icmp .eq 5, 3) := by decide +kernel
theorem dX6_readClause_17 : decode cX6_readClause 17 = .ok (.iconst 0, 1) := by decide +kernel
theorem dX6_readClause_18 : decode cX6_readClause 18 = .ok (.ireturn, 1) := by decide +kernel
theorem dX6_readClause_19 : decode cX6_readClause 19 = .ok (.iload_n 1, 1) := by decide +kernel
theorem dX6_readClause_20 : decode cX6_readClause 20 = .ok (.bipush 112, 2) := by decide +kernel
theorem dX6_readClause_22 : decode cX6_readClause 22 = .ok (.if_icmp .ne 7, 3) := by decide +kernel
theorem dX6_readClause_25 : decode cX6_readClause 25 = .ok (.iconst 0, 1) := by decide +kernel
theorem dX6_readClause_26 : decode cX6_readClause 26 = .ok (.goto 4, 3) := by decide +kernel
theorem dX6_readClause_29 : decode cX6_readClause 29 = .ok (.iconst 1, 1) := by decide +kernel
theorem dX6_readClause_30 : decode cX6_readClause 30 = .ok (.istore_n 2, 1) := by decide +kernel
theorem dX6_readClause_31 : decode cX6_readClause 31 = .ok (.aload_n 0, 1) := by decide +kernel
theorem dX6_readClause_32 : decode cX6_readClause 32 = .ok (.dup, 1) := by decide +kernel
theorem dX6_readClause_33 : decode cX6_readClause 33 = .ok (.getfield 157, 3) := by decide +kernel
theorem dX6_readClause_36 : decode cX6_readClause 36 = .ok (.iconst 1, 1) := by decide +kernel
theorem dX6_readClause_37 : decode cX6_readClause 37 = .ok (.iadd, 1) := by decide +kernel
theorem dX6_readClause_38 : decode cX6_readClause 38 = .ok (.putfield 157, 3) := by decide +kernel
theorem dX6_readClause_41 : decode cX6_readClause 41 = .ok (.aload_n 0, 1) := by decide +kernel
theorem dX6_readClause_42 : decode cX6_readClause 42 = .ok (.invokevirtual 160, 3) := by decide +kernel
theorem dX6_readClause_45 : decode cX6_readClause 45 = .ok (.istore_n 1, 1) := by decide +kernel
theorem dX6_readClause_46 : decode cX6_readClause 46 = .ok (.aload_n 0, 1) := by decide +kernel
theorem dX6_readClause_47 : decode cX6_readClause 47 = .ok (.getfield 157, 3) := by decide +kernel
theorem dX6_readClause_50 : decode cX6_readClause 50 = .ok (.istore_n 3, 1) := by decide +kernel
theorem dX6_readClause_51 : decode cX6_readClause 51 = .ok (.iconst 0, 1) := by decide +kernel
theorem dX6_readClause_52 : decode cX6_readClause 52 = .ok (.istore 4, 2) := by decide +kernel
theorem dX6_readClause_54 : decode cX6_readClause 54 = .ok (.aload_n 0, 1) := by decide +kernel
theorem dX6_readClause_55 : decode cX6_readClause 55 = .ok (.getfield 157, 3) := by decide +kernel
theorem dX6_readClause_58 : decode cX6_readClause 58 = .ok (.aload_n 0, 1) := by decide +kernel
theorem dX6_readClause_59 : decode cX6_readClause 59 = .ok (.getfield 154, 3) := by decide +kernel
theorem dX6_readClause_62 : decode cX6_readClause 62 = .ok (.if_icmp .ge 67, 3) := by decide +kernel
theorem dX6_readClause_65 : decode cX6_readClause 65 = .ok (.aload_n 0, 1) := by decide +kernel
theorem dX6_readClause_66 : decode cX6_readClause 66 = .ok (.getfield 59, 3) := by decide +kernel
theorem dX6_readClause_69 : decode cX6_readClause 69 = .ok (.aload_n 0, 1) := by decide +kernel
theorem dX6_readClause_70 : decode cX6_readClause 70 = .ok (.getfield 157, 3) := by decide +kernel
theorem dX6_readClause_73 : decode cX6_readClause 73 = .ok (.iaload, 1) := by decide +kernel
theorem dX6_readClause_74 : decode cX6_readClause 74 = .ok (.bipush 48, 2) := by decide +kernel
theorem dX6_readClause_76 : decode cX6_readClause 76 = .ok (.bipush 57, 2) := by decide +kernel
theorem dX6_readClause_78 : decode cX6_readClause 78 = .ok (.invokestatic 72, 3) := by decide +kernel
theorem dX6_readClause_81 : decode cX6_readClause 81 = .ok (.ifCond .eq 48, 3) := by decide +kernel
theorem dX6_readClause_84 : decode cX6_readClause 84 = .ok (.iload 4, 2) := by decide +kernel
theorem dX6_readClause_86 : decode cX6_readClause 86 = .ok (.bipush 99, 2) := by decide +kernel
theorem dX6_readClause_88 : decode cX6_readClause 88 = .ok (.if_icmp .le 8, 3) := by decide +kernel
theorem dX6_readClause_91 : decode cX6_readClause 91 = .ok (.iload 4, 2) := by decide +kernel
theorem dX6_readClause_93 : decode cX6_readClause 93 = .ok (.goto 21, 3) := by decide +kernel
theorem dX6_readClause_96 : decode cX6_readClause 96 = .ok (.bipush 10, 2) := by decide +kernel
theorem dX6_readClause_98 : decode cX6_readClause 98 = .ok (.iload 4, 2) := by decide +kernel
theorem dX6_readClause_100 : decode cX6_readClause 100 = .ok (.imul, 1) := by decide +kernel
theorem dX6_readClause_101 : decode cX6_readClause 101 = .ok (.aload_n 0, 1) := by decide +kernel
theorem dX6_readClause_102 : decode cX6_readClause 102 = .ok (.getfield 59, 3) := by decide +kernel
theorem dX6_readClause_105 : decode cX6_readClause 105 = .ok (.aload_n 0, 1) := by decide +kernel
theorem dX6_readClause_106 : decode cX6_readClause 106 = .ok (.getfield 157, 3) := by decide +kernel
theorem dX6_readClause_109 : decode cX6_readClause 109 = .ok (.iaload, 1) := by decide +kernel
theorem dX6_readClause_110 : decode cX6_readClause 110 = .ok (.iadd, 1) := by decide +kernel
theorem dX6_readClause_111 : decode cX6_readClause 111 = .ok (.bipush 48, 2) := by decide +kernel
theorem dX6_readClause_113 : decode cX6_readClause 113 = .ok (.isub, 1) := by decide +kernel
theorem dX6_readClause_114 : decode cX6_readClause 114 = .ok (.istore 4, 2) := by decide +kernel
theorem dX6_readClause_116 : decode cX6_readClause 116 = .ok (.aload_n 0, 1) := by decide +kernel
theorem dX6_readClause_117 : decode cX6_readClause 117 = .ok (.dup, 1) := by decide +kernel
theorem dX6_readClause_118 : decode cX6_readClause 118 = .ok (.getfield 157, 3) := by decide +kernel
theorem dX6_readClause_121 : decode cX6_readClause 121 = .ok (.iconst 1, 1) := by decide +kernel
theorem dX6_readClause_122 : decode cX6_readClause 122 = .ok (.iadd, 1) := by decide +kernel
theorem dX6_readClause_123 : decode cX6_readClause 123 = .ok (.putfield 157, 3) := by decide +kernel
theorem dX6_readClause_126 : decode cX6_readClause 126 = .ok (.goto (-72), 3) := by decide +kernel
theorem dX6_readClause_129 : decode cX6_readClause 129 = .ok (.aload_n 0, 1) := by decide +kernel
theorem dX6_readClause_130 : decode cX6_readClause 130 = .ok (.getfield 157, 3) := by decide +kernel
theorem dX6_readClause_133 : decode cX6_readClause 133 = .ok (.iload_n 3, 1) := by decide +kernel
theorem dX6_readClause_134 : decode cX6_readClause 134 = .ok (.if_icmp .eq 10, 3) := by decide +kernel
theorem dX6_readClause_137 : decode cX6_readClause 137 = .ok (.iload 4, 2) := by decide +kernel
theorem dX6_readClause_139 : decode cX6_readClause 139 = .ok (.bipush 99, 2) := by decide +kernel
theorem dX6_readClause_141 : decode cX6_readClause 141 = .ok (.if_icmp .le 10, 3) := by decide +kernel
theorem dX6_readClause_144 : decode cX6_readClause 144 = .ok (.aload_n 0, 1) := by decide +kernel
theorem dX6_readClause_145 : decode cX6_readClause 145 = .ok (.iload_n 3, 1) := by decide +kernel
theorem dX6_readClause_146 : decode cX6_readClause 146 = .ok (.putfield 157, 3) := by decide +kernel
theorem dX6_readClause_149 : decode cX6_readClause 149 = .ok (.iconst 0, 1) := by decide +kernel
theorem dX6_readClause_150 : decode cX6_readClause 150 = .ok (.ireturn, 1) := by decide +kernel
theorem dX6_readClause_151 : decode cX6_readClause 151 = .ok (.aload_n 0, 1) := by decide +kernel
theorem dX6_readClause_152 : decode cX6_readClause 152 = .ok (.invokevirtual 160, 3) := by decide +kernel
theorem dX6_readClause_155 : decode cX6_readClause 155 = .ok (.istore_n 1, 1) := by decide +kernel
theorem dX6_readClause_156 : decode cX6_readClause 156 = .ok (.iload_n 1, 1) := by decide +kernel
theorem dX6_readClause_157 : decode cX6_readClause 157 = .ok (.bipush 82, 2) := by decide +kernel
theorem dX6_readClause_159 : decode cX6_readClause 159 = .ok (.if_icmp .eq 11, 3) := by decide +kernel
theorem dX6_readClause_162 : decode cX6_readClause 162 = .ok (.iload_n 1, 1) := by decide +kernel
theorem dX6_readClause_163 : decode cX6_readClause 163 = .ok (.bipush 78, 2) := by decide +kernel
theorem dX6_readClause_165 : decode cX6_readClause 165 = .ok (.if_icmp .eq 5, 3) := by decide +kernel
theorem dX6_readClause_168 : decode cX6_readClause 168 = .ok (.iconst 0, 1) := by decide +kernel
theorem dX6_readClause_169 : decode cX6_readClause 169 = .ok (.ireturn, 1) := by decide +kernel
theorem dX6_readClause_170 : decode cX6_readClause 170 = .ok (.aload_n 0, 1) := by decide +kernel
theorem dX6_readClause_171 : decode cX6_readClause 171 = .ok (.dup, 1) := by decide +kernel
theorem dX6_readClause_172 : decode cX6_readClause 172 = .ok (.getfield 157, 3) := by decide +kernel
theorem dX6_readClause_175 : decode cX6_readClause 175 = .ok (.iconst 1, 1) := by decide +kernel
theorem dX6_readClause_176 : decode cX6_readClause 176 = .ok (.iadd, 1) := by decide +kernel
theorem dX6_readClause_177 : decode cX6_readClause 177 = .ok (.putfield 157, 3) := by decide +kernel
theorem dX6_readClause_180 : decode cX6_readClause 180 = .ok (.aload_n 0, 1) := by decide +kernel
theorem dX6_readClause_181 : decode cX6_readClause 181 = .ok (.getfield 53, 3) := by decide +kernel
theorem dX6_readClause_184 : decode cX6_readClause 184 = .ok (.iload_n 2, 1) := by decide +kernel
theorem dX6_readClause_185 : decode cX6_readClause 185 = .ok (.iload 4, 2) := by decide +kernel
theorem dX6_readClause_187 : decode cX6_readClause 187 = .ok (.iastore, 1) := by decide +kernel
theorem dX6_readClause_188 : decode cX6_readClause 188 = .ok (.aload_n 0, 1) := by decide +kernel
theorem dX6_readClause_189 : decode cX6_readClause 189 = .ok (.getfield 56, 3) := by decide +kernel
theorem dX6_readClause_192 : decode cX6_readClause 192 = .ok (.iload_n 2, 1) := by decide +kernel
theorem dX6_readClause_193 : decode cX6_readClause 193 = .ok (.iload_n 1, 1) := by decide +kernel
theorem dX6_readClause_194 : decode cX6_readClause 194 = .ok (.iastore, 1) := by decide +kernel
theorem dX6_readClause_195 : decode cX6_readClause 195 = .ok (.iconst 1, 1) := by decide +kernel
theorem dX6_readClause_196 : decode cX6_readClause 196 = .ok (.ireturn, 1) := by decide +kernel
theorem dX6_readLaws_0 : decode cX6_readLaws 0 = .ok (.aload_n 0, 1) := by decide +kernel
theorem dX6_readLaws_1 : decode cX6_readLaws 1 = .ok (.iconst 0, 1) := by decide +kernel
theorem dX6_readLaws_2 : decode cX6_readLaws 2 = .ok (.putfield 157, 3) := by decide +kernel
theorem dX6_readLaws_5 : decode cX6_readLaws 5 = .ok (.aload_n 0, 1) := by decide +kernel
theorem dX6_readLaws_6 : decode cX6_readLaws 6 = .ok (.getfield 56, 3) := by decide +kernel
theorem dX6_readLaws_9 : decode cX6_readLaws 9 = .ok (.iconst 0, 1) := by decide +kernel
theorem dX6_readLaws_10 : decode cX6_readLaws 10 = .ok (.iconst 0, 1) := by decide +kernel
theorem dX6_readLaws_11 : decode cX6_readLaws 11 = .ok (.iastore, 1) := by decide +kernel
theorem dX6_readLaws_12 : decode cX6_readLaws 12 = .ok (.aload_n 0, 1) := by decide +kernel
theorem dX6_readLaws_13 : decode cX6_readLaws 13 = .ok (.getfield 56, 3) := by decide +kernel
theorem dX6_readLaws_16 : decode cX6_readLaws 16 = .ok (.iconst 1, 1) := by decide +kernel
theorem dX6_readLaws_17 : decode cX6_readLaws 17 = .ok (.iconst 0, 1) := by decide +kernel
theorem dX6_readLaws_18 : decode cX6_readLaws 18 = .ok (.iastore, 1) := by decide +kernel
theorem dX6_readLaws_19 : decode cX6_readLaws 19 = .ok (.aload_n 0, 1) := by decide +kernel
theorem dX6_readLaws_20 : decode cX6_readLaws 20 = .ok (.invokevirtual 160, 3) := by decide +kernel
theorem dX6_readLaws_23 : decode cX6_readLaws 23 = .ok (.ifCond .ge 5, 3) := by decide +kernel
theorem dX6_readLaws_26 : decode cX6_readLaws 26 = .ok (.iconst 0, 1) := by decide +kernel
theorem dX6_readLaws_27 : decode cX6_readLaws 27 = .ok (.ireturn, 1) := by decide +kernel
theorem dX6_readLaws_28 : decode cX6_readLaws 28 = .ok (.iconst 0, 1) := by decide +kernel
theorem dX6_readLaws_29 : decode cX6_readLaws 29 = .ok (.istore_n 1, 1) := by decide +kernel
theorem dX6_readLaws_30 : decode cX6_readLaws 30 = .ok (.iconst 1, 1) := by decide +kernel
theorem dX6_readLaws_31 : decode cX6_readLaws 31 = .ok (.istore_n 2, 1) := by decide +kernel
theorem dX6_readLaws_32 : decode cX6_readLaws 32 = .ok (.iload_n 2, 1) := by decide +kernel
theorem dX6_readLaws_33 : decode cX6_readLaws 33 = .ok (.ifCond .eq 68, 3) := by decide +kernel
theorem dX6_readLaws_36 : decode cX6_readLaws 36 = .ok (.aload_n 0, 1) := by decide +kernel
theorem dX6_readLaws_37 : decode cX6_readLaws 37 = .ok (.invokevirtual 163, 3) := by decide +kernel
theorem dX6_readLaws_40 : decode cX6_readLaws 40 = .ok (.ifCond .ne 5, 3) := by decide +kernel
theorem dX6_readLaws_43 : decode cX6_readLaws 43 = .ok (.iconst (-1), 1) := by decide +kernel
theorem dX6_readLaws_44 : decode cX6_readLaws 44 = .ok (.ireturn, 1) := by decide +kernel
theorem dX6_readLaws_45 : decode cX6_readLaws 45 = .ok (.iinc 1 1, 3) := by decide +kernel
theorem dX6_readLaws_48 : decode cX6_readLaws 48 = .ok (.aload_n 0, 1) := by decide +kernel
theorem dX6_readLaws_49 : decode cX6_readLaws 49 = .ok (.invokevirtual 160, 3) := by decide +kernel
theorem dX6_readLaws_52 : decode cX6_readLaws 52 = .ok (.istore_n 3, 1) := by decide +kernel
theorem dX6_readLaws_53 : decode cX6_readLaws 53 = .ok (.iload_n 3, 1) := by decide +kernel
theorem dX6_readLaws_54 : decode cX6_readLaws 54 = .ok (.ifCond .lt 16, 3) := by decide +kernel
theorem dX6_readLaws_57 : decode cX6_readLaws 57 = .ok (.iload_n 3, 1) := by decide +kernel
theorem dX6_readLaws_58 : decode cX6_readLaws 58 = .ok (.bipush 59, 2) := by decide +kernel
theorem dX6_readLaws_60 : decode cX6_readLaws 60 = .ok (.if_icmp .ne 8, 3) := by decide +kernel
theorem dX6_readLaws_63 : decode cX6_readLaws 63 = .ok (.iload_n 1, 1) := by decide +kernel
theorem dX6_readLaws_64 : decode cX6_readLaws 64 = .ok (.iconst 2, 1) := by decide +kernel
theorem dX6_readLaws_65 : decode cX6_readLaws 65 = .ok (.if_icmp .ne 5, 3) := by decide +kernel
theorem dX6_readLaws_68 : decode cX6_readLaws 68 = .ok (.iconst (-1), 1) := by decide +kernel
theorem dX6_readLaws_69 : decode cX6_readLaws 69 = .ok (.ireturn, 1) := by decide +kernel
theorem dX6_readLaws_70 : decode cX6_readLaws 70 = .ok (.iload_n 3, 1) := by decide +kernel
theorem dX6_readLaws_71 : decode cX6_readLaws 71 = .ok (.ifCond .lt 7, 3) := by decide +kernel
theorem dX6_readLaws_74 : decode cX6_readLaws 74 = .ok (.iconst 1, 1) := by decide +kernel
theorem dX6_readLaws_75 : decode cX6_readLaws 75 = .ok (.goto 4, 3) := by decide +kernel
theorem dX6_readLaws_78 : decode cX6_readLaws 78 = .ok (.iconst 0, 1) := by decide +kernel
theorem dX6_readLaws_79 : decode cX6_readLaws 79 = .ok (.istore_n 2, 1) := by decide +kernel
theorem dX6_readLaws_80 : decode cX6_readLaws 80 = .ok (.aload_n 0, 1) := by decide +kernel
theorem dX6_readLaws_81 : decode cX6_readLaws 81 = .ok (.dup, 1) := by decide +kernel
theorem dX6_readLaws_82 : decode cX6_readLaws 82 = .ok (.getfield 157, 3) := by decide +kernel
theorem dX6_readLaws_85 : decode cX6_readLaws 85 = .ok (.iload_n 2, 1) := by decide +kernel
theorem dX6_readLaws_86 : decode cX6_readLaws 86 = .ok (.ifCond .eq 7, 3) := by decide +kernel
theorem dX6_readLaws_89 : decode cX6_readLaws 89 = .ok (.iconst 1, 1) := by decide +kernel
theorem dX6_readLaws_90 : decode cX6_readLaws 90 = .ok (.goto 4, 3) := by decide +kernel
theorem dX6_readLaws_93 : decode cX6_readLaws 93 = .ok (.iconst 0, 1) := by decide +kernel
theorem dX6_readLaws_94 : decode cX6_readLaws 94 = .ok (.iadd, 1) := by decide +kernel
theorem dX6_readLaws_95 : decode cX6_readLaws 95 = .ok (.putfield 157, 3) := by decide +kernel
theorem dX6_readLaws_98 : decode cX6_readLaws 98 = .ok (.goto (-66), 3) := by decide +kernel
theorem dX6_readLaws_101 : decode cX6_readLaws 101 = .ok (.iload_n 1, 1) := by decide +kernel
theorem dX6_readLaws_102 : decode cX6_readLaws 102 = .ok (.ireturn, 1) := by decide +kernel
theorem dX6_laws_0 : decode cX6_laws 0 = .ok (.aload_n 0, 1) := by decide +kernel
theorem dX6_laws_1 : decode cX6_laws 1 = .ok (.invokevirtual 167, 3) := by decide +kernel
theorem dX6_laws_4 : decode cX6_laws 4 = .ok (.istore_n 1, 1) := by decide +kernel
theorem dX6_laws_5 : decode cX6_laws 5 = .ok (.aload_n 0, 1) := by decide +kernel
theorem dX6_laws_6 : decode cX6_laws 6 = .ok (.iconst 0, 1) := by decide +kernel
theorem dX6_laws_7 : decode cX6_laws 7 = .ok (.putfield 154, 3) := by decide +kernel
theorem dX6_laws_10 : decode cX6_laws 10 = .ok (.iload_n 1, 1) := by decide +kernel
theorem dX6_laws_11 : decode cX6_laws 11 = .ok (.ifCond .ge 11, 3) := by decide +kernel
theorem dX6_laws_14 : decode cX6_laws 14 = .ok (.bipush (-20), 2) := by decide +kernel
theorem dX6_laws_16 : decode cX6_laws 16 = .ok (.aload_n 0, 1) := by decide +kernel
theorem dX6_laws_17 : decode cX6_laws 17 = .ok (.getfield 157, 3) := by decide +kernel
theorem dX6_laws_20 : decode cX6_laws 20 = .ok (.isub, 1) := by decide +kernel
theorem dX6_laws_21 : decode cX6_laws 21 = .ok (.ireturn, 1) := by decide +kernel
theorem dX6_laws_22 : decode cX6_laws 22 = .ok (.iconst 0, 1) := by decide +kernel
theorem dX6_laws_23 : decode cX6_laws 23 = .ok (.istore_n 2, 1) := by decide +kernel
theorem dX6_laws_24 : decode cX6_laws 24 = .ok (.iload_n 2, 1) := by decide +kernel
theorem dX6_laws_25 : decode cX6_laws 25 = .ok (.iconst 2, 1) := by decide +kernel
theorem dX6_laws_26 : decode cX6_laws 26 = .ok (.if_icmp .ge 33, 3) := by decide +kernel
theorem dX6_laws_29 : decode cX6_laws 29 = .ok (.aload_n 0, 1) := by decide +kernel
theorem dX6_laws_30 : decode cX6_laws 30 = .ok (.getfield 47, 3) := by decide +kernel
theorem dX6_laws_33 : decode cX6_laws 33 = .ok (.iload_n 2, 1) := by decide +kernel
theorem dX6_laws_34 : decode cX6_laws 34 = .ok (.aload_n 0, 1) := by decide +kernel
theorem dX6_laws_35 : decode cX6_laws 35 = .ok (.getfield 53, 3) := by decide +kernel
theorem dX6_laws_38 : decode cX6_laws 38 = .ok (.iload_n 2, 1) := by decide +kernel
theorem dX6_laws_39 : decode cX6_laws 39 = .ok (.iaload, 1) := by decide +kernel
theorem dX6_laws_40 : decode cX6_laws 40 = .ok (.iastore, 1) := by decide +kernel
theorem dX6_laws_41 : decode cX6_laws 41 = .ok (.aload_n 0, 1) := by decide +kernel
theorem dX6_laws_42 : decode cX6_laws 42 = .ok (.getfield 50, 3) := by decide +kernel
theorem dX6_laws_45 : decode cX6_laws 45 = .ok (.iload_n 2, 1) := by decide +kernel
theorem dX6_laws_46 : decode cX6_laws 46 = .ok (.aload_n 0, 1) := by decide +kernel
theorem dX6_laws_47 : decode cX6_laws 47 = .ok (.getfield 56, 3) := by decide +kernel
theorem dX6_laws_50 : decode cX6_laws 50 = .ok (.iload_n 2, 1) := by decide +kernel
theorem dX6_laws_51 : decode cX6_laws 51 = .ok (.iaload, 1) := by decide +kernel
theorem dX6_laws_52 : decode cX6_laws 52 = .ok (.iastore, 1) := by decide +kernel
theorem dX6_laws_53 : decode cX6_laws 53 = .ok (.iinc 2 1, 3) := by decide +kernel
theorem dX6_laws_56 : decode cX6_laws 56 = .ok (.goto (-32), 3) := by decide +kernel
theorem dX6_laws_59 : decode cX6_laws 59 = .ok (.iload_n 1, 1) := by decide +kernel
theorem dX6_laws_60 : decode cX6_laws 60 = .ok (.ireturn, 1) := by decide +kernel
theorem dX6_held_0 : decode cX6_held 0 = .ok (.iload_n 0, 1) := by decide +kernel
theorem dX6_held_1 : decode cX6_held 1 = .ok (.iload_n 1, 1) := by decide +kernel
theorem dX6_held_2 : decode cX6_held 2 = .ok (.if_icmp .ge 7, 3) := by decide +kernel
theorem dX6_held_5 : decode cX6_held 5 = .ok (.iload_n 1, 1) := by decide +kernel
theorem dX6_held_6 : decode cX6_held 6 = .ok (.goto 13, 3) := by decide +kernel
theorem dX6_held_9 : decode cX6_held 9 = .ok (.iload_n 0, 1) := by decide +kernel
theorem dX6_held_10 : decode cX6_held 10 = .ok (.iload_n 2, 1) := by decide +kernel
theorem dX6_held_11 : decode cX6_held 11 = .ok (.if_icmp .le 7, 3) := by decide +kernel
theorem dX6_held_14 : decode cX6_held 14 = .ok (.iload_n 2, 1) := by decide +kernel
theorem dX6_held_15 : decode cX6_held 15 = .ok (.goto 4, 3) := by decide +kernel
theorem dX6_held_18 : decode cX6_held 18 = .ok (.iload_n 0, 1) := by decide +kernel
theorem dX6_held_19 : decode cX6_held 19 = .ok (.ireturn, 1) := by decide +kernel
theorem dX6_settle_0 : decode cX6_settle 0 = .ok (.aload_n 0, 1) := by decide +kernel
theorem dX6_settle_1 : decode cX6_settle 1 = .ok (.getfield 84, 3) := by decide +kernel
theorem dX6_settle_4 : decode cX6_settle 4 = .ok (.ifCond .ne 6, 3) := by decide +kernel
theorem dX6_settle_7 : decode cX6_settle 7 = .ok (.bipush (-2), 2) := by decide +kernel
theorem dX6_settle_9 : decode cX6_settle 9 = .ok (.ireturn, 1) := by decide +kernel
theorem dX6_settle_10 : decode cX6_settle 10 = .ok (.aload_n 0, 1) := by decide +kernel
theorem dX6_settle_11 : decode cX6_settle 11 = .ok (.aload_n 0, 1) := by decide +kernel
theorem dX6_settle_12 : decode cX6_settle 12 = .ok (.getfield 88, 3) := by decide +kernel
theorem dX6_settle_15 : decode cX6_settle 15 = .ok (.invokevirtual 136, 3) := by decide +kernel
theorem dX6_settle_18 : decode cX6_settle 18 = .ok (.aload_n 0, 1) := by decide +kernel
theorem dX6_settle_19 : decode cX6_settle 19 = .ok (.invokevirtual 139, 3) := by decide +kernel
theorem dX6_settle_22 : decode cX6_settle 22 = .ok (.istore_n 1, 1) := by decide +kernel
theorem dX6_settle_23 : decode cX6_settle 23 = .ok (.iload_n 1, 1) := by decide +kernel
theorem dX6_settle_24 : decode cX6_settle 24 = .ok (.bipush (-4), 2) := by decide +kernel
theorem dX6_settle_26 : decode cX6_settle 26 = .ok (.if_icmp .ne 6, 3) := by decide +kernel
theorem dX6_settle_29 : decode cX6_settle 29 = .ok (.bipush (-2), 2) := by decide +kernel
theorem dX6_settle_31 : decode cX6_settle 31 = .ok (.ireturn, 1) := by decide +kernel
theorem dX6_settle_32 : decode cX6_settle 32 = .ok (.aload_n 0, 1) := by decide +kernel
theorem dX6_settle_33 : decode cX6_settle 33 = .ok (.getfield 13, 3) := by decide +kernel
theorem dX6_settle_36 : decode cX6_settle 36 = .ok (.iload_n 1, 1) := by decide +kernel
theorem dX6_settle_37 : decode cX6_settle 37 = .ok (.iaload, 1) := by decide +kernel
theorem dX6_settle_38 : decode cX6_settle 38 = .ok (.istore_n 2, 1) := by decide +kernel
theorem dX6_settle_39 : decode cX6_settle 39 = .ok (.aload_n 0, 1) := by decide +kernel
theorem dX6_settle_40 : decode cX6_settle 40 = .ok (.getfield 13, 3) := by decide +kernel
theorem dX6_settle_43 : decode cX6_settle 43 = .ok (.iconst 1, 1) := by decide +kernel
theorem dX6_settle_44 : decode cX6_settle 44 = .ok (.iload_n 1, 1) := by decide +kernel
theorem dX6_settle_45 : decode cX6_settle 45 = .ok (.isub, 1) := by decide +kernel
theorem dX6_settle_46 : decode cX6_settle 46 = .ok (.iaload, 1) := by decide +kernel
theorem dX6_settle_47 : decode cX6_settle 47 = .ok (.istore_n 3, 1) := by decide +kernel
theorem dX6_settle_48 : decode cX6_settle 48 = .ok (.bipush 10, 2) := by decide +kernel
theorem dX6_settle_50 : decode cX6_settle 50 = .ok (.aload_n 0, 1) := by decide +kernel
theorem dX6_settle_51 : decode cX6_settle 51 = .ok (.getfield 7, 3) := by decide +kernel
theorem dX6_settle_54 : decode cX6_settle 54 = .ok (.iload_n 2, 1) := by decide +kernel
theorem dX6_settle_55 : decode cX6_settle 55 = .ok (.iaload, 1) := by decide +kernel
theorem dX6_settle_56 : decode cX6_settle 56 = .ok (.aload_n 0, 1) := by decide +kernel
theorem dX6_settle_57 : decode cX6_settle 57 = .ok (.getfield 7, 3) := by decide +kernel
theorem dX6_settle_60 : decode cX6_settle 60 = .ok (.iload_n 3, 1) := by decide +kernel
theorem dX6_settle_61 : decode cX6_settle 61 = .ok (.iaload, 1) := by decide +kernel
theorem dX6_settle_62 : decode cX6_settle 62 = .ok (.isub, 1) := by decide +kernel
theorem dX6_settle_63 : decode cX6_settle 63 = .ok (.bipush 20, 2) := by decide +kernel
theorem dX6_settle_65 : decode cX6_settle 65 = .ok (.idiv, 1) := by decide +kernel
theorem dX6_settle_66 : decode cX6_settle 66 = .ok (.isub, 1) := by decide +kernel
theorem dX6_settle_67 : decode cX6_settle 67 = .ok (.iconst 1, 1) := by decide +kernel
theorem dX6_settle_68 : decode cX6_settle 68 = .ok (.bipush 19, 2) := by decide +kernel
theorem dX6_settle_70 : decode cX6_settle 70 = .ok (.invokestatic 170, 3) := by decide +kernel
theorem dX6_settle_73 : decode cX6_settle 73 = .ok (.istore 4, 2) := by decide +kernel
theorem dX6_settle_75 : decode cX6_settle 75 = .ok (.aload_n 0, 1) := by decide +kernel
theorem dX6_settle_76 : decode cX6_settle 76 = .ok (.getfield 7, 3) := by decide +kernel
theorem dX6_settle_79 : decode cX6_settle 79 = .ok (.iload_n 2, 1) := by decide +kernel
theorem dX6_settle_80 : decode cX6_settle 80 = .ok (.aload_n 0, 1) := by decide +kernel
theorem dX6_settle_81 : decode cX6_settle 81 = .ok (.getfield 7, 3) := by decide +kernel
theorem dX6_settle_84 : decode cX6_settle 84 = .ok (.iload_n 2, 1) := by decide +kernel
theorem dX6_settle_85 : decode cX6_settle 85 = .ok (.iaload, 1) := by decide +kernel
theorem dX6_settle_86 : decode cX6_settle 86 = .ok (.iload 4, 2) := by decide +kernel
theorem dX6_settle_88 : decode cX6_settle 88 = .ok (.iadd, 1) := by decide +kernel
theorem dX6_settle_89 : decode cX6_settle 89 = .ok (.iconst 0, 1) := by decide +kernel
theorem dX6_settle_90 : decode cX6_settle 90 = .ok (.sipush 2000, 3) := by decide +kernel
theorem dX6_settle_93 : decode cX6_settle 93 = .ok (.invokestatic 170, 3) := by decide +kernel
theorem dX6_settle_96 : decode cX6_settle 96 = .ok (.iastore, 1) := by decide +kernel
theorem dX6_settle_97 : decode cX6_settle 97 = .ok (.aload_n 0, 1) := by decide +kernel
theorem dX6_settle_98 : decode cX6_settle 98 = .ok (.getfield 7, 3) := by decide +kernel
theorem dX6_settle_101 : decode cX6_settle 101 = .ok (.iload_n 3, 1) := by decide +kernel
theorem dX6_settle_102 : decode cX6_settle 102 = .ok (.aload_n 0, 1) := by decide +kernel
theorem dX6_settle_103 : decode cX6_settle 103 = .ok (.getfield 7, 3) := by decide +kernel
theorem dX6_settle_106 : decode cX6_settle 106 = .ok (.iload_n 3, 1) := by decide +kernel
theorem dX6_settle_107 : decode cX6_settle 107 = .ok (.iaload, 1) := by decide +kernel
theorem dX6_settle_108 : decode cX6_settle 108 = .ok (.iload 4, 2) := by decide +kernel
theorem dX6_settle_110 : decode cX6_settle 110 = .ok (.isub, 1) := by decide +kernel
theorem dX6_settle_111 : decode cX6_settle 111 = .ok (.iconst 0, 1) := by decide +kernel
theorem dX6_settle_112 : decode cX6_settle 112 = .ok (.sipush 2000, 3) := by decide +kernel
theorem dX6_settle_115 : decode cX6_settle 115 = .ok (.invokestatic 170, 3) := by decide +kernel
theorem dX6_settle_118 : decode cX6_settle 118 = .ok (.iastore, 1) := by decide +kernel
theorem dX6_settle_119 : decode cX6_settle 119 = .ok (.aload_n 0, 1) := by decide +kernel
theorem dX6_settle_120 : decode cX6_settle 120 = .ok (.iconst 0, 1) := by decide +kernel
theorem dX6_settle_121 : decode cX6_settle 121 = .ok (.putfield 84, 3) := by decide +kernel
theorem dX6_settle_124 : decode cX6_settle 124 = .ok (.iload 4, 2) := by decide +kernel
theorem dX6_settle_126 : decode cX6_settle 126 = .ok (.ireturn, 1) := by decide +kernel
theorem dX6_isMatch_0 : decode cX6_isMatch 0 = .ok (.iload_n 0, 1) := by decide +kernel
theorem dX6_isMatch_1 : decode cX6_isMatch 1 = .ok (.iconst 0, 1) := by decide +kernel
theorem dX6_isMatch_2 : decode cX6_isMatch 2 = .ok (.bipush 14, 2) := by decide +kernel
theorem dX6_isMatch_4 : decode cX6_isMatch 4 = .ok (.invokestatic 72, 3) := by decide +kernel
theorem dX6_isMatch_7 : decode cX6_isMatch 7 = .ok (.ireturn, 1) := by decide +kernel
theorem dX6_isFirst_0 : decode cX6_isFirst 0 = .ok (.iload_n 0, 1) := by decide +kernel
theorem dX6_isFirst_1 : decode cX6_isFirst 1 = .ok (.iconst 4, 1) := by decide +kernel
theorem dX6_isFirst_2 : decode cX6_isFirst 2 = .ok (.if_icmp .lt 15, 3) := by decide +kernel
theorem dX6_isFirst_5 : decode cX6_isFirst 5 = .ok (.iload_n 0, 1) := by decide +kernel
theorem dX6_isFirst_6 : decode cX6_isFirst 6 = .ok (.bipush 7, 2) := by decide +kernel
theorem dX6_isFirst_8 : decode cX6_isFirst 8 = .ok (.if_icmp .lt 13, 3) := by decide +kernel
theorem dX6_isFirst_11 : decode cX6_isFirst 11 = .ok (.iload_n 0, 1) := by decide +kernel
theorem dX6_isFirst_12 : decode cX6_isFirst 12 = .ok (.bipush 11, 2) := by decide +kernel
theorem dX6_isFirst_14 : decode cX6_isFirst 14 = .ok (.if_icmp .ge 7, 3) := by decide +kernel
theorem dX6_isFirst_17 : decode cX6_isFirst 17 = .ok (.iconst 1, 1) := by decide +kernel
theorem dX6_isFirst_18 : decode cX6_isFirst 18 = .ok (.goto 4, 3) := by decide +kernel
theorem dX6_isFirst_21 : decode cX6_isFirst 21 = .ok (.iconst 0, 1) := by decide +kernel
theorem dX6_isFirst_22 : decode cX6_isFirst 22 = .ok (.ireturn, 1) := by decide +kernel
theorem dX6_from_0 : decode cX6_from 0 = .ok (.iload_n 0, 1) := by decide +kernel
theorem dX6_from_1 : decode cX6_from 1 = .ok (.bipush 14, 2) := by decide +kernel
theorem dX6_from_3 : decode cX6_from 3 = .ok (.if_icmp .ne 15, 3) := by decide +kernel
theorem dX6_from_6 : decode cX6_from 6 = .ok (.iload_n 1, 1) := by decide +kernel
theorem dX6_from_7 : decode cX6_from 7 = .ok (.ifCond .ne 8, 3) := by decide +kernel
theorem dX6_from_10 : decode cX6_from 10 = .ok (.bipush 6, 2) := by decide +kernel
theorem dX6_from_12 : decode cX6_from 12 = .ok (.goto 5, 3) := by decide +kernel
theorem dX6_from_15 : decode cX6_from 15 = .ok (.bipush 13, 2) := by decide +kernel
theorem dX6_from_17 : decode cX6_from 17 = .ok (.ireturn, 1) := by decide +kernel
theorem dX6_from_18 : decode cX6_from 18 = .ok (.iload_n 0, 1) := by decide +kernel
theorem dX6_from_19 : decode cX6_from 19 = .ok (.bipush 7, 2) := by decide +kernel
theorem dX6_from_21 : decode cX6_from 21 = .ok (.if_icmp .ge 7, 3) := by decide +kernel
theorem dX6_from_24 : decode cX6_from 24 = .ok (.iconst 0, 1) := by decide +kernel
theorem dX6_from_25 : decode cX6_from 25 = .ok (.goto 5, 3) := by decide +kernel
theorem dX6_from_28 : decode cX6_from 28 = .ok (.bipush 7, 2) := by decide +kernel
theorem dX6_from_30 : decode cX6_from 30 = .ok (.istore_n 2, 1) := by decide +kernel
theorem dX6_from_31 : decode cX6_from 31 = .ok (.iload_n 2, 1) := by decide +kernel
theorem dX6_from_32 : decode cX6_from 32 = .ok (.iconst 2, 1) := by decide +kernel
theorem dX6_from_33 : decode cX6_from 33 = .ok (.iload_n 0, 1) := by decide +kernel
theorem dX6_from_34 : decode cX6_from 34 = .ok (.iload_n 2, 1) := by decide +kernel
theorem dX6_from_35 : decode cX6_from 35 = .ok (.isub, 1) := by decide +kernel
theorem dX6_from_36 : decode cX6_from 36 = .ok (.iconst 4, 1) := by decide +kernel
theorem dX6_from_37 : decode cX6_from 37 = .ok (.isub, 1) := by decide +kernel
theorem dX6_from_38 : decode cX6_from 38 = .ok (.imul, 1) := by decide +kernel
theorem dX6_from_39 : decode cX6_from 39 = .ok (.iadd, 1) := by decide +kernel
theorem dX6_from_40 : decode cX6_from 40 = .ok (.iload_n 1, 1) := by decide +kernel
theorem dX6_from_41 : decode cX6_from 41 = .ok (.iadd, 1) := by decide +kernel
theorem dX6_from_42 : decode cX6_from 42 = .ok (.ireturn, 1) := by decide +kernel
theorem dX6_playerOf_0 : decode cX6_playerOf 0 = .ok (.iload_n 1, 1) := by decide +kernel
theorem dX6_playerOf_1 : decode cX6_playerOf 1 = .ok (.iconst 4, 1) := by decide +kernel
theorem dX6_playerOf_2 : decode cX6_playerOf 2 = .ok (.if_icmp .ge 9, 3) := by decide +kernel
theorem dX6_playerOf_5 : decode cX6_playerOf 5 = .ok (.iconst 2, 1) := by decide +kernel
theorem dX6_playerOf_6 : decode cX6_playerOf 6 = .ok (.iload_n 1, 1) := by decide +kernel
theorem dX6_playerOf_7 : decode cX6_playerOf 7 = .ok (.imul, 1) := by decide +kernel
theorem dX6_playerOf_8 : decode cX6_playerOf 8 = .ok (.iload_n 2, 1) := by decide +kernel
theorem dX6_playerOf_9 : decode cX6_playerOf 9 = .ok (.iadd, 1) := by decide +kernel
theorem dX6_playerOf_10 : decode cX6_playerOf 10 = .ok (.ireturn, 1) := by decide +kernel
theorem dX6_playerOf_11 : decode cX6_playerOf 11 = .ok (.iload_n 1, 1) := by decide +kernel
theorem dX6_playerOf_12 : decode cX6_playerOf 12 = .ok (.invokestatic 174, 3) := by decide +kernel
theorem dX6_playerOf_15 : decode cX6_playerOf 15 = .ok (.ifCond .eq 41, 3) := by decide +kernel
theorem dX6_playerOf_18 : decode cX6_playerOf 18 = .ok (.iload_n 1, 1) := by decide +kernel
theorem dX6_playerOf_19 : decode cX6_playerOf 19 = .ok (.bipush 7, 2) := by decide +kernel
theorem dX6_playerOf_21 : decode cX6_playerOf 21 = .ok (.if_icmp .ne 7, 3) := by decide +kernel
theorem dX6_playerOf_24 : decode cX6_playerOf 24 = .ok (.iconst 0, 1) := by decide +kernel
theorem dX6_playerOf_25 : decode cX6_playerOf 25 = .ok (.goto 24, 3) := by decide +kernel
theorem dX6_playerOf_28 : decode cX6_playerOf 28 = .ok (.iload_n 1, 1) := by decide +kernel
theorem dX6_playerOf_29 : decode cX6_playerOf 29 = .ok (.bipush 8, 2) := by decide +kernel
theorem dX6_playerOf_31 : decode cX6_playerOf 31 = .ok (.if_icmp .ne 7, 3) := by decide +kernel
theorem dX6_playerOf_34 : decode cX6_playerOf 34 = .ok (.iconst 2, 1) := by decide +kernel
theorem dX6_playerOf_35 : decode cX6_playerOf 35 = .ok (.goto 14, 3) := by decide +kernel
theorem dX6_playerOf_38 : decode cX6_playerOf 38 = .ok (.iload_n 1, 1) := by decide +kernel
theorem dX6_playerOf_39 : decode cX6_playerOf 39 = .ok (.bipush 9, 2) := by decide +kernel
theorem dX6_playerOf_41 : decode cX6_playerOf 41 = .ok (.if_icmp .ne 7, 3) := by decide +kernel
theorem dX6_playerOf_44 : decode cX6_playerOf 44 = .ok (.iconst 1, 1) := by decide +kernel
theorem dX6_playerOf_45 : decode cX6_playerOf 45 = .ok (.goto 4, 3) := by decide +kernel
theorem dX6_playerOf_48 : decode cX6_playerOf 48 = .ok (.iconst 3, 1) := by decide +kernel
theorem dX6_playerOf_49 : decode cX6_playerOf 49 = .ok (.istore_n 3, 1) := by decide +kernel
theorem dX6_playerOf_50 : decode cX6_playerOf 50 = .ok (.iload_n 3, 1) := by decide +kernel
theorem dX6_playerOf_51 : decode cX6_playerOf 51 = .ok (.iconst 4, 1) := by decide +kernel
theorem dX6_playerOf_52 : decode cX6_playerOf 52 = .ok (.iload_n 2, 1) := by decide +kernel
theorem dX6_playerOf_53 : decode cX6_playerOf 53 = .ok (.imul, 1) := by decide +kernel
theorem dX6_playerOf_54 : decode cX6_playerOf 54 = .ok (.iadd, 1) := by decide +kernel
theorem dX6_playerOf_55 : decode cX6_playerOf 55 = .ok (.ireturn, 1) := by decide +kernel
theorem dX6_playerOf_56 : decode cX6_playerOf 56 = .ok (.iload_n 1, 1) := by decide +kernel
theorem dX6_playerOf_57 : decode cX6_playerOf 57 = .ok (.bipush 14, 2) := by decide +kernel
theorem dX6_playerOf_59 : decode cX6_playerOf 59 = .ok (.if_icmp .ne 42, 3) := by decide +kernel
theorem dX6_playerOf_62 : decode cX6_playerOf 62 = .ok (.aload_n 0, 1) := by decide +kernel
theorem dX6_playerOf_63 : decode cX6_playerOf 63 = .ok (.getfield 62, 3) := by decide +kernel
theorem dX6_playerOf_66 : decode cX6_playerOf 66 = .ok (.bipush 6, 2) := by decide +kernel
theorem dX6_playerOf_68 : decode cX6_playerOf 68 = .ok (.iaload, 1) := by decide +kernel
theorem dX6_playerOf_69 : decode cX6_playerOf 69 = .ok (.ifCond .lt 30, 3) := by decide +kernel
theorem dX6_playerOf_72 : decode cX6_playerOf 72 = .ok (.aload_n 0, 1) := by decide +kernel
theorem dX6_playerOf_73 : decode cX6_playerOf 73 = .ok (.getfield 62, 3) := by decide +kernel
theorem dX6_playerOf_76 : decode cX6_playerOf 76 = .ok (.bipush 13, 2) := by decide +kernel
theorem dX6_playerOf_78 : decode cX6_playerOf 78 = .ok (.iaload, 1) := by decide +kernel
theorem dX6_playerOf_79 : decode cX6_playerOf 79 = .ok (.ifCond .lt 20, 3) := by decide +kernel
theorem dX6_playerOf_82 : decode cX6_playerOf 82 = .ok (.aload_n 0, 1) := by decide +kernel
theorem dX6_playerOf_83 : decode cX6_playerOf 83 = .ok (.getfield 62, 3) := by decide +kernel
theorem dX6_playerOf_86 : decode cX6_playerOf 86 = .ok (.bipush 6, 2) := by decide +kernel
theorem dX6_playerOf_88 : decode cX6_playerOf 88 = .ok (.iaload, 1) := by decide +kernel
theorem dX6_playerOf_89 : decode cX6_playerOf 89 = .ok (.aload_n 0, 1) := by decide +kernel
theorem dX6_playerOf_90 : decode cX6_playerOf 90 = .ok (.getfield 62, 3) := by decide +kernel
theorem dX6_playerOf_93 : decode cX6_playerOf 93 = .ok (.bipush 13, 2) := by decide +kernel
theorem dX6_playerOf_95 : decode cX6_playerOf 95 = .ok (.iaload, 1) := by decide +kernel
theorem dX6_playerOf_96 : decode cX6_playerOf 96 = .ok (.if_icmp .ne 5, 3) := by decide +kernel
theorem dX6_playerOf_99 : decode cX6_playerOf 99 = .ok (.iconst (-1), 1) := by decide +kernel
theorem dX6_playerOf_100 : decode cX6_playerOf 100 = .ok (.ireturn, 1) := by decide +kernel
theorem dX6_playerOf_101 : decode cX6_playerOf 101 = .ok (.aload_n 0, 1) := by decide +kernel
theorem dX6_playerOf_102 : decode cX6_playerOf 102 = .ok (.getfield 62, 3) := by decide +kernel
theorem dX6_playerOf_105 : decode cX6_playerOf 105 = .ok (.iload_n 1, 1) := by decide +kernel
theorem dX6_playerOf_106 : decode cX6_playerOf 106 = .ok (.iload_n 2, 1) := by decide +kernel
theorem dX6_playerOf_107 : decode cX6_playerOf 107 = .ok (.invokestatic 177, 3) := by decide +kernel
theorem dX6_playerOf_110 : decode cX6_playerOf 110 = .ok (.iaload, 1) := by decide +kernel
theorem dX6_playerOf_111 : decode cX6_playerOf 111 = .ok (.ireturn, 1) := by decide +kernel
theorem dX6_match_0 : decode cX6_match 0 = .ok (.iload_n 1, 1) := by decide +kernel
theorem dX6_match_1 : decode cX6_match 1 = .ok (.invokestatic 181, 3) := by decide +kernel
theorem dX6_match_4 : decode cX6_match 4 = .ok (.ifCond .eq 12, 3) := by decide +kernel
theorem dX6_match_7 : decode cX6_match 7 = .ok (.iload_n 2, 1) := by decide +kernel
theorem dX6_match_8 : decode cX6_match 8 = .ok (.iconst 0, 1) := by decide +kernel
theorem dX6_match_9 : decode cX6_match 9 = .ok (.iconst 2, 1) := by decide +kernel
theorem dX6_match_10 : decode cX6_match 10 = .ok (.invokestatic 72, 3) := by decide +kernel
theorem dX6_match_13 : decode cX6_match 13 = .ok (.ifCond .ne 5, 3) := by decide +kernel
theorem dX6_match_16 : decode cX6_match 16 = .ok (.iconst (-1), 1) := by decide +kernel
theorem dX6_match_17 : decode cX6_match 17 = .ok (.ireturn, 1) := by decide +kernel
theorem dX6_match_18 : decode cX6_match 18 = .ok (.iload_n 2, 1) := by decide +kernel
theorem dX6_match_19 : decode cX6_match 19 = .ok (.iconst 2, 1) := by decide +kernel
theorem dX6_match_20 : decode cX6_match 20 = .ok (.if_icmp .ne 12, 3) := by decide +kernel
theorem dX6_match_23 : decode cX6_match 23 = .ok (.aload_n 0, 1) := by decide +kernel
theorem dX6_match_24 : decode cX6_match 24 = .ok (.getfield 62, 3) := by decide +kernel
theorem dX6_match_27 : decode cX6_match 27 = .ok (.iload_n 1, 1) := by decide +kernel
theorem dX6_match_28 : decode cX6_match 28 = .ok (.iaload, 1) := by decide +kernel
theorem dX6_match_29 : decode cX6_match 29 = .ok (.goto 9, 3) := by decide +kernel
theorem dX6_match_32 : decode cX6_match 32 = .ok (.aload_n 0, 1) := by decide +kernel
theorem dX6_match_33 : decode cX6_match 33 = .ok (.iload_n 1, 1) := by decide +kernel
theorem dX6_match_34 : decode cX6_match 34 = .ok (.iload_n 2, 1) := by decide +kernel
theorem dX6_match_35 : decode cX6_match 35 = .ok (.invokevirtual 184, 3) := by decide +kernel
theorem dX6_match_38 : decode cX6_match 38 = .ok (.istore_n 3, 1) := by decide +kernel
theorem dX6_match_39 : decode cX6_match 39 = .ok (.iload_n 3, 1) := by decide +kernel
theorem dX6_match_40 : decode cX6_match 40 = .ok (.ifCond .ge 8, 3) := by decide +kernel
theorem dX6_match_43 : decode cX6_match 43 = .ok (.bipush (-4), 2) := by decide +kernel
theorem dX6_match_45 : decode cX6_match 45 = .ok (.goto 4, 3) := by decide +kernel
theorem dX6_match_48 : decode cX6_match 48 = .ok (.iload_n 3, 1) := by decide +kernel
theorem dX6_match_49 : decode cX6_match 49 = .ok (.ireturn, 1) := by decide +kernel
theorem dX6_win_0 : decode cX6_win 0 = .ok (.iload_n 1, 1) := by decide +kernel
theorem dX6_win_1 : decode cX6_win 1 = .ok (.invokestatic 181, 3) := by decide +kernel
theorem dX6_win_4 : decode cX6_win 4 = .ok (.ifCond .eq 10, 3) := by decide +kernel
theorem dX6_win_7 : decode cX6_win 7 = .ok (.iload_n 2, 1) := by decide +kernel
theorem dX6_win_8 : decode cX6_win 8 = .ok (.invokestatic 76, 3) := by decide +kernel
theorem dX6_win_11 : decode cX6_win 11 = .ok (.ifCond .ne 5, 3) := by decide +kernel
theorem dX6_win_14 : decode cX6_win 14 = .ok (.iconst (-1), 1) := by decide +kernel
theorem dX6_win_15 : decode cX6_win 15 = .ok (.ireturn, 1) := by decide +kernel
theorem dX6_win_16 : decode cX6_win 16 = .ok (.aload_n 0, 1) := by decide +kernel
theorem dX6_win_17 : decode cX6_win 17 = .ok (.iload_n 1, 1) := by decide +kernel
theorem dX6_win_18 : decode cX6_win 18 = .ok (.iconst 0, 1) := by decide +kernel
theorem dX6_win_19 : decode cX6_win 19 = .ok (.invokevirtual 184, 3) := by decide +kernel
theorem dX6_win_22 : decode cX6_win 22 = .ok (.istore_n 3, 1) := by decide +kernel
theorem dX6_win_23 : decode cX6_win 23 = .ok (.aload_n 0, 1) := by decide +kernel
theorem dX6_win_24 : decode cX6_win 24 = .ok (.iload_n 1, 1) := by decide +kernel
theorem dX6_win_25 : decode cX6_win 25 = .ok (.iconst 1, 1) := by decide +kernel
theorem dX6_win_26 : decode cX6_win 26 = .ok (.invokevirtual 184, 3) := by decide +kernel
theorem dX6_win_29 : decode cX6_win 29 = .ok (.istore 4, 2) := by decide +kernel
theorem dX6_win_31 : decode cX6_win 31 = .ok (.iload_n 3, 1) := by decide +kernel
theorem dX6_win_32 : decode cX6_win 32 = .ok (.ifCond .lt 28, 3) := by decide +kernel
theorem dX6_win_35 : decode cX6_win 35 = .ok (.iload 4, 2) := by decide +kernel
theorem dX6_win_37 : decode cX6_win 37 = .ok (.ifCond .lt 23, 3) := by decide +kernel
theorem dX6_win_40 : decode cX6_win 40 = .ok (.aload_n 0, 1) := by decide +kernel
theorem dX6_win_41 : decode cX6_win 41 = .ok (.getfield 62, 3) := by decide +kernel
theorem dX6_win_44 : decode cX6_win 44 = .ok (.iload_n 1, 1) := by decide +kernel
theorem dX6_win_45 : decode cX6_win 45 = .ok (.iaload, 1) := by decide +kernel
theorem dX6_win_46 : decode cX6_win 46 = .ok (.ifCond .ge 14, 3) := by decide +kernel
theorem dX6_win_49 : decode cX6_win 49 = .ok (.iload_n 2, 1) := by decide +kernel
theorem dX6_win_50 : decode cX6_win 50 = .ok (.iload_n 3, 1) := by decide +kernel
theorem dX6_win_51 : decode cX6_win 51 = .ok (.if_icmp .eq 12, 3) := by decide +kernel
theorem dX6_win_54 : decode cX6_win 54 = .ok (.iload_n 2, 1) := by decide +kernel
theorem dX6_win_55 : decode cX6_win 55 = .ok (.iload 4, 2) := by decide +kernel
theorem dX6_win_57 : decode cX6_win 57 = .ok (.if_icmp .eq 6, 3) := by decide +kernel
theorem dX6_win_60 : decode cX6_win 60 = .ok (.bipush (-2), 2) := by decide +kernel
theorem dX6_win_62 : decode cX6_win 62 = .ok (.ireturn, 1) := by decide +kernel
theorem dX6_win_63 : decode cX6_win 63 = .ok (.aload_n 0, 1) := by decide +kernel
theorem dX6_win_64 : decode cX6_win 64 = .ok (.getfield 62, 3) := by decide +kernel
theorem dX6_win_67 : decode cX6_win 67 = .ok (.iload_n 1, 1) := by decide +kernel
theorem dX6_win_68 : decode cX6_win 68 = .ok (.iload_n 2, 1) := by decide +kernel
theorem dX6_win_69 : decode cX6_win 69 = .ok (.iastore, 1) := by decide +kernel
theorem dX6_win_70 : decode cX6_win 70 = .ok (.iconst 1, 1) := by decide +kernel
theorem dX6_win_71 : decode cX6_win 71 = .ok (.ireturn, 1) := by decide +kernel
theorem dX6_unwin_0 : decode cX6_unwin 0 = .ok (.iload_n 1, 1) := by decide +kernel
theorem dX6_unwin_1 : decode cX6_unwin 1 = .ok (.invokestatic 181, 3) := by decide +kernel
theorem dX6_unwin_4 : decode cX6_unwin 4 = .ok (.ifCond .ne 5, 3) := by decide +kernel
theorem dX6_unwin_7 : decode cX6_unwin 7 = .ok (.iconst (-1), 1) := by decide +kernel
theorem dX6_unwin_8 : decode cX6_unwin 8 = .ok (.ireturn, 1) := by decide +kernel
theorem dX6_unwin_9 : decode cX6_unwin 9 = .ok (.aload_n 0, 1) := by decide +kernel
theorem dX6_unwin_10 : decode cX6_unwin 10 = .ok (.getfield 62, 3) := by decide +kernel
theorem dX6_unwin_13 : decode cX6_unwin 13 = .ok (.iload_n 1, 1) := by decide +kernel
theorem dX6_unwin_14 : decode cX6_unwin 14 = .ok (.iaload, 1) := by decide +kernel
theorem dX6_unwin_15 : decode cX6_unwin 15 = .ok (.ifCond .ge 6, 3) := by decide +kernel
theorem dX6_unwin_18 : decode cX6_unwin 18 = .ok (.bipush (-2), 2) := by decide +kernel
theorem dX6_unwin_20 : decode cX6_unwin 20 = .ok (.ireturn, 1) := by decide +kernel
theorem dX6_unwin_21 : decode cX6_unwin 21 = .ok (.aload_n 0, 1) := by decide +kernel
theorem dX6_unwin_22 : decode cX6_unwin 22 = .ok (.getfield 62, 3) := by decide +kernel
theorem dX6_unwin_25 : decode cX6_unwin 25 = .ok (.iload_n 1, 1) := by decide +kernel
theorem dX6_unwin_26 : decode cX6_unwin 26 = .ok (.iconst (-1), 1) := by decide +kernel
theorem dX6_unwin_27 : decode cX6_unwin 27 = .ok (.iastore, 1) := by decide +kernel
theorem dX6_unwin_28 : decode cX6_unwin 28 = .ok (.iconst 1, 1) := by decide +kernel
theorem dX6_unwin_29 : decode cX6_unwin 29 = .ok (.istore_n 2, 1) := by decide +kernel
theorem dX6_unwin_30 : decode cX6_unwin 30 = .ok (.iload_n 1, 1) := by decide +kernel
theorem dX6_unwin_31 : decode cX6_unwin 31 = .ok (.iconst 1, 1) := by decide +kernel
theorem dX6_unwin_32 : decode cX6_unwin 32 = .ok (.iadd, 1) := by decide +kernel
theorem dX6_unwin_33 : decode cX6_unwin 33 = .ok (.istore_n 3, 1) := by decide +kernel
theorem dX6_unwin_34 : decode cX6_unwin 34 = .ok (.iload_n 3, 1) := by decide +kernel
theorem dX6_unwin_35 : decode cX6_unwin 35 = .ok (.bipush 15, 2) := by decide +kernel
theorem dX6_unwin_37 : decode cX6_unwin 37 = .ok (.if_icmp .ge 53, 3) := by decide +kernel
theorem dX6_unwin_40 : decode cX6_unwin 40 = .ok (.iload_n 3, 1) := by decide +kernel
theorem dX6_unwin_41 : decode cX6_unwin 41 = .ok (.invokestatic 174, 3) := by decide +kernel
theorem dX6_unwin_44 : decode cX6_unwin 44 = .ok (.ifCond .ne 40, 3) := by decide +kernel
theorem dX6_unwin_47 : decode cX6_unwin 47 = .ok (.aload_n 0, 1) := by decide +kernel
theorem dX6_unwin_48 : decode cX6_unwin 48 = .ok (.getfield 62, 3) := by decide +kernel
theorem dX6_unwin_51 : decode cX6_unwin 51 = .ok (.iload_n 3, 1) := by decide +kernel
theorem dX6_unwin_52 : decode cX6_unwin 52 = .ok (.iaload, 1) := by decide +kernel
theorem dX6_unwin_53 : decode cX6_unwin 53 = .ok (.ifCond .lt 31, 3) := by decide +kernel
theorem dX6_unwin_56 : decode cX6_unwin 56 = .ok (.aload_n 0, 1) := by decide +kernel
theorem dX6_unwin_57 : decode cX6_unwin 57 = .ok (.iload_n 3, 1) := by decide +kernel
theorem dX6_unwin_58 : decode cX6_unwin 58 = .ok (.iconst 0, 1) := by decide +kernel
theorem dX6_unwin_59 : decode cX6_unwin 59 = .ok (.invokevirtual 184, 3) := by decide +kernel
theorem dX6_unwin_62 : decode cX6_unwin 62 = .ok (.ifCond .lt 12, 3) := by decide +kernel
theorem dX6_unwin_65 : decode cX6_unwin 65 = .ok (.aload_n 0, 1) := by decide +kernel
theorem dX6_unwin_66 : decode cX6_unwin 66 = .ok (.iload_n 3, 1) := by decide +kernel
theorem dX6_unwin_67 : decode cX6_unwin 67 = .ok (.iconst 1, 1) := by decide +kernel
theorem dX6_unwin_68 : decode cX6_unwin 68 = .ok (.invokevirtual 184, 3) := by decide +kernel
theorem dX6_unwin_71 : decode cX6_unwin 71 = .ok (.ifCond .ge 13, 3) := by decide +kernel
theorem dX6_unwin_74 : decode cX6_unwin 74 = .ok (.aload_n 0, 1) := by decide +kernel
theorem dX6_unwin_75 : decode cX6_unwin 75 = .ok (.getfield 62, 3) := by decide +kernel
theorem dX6_unwin_78 : decode cX6_unwin 78 = .ok (.iload_n 3, 1) := by decide +kernel
theorem dX6_unwin_79 : decode cX6_unwin 79 = .ok (.iconst (-1), 1) := by decide +kernel
theorem dX6_unwin_80 : decode cX6_unwin 80 = .ok (.iastore, 1) := by decide +kernel
theorem dX6_unwin_81 : decode cX6_unwin 81 = .ok (.iinc 2 1, 3) := by decide +kernel
theorem dX6_unwin_84 : decode cX6_unwin 84 = .ok (.iinc 3 1, 3) := by decide +kernel
theorem dX6_unwin_87 : decode cX6_unwin 87 = .ok (.goto (-53), 3) := by decide +kernel
theorem dX6_unwin_90 : decode cX6_unwin 90 = .ok (.iload_n 2, 1) := by decide +kernel
theorem dX6_unwin_91 : decode cX6_unwin 91 = .ok (.ireturn, 1) := by decide +kernel
theorem dX6_champion_0 : decode cX6_champion 0 = .ok (.aload_n 0, 1) := by decide +kernel
theorem dX6_champion_1 : decode cX6_champion 1 = .ok (.getfield 62, 3) := by decide +kernel
theorem dX6_champion_4 : decode cX6_champion 4 = .ok (.bipush 6, 2) := by decide +kernel
theorem dX6_champion_6 : decode cX6_champion 6 = .ok (.iaload, 1) := by decide +kernel
theorem dX6_champion_7 : decode cX6_champion 7 = .ok (.istore_n 1, 1) := by decide +kernel
theorem dX6_champion_8 : decode cX6_champion 8 = .ok (.aload_n 0, 1) := by decide +kernel
theorem dX6_champion_9 : decode cX6_champion 9 = .ok (.getfield 62, 3) := by decide +kernel
theorem dX6_champion_12 : decode cX6_champion 12 = .ok (.bipush 13, 2) := by decide +kernel
theorem dX6_champion_14 : decode cX6_champion 14 = .ok (.iaload, 1) := by decide +kernel
theorem dX6_champion_15 : decode cX6_champion 15 = .ok (.istore_n 2, 1) := by decide +kernel
theorem dX6_champion_16 : decode cX6_champion 16 = .ok (.iload_n 1, 1) := by decide +kernel
theorem dX6_champion_17 : decode cX6_champion 17 = .ok (.ifCond .lt 10, 3) := by decide +kernel
theorem dX6_champion_20 : decode cX6_champion 20 = .ok (.iload_n 1, 1) := by decide +kernel
theorem dX6_champion_21 : decode cX6_champion 21 = .ok (.iload_n 2, 1) := by decide +kernel
theorem dX6_champion_22 : decode cX6_champion 22 = .ok (.if_icmp .ne 5, 3) := by decide +kernel
theorem dX6_champion_25 : decode cX6_champion 25 = .ok (.iload_n 1, 1) := by decide +kernel
theorem dX6_champion_26 : decode cX6_champion 26 = .ok (.ireturn, 1) := by decide +kernel
theorem dX6_champion_27 : decode cX6_champion 27 = .ok (.aload_n 0, 1) := by decide +kernel
theorem dX6_champion_28 : decode cX6_champion 28 = .ok (.getfield 62, 3) := by decide +kernel
theorem dX6_champion_31 : decode cX6_champion 31 = .ok (.bipush 14, 2) := by decide +kernel
theorem dX6_champion_33 : decode cX6_champion 33 = .ok (.iaload, 1) := by decide +kernel
theorem dX6_champion_34 : decode cX6_champion 34 = .ok (.ifCond .ge 8, 3) := by decide +kernel
theorem dX6_champion_37 : decode cX6_champion 37 = .ok (.bipush (-4), 2) := by decide +kernel
theorem dX6_champion_39 : decode cX6_champion 39 = .ok (.goto 10, 3) := by decide +kernel
theorem dX6_champion_42 : decode cX6_champion 42 = .ok (.aload_n 0, 1) := by decide +kernel
theorem dX6_champion_43 : decode cX6_champion 43 = .ok (.getfield 62, 3) := by decide +kernel
theorem dX6_champion_46 : decode cX6_champion 46 = .ok (.bipush 14, 2) := by decide +kernel
theorem dX6_champion_48 : decode cX6_champion 48 = .ok (.iaload, 1) := by decide +kernel
theorem dX6_champion_49 : decode cX6_champion 49 = .ok (.ireturn, 1) := by decide +kernel
theorem dX6_laid_0 : decode cX6_laid 0 = .ok (.iconst 0, 1) := by decide +kernel
theorem dX6_laid_1 : decode cX6_laid 1 = .ok (.istore_n 1, 1) := by decide +kernel
theorem dX6_laid_2 : decode cX6_laid 2 = .ok (.iconst 0, 1) := by decide +kernel
theorem dX6_laid_3 : decode cX6_laid 3 = .ok (.istore_n 2, 1) := by decide +kernel
theorem dX6_laid_4 : decode cX6_laid 4 = .ok (.iload_n 2, 1) := by decide +kernel
theorem dX6_laid_5 : decode cX6_laid 5 = .ok (.bipush 15, 2) := by decide +kernel
theorem dX6_laid_7 : decode cX6_laid 7 = .ok (.if_icmp .ge 26, 3) := by decide +kernel
theorem dX6_laid_10 : decode cX6_laid 10 = .ok (.iload_n 1, 1) := by decide +kernel
theorem dX6_laid_11 : decode cX6_laid 11 = .ok (.aload_n 0, 1) := by decide +kernel
theorem dX6_laid_12 : decode cX6_laid 12 = .ok (.getfield 65, 3) := by decide +kernel
theorem dX6_laid_15 : decode cX6_laid 15 = .ok (.iload_n 2, 1) := by decide +kernel
theorem dX6_laid_16 : decode cX6_laid 16 = .ok (.iaload, 1) := by decide +kernel
theorem dX6_laid_17 : decode cX6_laid 17 = .ok (.ifCond .lt 7, 3) := by decide +kernel
theorem dX6_laid_20 : decode cX6_laid 20 = .ok (.iconst 1, 1) := by decide +kernel
theorem dX6_laid_21 : decode cX6_laid 21 = .ok (.goto 4, 3) := by decide +kernel
theorem dX6_laid_24 : decode cX6_laid 24 = .ok (.iconst 0, 1) := by decide +kernel
theorem dX6_laid_25 : decode cX6_laid 25 = .ok (.iadd, 1) := by decide +kernel
theorem dX6_laid_26 : decode cX6_laid 26 = .ok (.istore_n 1, 1) := by decide +kernel
theorem dX6_laid_27 : decode cX6_laid 27 = .ok (.iinc 2 1, 3) := by decide +kernel
theorem dX6_laid_30 : decode cX6_laid 30 = .ok (.goto (-26), 3) := by decide +kernel
theorem dX6_laid_33 : decode cX6_laid 33 = .ok (.iload_n 1, 1) := by decide +kernel
theorem dX6_laid_34 : decode cX6_laid 34 = .ok (.ireturn, 1) := by decide +kernel
theorem dX6_lawns_0 : decode cX6_lawns 0 = .ok (.iload_n 1, 1) := by decide +kernel
theorem dX6_lawns_1 : decode cX6_lawns 1 = .ok (.iconst 1, 1) := by decide +kernel
theorem dX6_lawns_2 : decode cX6_lawns 2 = .ok (.iconst 4, 1) := by decide +kernel
theorem dX6_lawns_3 : decode cX6_lawns 3 = .ok (.invokestatic 72, 3) := by decide +kernel
theorem dX6_lawns_6 : decode cX6_lawns 6 = .ok (.ifCond .ne 5, 3) := by decide +kernel
theorem dX6_lawns_9 : decode cX6_lawns 9 = .ok (.iconst (-1), 1) := by decide +kernel
theorem dX6_lawns_10 : decode cX6_lawns 10 = .ok (.ireturn, 1) := by decide +kernel
theorem dX6_lawns_11 : decode cX6_lawns 11 = .ok (.aload_n 0, 1) := by decide +kernel
theorem dX6_lawns_12 : decode cX6_lawns 12 = .ok (.invokevirtual 187, 3) := by decide +kernel
theorem dX6_lawns_15 : decode cX6_lawns 15 = .ok (.ifCond .le 6, 3) := by decide +kernel
theorem dX6_lawns_18 : decode cX6_lawns 18 = .ok (.bipush (-2), 2) := by decide +kernel
theorem dX6_lawns_20 : decode cX6_lawns 20 = .ok (.ireturn, 1) := by decide +kernel
theorem dX6_lawns_21 : decode cX6_lawns 21 = .ok (.aload_n 0, 1) := by decide +kernel
theorem dX6_lawns_22 : decode cX6_lawns 22 = .ok (.getfield 68, 3) := by decide +kernel
theorem dX6_lawns_25 : decode cX6_lawns 25 = .ok (.istore_n 2, 1) := by decide +kernel
theorem dX6_lawns_26 : decode cX6_lawns 26 = .ok (.aload_n 0, 1) := by decide +kernel
theorem dX6_lawns_27 : decode cX6_lawns 27 = .ok (.iload_n 1, 1) := by decide +kernel
theorem dX6_lawns_28 : decode cX6_lawns 28 = .ok (.putfield 68, 3) := by decide +kernel
theorem dX6_lawns_31 : decode cX6_lawns 31 = .ok (.iload_n 2, 1) := by decide +kernel
theorem dX6_lawns_32 : decode cX6_lawns 32 = .ok (.ireturn, 1) := by decide +kernel
theorem dX6_isIn_0 : decode cX6_isIn 0 = .ok (.iload_n 1, 1) := by decide +kernel
theorem dX6_isIn_1 : decode cX6_isIn 1 = .ok (.ifCond .lt 27, 3) := by decide +kernel
theorem dX6_isIn_4 : decode cX6_isIn 4 = .ok (.aload_n 0, 1) := by decide +kernel
theorem dX6_isIn_5 : decode cX6_isIn 5 = .ok (.iload_n 2, 1) := by decide +kernel
theorem dX6_isIn_6 : decode cX6_isIn 6 = .ok (.iconst 0, 1) := by decide +kernel
theorem dX6_isIn_7 : decode cX6_isIn 7 = .ok (.invokevirtual 184, 3) := by decide +kernel
theorem dX6_isIn_10 : decode cX6_isIn 10 = .ok (.iload_n 1, 1) := by decide +kernel
theorem dX6_isIn_11 : decode cX6_isIn 11 = .ok (.if_icmp .eq 13, 3) := by decide +kernel
theorem dX6_isIn_14 : decode cX6_isIn 14 = .ok (.aload_n 0, 1) := by decide +kernel
theorem dX6_isIn_15 : decode cX6_isIn 15 = .ok (.iload_n 2, 1) := by decide +kernel
theorem dX6_isIn_16 : decode cX6_isIn 16 = .ok (.iconst 1, 1) := by decide +kernel
theorem dX6_isIn_17 : decode cX6_isIn 17 = .ok (.invokevirtual 184, 3) := by decide +kernel
theorem dX6_isIn_20 : decode cX6_isIn 20 = .ok (.iload_n 1, 1) := by decide +kernel
theorem dX6_isIn_21 : decode cX6_isIn 21 = .ok (.if_icmp .ne 7, 3) := by decide +kernel
theorem dX6_isIn_24 : decode cX6_isIn 24 = .ok (.iconst 1, 1) := by decide +kernel
theorem dX6_isIn_25 : decode cX6_isIn 25 = .ok (.goto 4, 3) := by decide +kernel
theorem dX6_isIn_28 : decode cX6_isIn 28 = .ok (.iconst 0, 1) := by decide +kernel
theorem dX6_isIn_29 : decode cX6_isIn 29 = .ok (.ireturn, 1) := by decide +kernel
theorem dX6_isFree_0 : decode cX6_isFree 0 = .ok (.iconst 0, 1) := by decide +kernel
theorem dX6_isFree_1 : decode cX6_isFree 1 = .ok (.istore_n 3, 1) := by decide +kernel
theorem dX6_isFree_2 : decode cX6_isFree 2 = .ok (.iconst 1, 1) := by decide +kernel
theorem dX6_isFree_3 : decode cX6_isFree 3 = .ok (.istore 4, 2) := by decide +kernel
theorem dX6_isFree_5 : decode cX6_isFree 5 = .ok (.iconst 0, 1) := by decide +kernel
theorem dX6_isFree_6 : decode cX6_isFree 6 = .ok (.istore 5, 2) := by decide +kernel
theorem dX6_isFree_8 : decode cX6_isFree 8 = .ok (.iload 5, 2) := by decide +kernel
theorem dX6_isFree_10 : decode cX6_isFree 10 = .ok (.bipush 15, 2) := by decide +kernel
theorem dX6_isFree_12 : decode cX6_isFree 12 = .ok (.if_icmp .ge 65, 3) := by decide +kernel
theorem dX6_isFree_15 : decode cX6_isFree 15 = .ok (.aload_n 0, 1) := by decide +kernel
theorem dX6_isFree_16 : decode cX6_isFree 16 = .ok (.getfield 65, 3) := by decide +kernel
theorem dX6_isFree_19 : decode cX6_isFree 19 = .ok (.iload 5, 2) := by decide +kernel
theorem dX6_isFree_21 : decode cX6_isFree 21 = .ok (.iaload, 1) := by decide +kernel
theorem dX6_isFree_22 : decode cX6_isFree 22 = .ok (.iload_n 2, 1) := by decide +kernel
theorem dX6_isFree_23 : decode cX6_isFree 23 = .ok (.if_icmp .ne 48, 3) := by decide +kernel
theorem dX6_isFree_26 : decode cX6_isFree 26 = .ok (.iinc 3 1, 3) := by decide +kernel
theorem dX6_isFree_29 : decode cX6_isFree 29 = .ok (.iload 4, 2) := by decide +kernel
theorem dX6_isFree_31 : decode cX6_isFree 31 = .ok (.ifCond .eq 37, 3) := by decide +kernel
theorem dX6_isFree_34 : decode cX6_isFree 34 = .ok (.aload_n 0, 1) := by decide +kernel
theorem dX6_isFree_35 : decode cX6_isFree 35 = .ok (.aload_n 0, 1) := by decide +kernel
theorem dX6_isFree_36 : decode cX6_isFree 36 = .ok (.iload_n 1, 1) := by decide +kernel
theorem dX6_isFree_37 : decode cX6_isFree 37 = .ok (.iconst 0, 1) := by decide +kernel
theorem dX6_isFree_38 : decode cX6_isFree 38 = .ok (.invokevirtual 184, 3) := by decide +kernel
theorem dX6_isFree_41 : decode cX6_isFree 41 = .ok (.iload 5, 2) := by decide +kernel
theorem dX6_isFree_43 : decode cX6_isFree 43 = .ok (.invokevirtual 190, 3) := by decide +kernel
theorem dX6_isFree_46 : decode cX6_isFree 46 = .ok (.ifCond .ne 22, 3) := by decide +kernel
theorem dX6_isFree_49 : decode cX6_isFree 49 = .ok (.aload_n 0, 1) := by decide +kernel
theorem dX6_isFree_50 : decode cX6_isFree 50 = .ok (.aload_n 0, 1) := by decide +kernel
theorem dX6_isFree_51 : decode cX6_isFree 51 = .ok (.iload_n 1, 1) := by decide +kernel
theorem dX6_isFree_52 : decode cX6_isFree 52 = .ok (.iconst 1, 1) := by decide +kernel
theorem dX6_isFree_53 : decode cX6_isFree 53 = .ok (.invokevirtual 184, 3) := by decide +kernel
theorem dX6_isFree_56 : decode cX6_isFree 56 = .ok (.iload 5, 2) := by decide +kernel
theorem dX6_isFree_58 : decode cX6_isFree 58 = .ok (.invokevirtual 190, 3) := by decide +kernel
theorem dX6_isFree_61 : decode cX6_isFree 61 = .ok (.ifCond .ne 7, 3) := by decide +kernel
theorem dX6_isFree_64 : decode cX6_isFree 64 = .ok (.iconst 1, 1) := by decide +kernel
theorem dX6_isFree_65 : decode cX6_isFree 65 = .ok (.goto 4, 3) := by decide +kernel
theorem dX6_isFree_68 : decode cX6_isFree 68 = .ok (.iconst 0, 1) := by decide +kernel
theorem dX6_isFree_69 : decode cX6_isFree 69 = .ok (.istore 4, 2) := by decide +kernel
theorem dX6_isFree_71 : decode cX6_isFree 71 = .ok (.iinc 5 1, 3) := by decide +kernel
theorem dX6_isFree_74 : decode cX6_isFree 74 = .ok (.goto (-66), 3) := by decide +kernel
theorem dX6_isFree_77 : decode cX6_isFree 77 = .ok (.iload 4, 2) := by decide +kernel
theorem dX6_isFree_79 : decode cX6_isFree 79 = .ok (.ifCond .eq 15, 3) := by decide +kernel
theorem dX6_isFree_82 : decode cX6_isFree 82 = .ok (.iload_n 3, 1) := by decide +kernel
theorem dX6_isFree_83 : decode cX6_isFree 83 = .ok (.aload_n 0, 1) := by decide +kernel
theorem dX6_isFree_84 : decode cX6_isFree 84 = .ok (.getfield 68, 3) := by decide +kernel
theorem dX6_isFree_87 : decode cX6_isFree 87 = .ok (.if_icmp .ge 7, 3) := by decide +kernel
theorem dX6_isFree_90 : decode cX6_isFree 90 = .ok (.iconst 1, 1) := by decide +kernel
theorem dX6_isFree_91 : decode cX6_isFree 91 = .ok (.goto 4, 3) := by decide +kernel
theorem dX6_isFree_94 : decode cX6_isFree 94 = .ok (.iconst 0, 1) := by decide +kernel
theorem dX6_isFree_95 : decode cX6_isFree 95 = .ok (.ireturn, 1) := by decide +kernel
theorem dX6_lay_0 : decode cX6_lay 0 = .ok (.iload_n 1, 1) := by decide +kernel
theorem dX6_lay_1 : decode cX6_lay 1 = .ok (.invokestatic 181, 3) := by decide +kernel
theorem dX6_lay_4 : decode cX6_lay 4 = .ok (.ifCond .ne 5, 3) := by decide +kernel
theorem dX6_lay_7 : decode cX6_lay 7 = .ok (.iconst (-1), 1) := by decide +kernel
theorem dX6_lay_8 : decode cX6_lay 8 = .ok (.ireturn, 1) := by decide +kernel
theorem dX6_lay_9 : decode cX6_lay 9 = .ok (.iconst 0, 1) := by decide +kernel
theorem dX6_lay_10 : decode cX6_lay 10 = .ok (.istore_n 2, 1) := by decide +kernel
theorem dX6_lay_11 : decode cX6_lay 11 = .ok (.iload_n 1, 1) := by decide +kernel
theorem dX6_lay_12 : decode cX6_lay 12 = .ok (.invokestatic 174, 3) := by decide +kernel
theorem dX6_lay_15 : decode cX6_lay 15 = .ok (.ifCond .ne 55, 3) := by decide +kernel
theorem dX6_lay_18 : decode cX6_lay 18 = .ok (.aload_n 0, 1) := by decide +kernel
theorem dX6_lay_19 : decode cX6_lay 19 = .ok (.getfield 65, 3) := by decide +kernel
theorem dX6_lay_22 : decode cX6_lay 22 = .ok (.iload_n 1, 1) := by decide +kernel
theorem dX6_lay_23 : decode cX6_lay 23 = .ok (.iconst 0, 1) := by decide +kernel
theorem dX6_lay_24 : decode cX6_lay 24 = .ok (.invokestatic 177, 3) := by decide +kernel
theorem dX6_lay_27 : decode cX6_lay 27 = .ok (.iaload, 1) := by decide +kernel
theorem dX6_lay_28 : decode cX6_lay 28 = .ok (.istore_n 3, 1) := by decide +kernel
theorem dX6_lay_29 : decode cX6_lay 29 = .ok (.aload_n 0, 1) := by decide +kernel
theorem dX6_lay_30 : decode cX6_lay 30 = .ok (.getfield 65, 3) := by decide +kernel
theorem dX6_lay_33 : decode cX6_lay 33 = .ok (.iload_n 1, 1) := by decide +kernel
theorem dX6_lay_34 : decode cX6_lay 34 = .ok (.iconst 1, 1) := by decide +kernel
theorem dX6_lay_35 : decode cX6_lay 35 = .ok (.invokestatic 177, 3) := by decide +kernel
theorem dX6_lay_38 : decode cX6_lay 38 = .ok (.iaload, 1) := by decide +kernel
theorem dX6_lay_39 : decode cX6_lay 39 = .ok (.istore 4, 2) := by decide +kernel
theorem dX6_lay_41 : decode cX6_lay 41 = .ok (.iload_n 3, 1) := by decide +kernel
theorem dX6_lay_42 : decode cX6_lay 42 = .ok (.ifCond .lt 8, 3) := by decide +kernel
theorem dX6_lay_45 : decode cX6_lay 45 = .ok (.iload 4, 2) := by decide +kernel
theorem dX6_lay_47 : decode cX6_lay 47 = .ok (.ifCond .ge 6, 3) := by decide +kernel
theorem dX6_lay_50 : decode cX6_lay 50 = .ok (.bipush (-2), 2) := by decide +kernel
theorem dX6_lay_52 : decode cX6_lay 52 = .ok (.ireturn, 1) := by decide +kernel
theorem dX6_lay_53 : decode cX6_lay 53 = .ok (.iload_n 3, 1) := by decide +kernel
theorem dX6_lay_54 : decode cX6_lay 54 = .ok (.iload 4, 2) := by decide +kernel
theorem dX6_lay_56 : decode cX6_lay 56 = .ok (.if_icmp .le 9, 3) := by decide +kernel
theorem dX6_lay_59 : decode cX6_lay 59 = .ok (.iload_n 3, 1) := by decide +kernel
theorem dX6_lay_60 : decode cX6_lay 60 = .ok (.iconst 1, 1) := by decide +kernel
theorem dX6_lay_61 : decode cX6_lay 61 = .ok (.iadd, 1) := by decide +kernel
theorem dX6_lay_62 : decode cX6_lay 62 = .ok (.goto 7, 3) := by decide +kernel
theorem dX6_lay_65 : decode cX6_lay 65 = .ok (.iload 4, 2) := by decide +kernel
theorem dX6_lay_67 : decode cX6_lay 67 = .ok (.iconst 1, 1) := by decide +kernel
theorem dX6_lay_68 : decode cX6_lay 68 = .ok (.iadd, 1) := by decide +kernel
theorem dX6_lay_69 : decode cX6_lay 69 = .ok (.istore_n 2, 1) := by decide +kernel
theorem dX6_lay_70 : decode cX6_lay 70 = .ok (.aload_n 0, 1) := by decide +kernel
theorem dX6_lay_71 : decode cX6_lay 71 = .ok (.getfield 65, 3) := by decide +kernel
theorem dX6_lay_74 : decode cX6_lay 74 = .ok (.iload_n 1, 1) := by decide +kernel
theorem dX6_lay_75 : decode cX6_lay 75 = .ok (.iaload, 1) := by decide +kernel
theorem dX6_lay_76 : decode cX6_lay 76 = .ok (.ifCond .lt 6, 3) := by decide +kernel
theorem dX6_lay_79 : decode cX6_lay 79 = .ok (.bipush (-2), 2) := by decide +kernel
theorem dX6_lay_81 : decode cX6_lay 81 = .ok (.ireturn, 1) := by decide +kernel
theorem dX6_lay_82 : decode cX6_lay 82 = .ok (.aload_n 0, 1) := by decide +kernel
theorem dX6_lay_83 : decode cX6_lay 83 = .ok (.iload_n 1, 1) := by decide +kernel
theorem dX6_lay_84 : decode cX6_lay 84 = .ok (.iload_n 2, 1) := by decide +kernel
theorem dX6_lay_85 : decode cX6_lay 85 = .ok (.invokevirtual 193, 3) := by decide +kernel
theorem dX6_lay_88 : decode cX6_lay 88 = .ok (.ifCond .ne 9, 3) := by decide +kernel
theorem dX6_lay_91 : decode cX6_lay 91 = .ok (.iinc 2 1, 3) := by decide +kernel
theorem dX6_lay_94 : decode cX6_lay 94 = .ok (.goto (-12), 3) := by decide +kernel
theorem dX6_lay_97 : decode cX6_lay 97 = .ok (.aload_n 0, 1) := by decide +kernel
theorem dX6_lay_98 : decode cX6_lay 98 = .ok (.getfield 65, 3) := by decide +kernel
theorem dX6_lay_101 : decode cX6_lay 101 = .ok (.iload_n 1, 1) := by decide +kernel
theorem dX6_lay_102 : decode cX6_lay 102 = .ok (.iload_n 2, 1) := by decide +kernel
theorem dX6_lay_103 : decode cX6_lay 103 = .ok (.iastore, 1) := by decide +kernel
theorem dX6_lay_104 : decode cX6_lay 104 = .ok (.iload_n 2, 1) := by decide +kernel
theorem dX6_lay_105 : decode cX6_lay 105 = .ok (.ireturn, 1) := by decide +kernel
theorem dX6_hour_0 : decode cX6_hour 0 = .ok (.iload_n 1, 1) := by decide +kernel
theorem dX6_hour_1 : decode cX6_hour 1 = .ok (.invokestatic 181, 3) := by decide +kernel
theorem dX6_hour_4 : decode cX6_hour 4 = .ok (.ifCond .ne 7, 3) := by decide +kernel
theorem dX6_hour_7 : decode cX6_hour 7 = .ok (.iconst (-1), 1) := by decide +kernel
theorem dX6_hour_8 : decode cX6_hour 8 = .ok (.goto 23, 3) := by decide +kernel
theorem dX6_hour_11 : decode cX6_hour 11 = .ok (.aload_n 0, 1) := by decide +kernel
theorem dX6_hour_12 : decode cX6_hour 12 = .ok (.getfield 65, 3) := by decide +kernel
theorem dX6_hour_15 : decode cX6_hour 15 = .ok (.iload_n 1, 1) := by decide +kernel
theorem dX6_hour_16 : decode cX6_hour 16 = .ok (.iaload, 1) := by decide +kernel
theorem dX6_hour_17 : decode cX6_hour 17 = .ok (.ifCond .ge 8, 3) := by decide +kernel
theorem dX6_hour_20 : decode cX6_hour 20 = .ok (.bipush (-4), 2) := by decide +kernel
theorem dX6_hour_22 : decode cX6_hour 22 = .ok (.goto 9, 3) := by decide +kernel
theorem dX6_hour_25 : decode cX6_hour 25 = .ok (.aload_n 0, 1) := by decide +kernel
theorem dX6_hour_26 : decode cX6_hour 26 = .ok (.getfield 65, 3) := by decide +kernel
theorem dX6_hour_29 : decode cX6_hour 29 = .ok (.iload_n 1, 1) := by decide +kernel
theorem dX6_hour_30 : decode cX6_hour 30 = .ok (.iaload, 1) := by decide +kernel
theorem dX6_hour_31 : decode cX6_hour 31 = .ok (.ireturn, 1) := by decide +kernel
theorem dX6_clear_0 : decode cX6_clear 0 = .ok (.aload_n 0, 1) := by decide +kernel
theorem dX6_clear_1 : decode cX6_clear 1 = .ok (.invokevirtual 187, 3) := by decide +kernel
theorem dX6_clear_4 : decode cX6_clear 4 = .ok (.istore_n 1, 1) := by decide +kernel
theorem dX6_clear_5 : decode cX6_clear 5 = .ok (.iconst 0, 1) := by decide +kernel
theorem dX6_clear_6 : decode cX6_clear 6 = .ok (.istore_n 2, 1) := by decide +kernel
theorem dX6_clear_7 : decode cX6_clear 7 = .ok (.iload_n 2, 1) := by decide +kernel
theorem dX6_clear_8 : decode cX6_clear 8 = .ok (.bipush 15, 2) := by decide +kernel
theorem dX6_clear_10 : decode cX6_clear 10 = .ok (.if_icmp .ge 16, 3) := by decide +kernel
theorem dX6_clear_13 : decode cX6_clear 13 = .ok (.aload_n 0, 1) := by decide +kernel
theorem dX6_clear_14 : decode cX6_clear 14 = .ok (.getfield 65, 3) := by decide +kernel
theorem dX6_clear_17 : decode cX6_clear 17 = .ok (.iload_n 2, 1) := by decide +kernel
theorem dX6_clear_18 : decode cX6_clear 18 = .ok (.iconst (-1), 1) := by decide +kernel
theorem dX6_clear_19 : decode cX6_clear 19 = .ok (.iastore, 1) := by decide +kernel
theorem dX6_clear_20 : decode cX6_clear 20 = .ok (.iinc 2 1, 3) := by decide +kernel
theorem dX6_clear_23 : decode cX6_clear 23 = .ok (.goto (-16), 3) := by decide +kernel
theorem dX6_clear_26 : decode cX6_clear 26 = .ok (.iload_n 1, 1) := by decide +kernel
theorem dX6_clear_27 : decode cX6_clear 27 = .ok (.ireturn, 1) := by decide +kernel
theorem dJ9_abs_0f7a4_0 : decode cJ9_abs_0f7a4 0 = .ok (.iload_n 0, 1) := by decide +kernel
theorem dJ9_abs_0f7a4_1 : decode cJ9_abs_0f7a4 1 = .ok (.ifCond .ge 8, 3) := by decide +kernel
theorem dJ9_abs_0f7a4_4 : decode cJ9_abs_0f7a4 4 = .ok (.iload_n 0, 1) := by decide +kernel
theorem dJ9_abs_0f7a4_5 : decode cJ9_abs_0f7a4 5 = .ok (.ineg, 1) := by decide +kernel
theorem dJ9_abs_0f7a4_6 : decode cJ9_abs_0f7a4 6 = .ok (.goto 4, 3) := by decide +kernel
theorem dJ9_abs_0f7a4_9 : decode cJ9_abs_0f7a4 9 = .ok (.iload_n 0, 1) := by decide +kernel
theorem dJ9_abs_0f7a4_10 : decode cJ9_abs_0f7a4 10 = .ok (.ireturn, 1) := by decide +kernel
theorem dJ9_max_7cf53_0 : decode cJ9_max_7cf53 0 = .ok (.iload_n 0, 1) := by decide +kernel
theorem dJ9_max_7cf53_1 : decode cJ9_max_7cf53 1 = .ok (.iload_n 1, 1) := by decide +kernel
theorem dJ9_max_7cf53_2 : decode cJ9_max_7cf53 2 = .ok (.if_icmp .lt 7, 3) := by decide +kernel
theorem dJ9_max_7cf53_5 : decode cJ9_max_7cf53 5 = .ok (.iload_n 0, 1) := by decide +kernel
theorem dJ9_max_7cf53_6 : decode cJ9_max_7cf53 6 = .ok (.goto 4, 3) := by decide +kernel
theorem dJ9_max_7cf53_9 : decode cJ9_max_7cf53 9 = .ok (.iload_n 1, 1) := by decide +kernel
theorem dJ9_max_7cf53_10 : decode cJ9_max_7cf53 10 = .ok (.ireturn, 1) := by decide +kernel
theorem dJ9_min_7cf53_0 : decode cJ9_min_7cf53 0 = .ok (.iload_n 0, 1) := by decide +kernel
theorem dJ9_min_7cf53_1 : decode cJ9_min_7cf53 1 = .ok (.iload_n 1, 1) := by decide +kernel
theorem dJ9_min_7cf53_2 : decode cJ9_min_7cf53 2 = .ok (.if_icmp .gt 7, 3) := by decide +kernel
theorem dJ9_min_7cf53_5 : decode cJ9_min_7cf53 5 = .ok (.iload_n 0, 1) := by decide +kernel
theorem dJ9_min_7cf53_6 : decode cJ9_min_7cf53 6 = .ok (.goto 4, 3) := by decide +kernel
theorem dJ9_min_7cf53_9 : decode cJ9_min_7cf53 9 = .ok (.iload_n 1, 1) := by decide +kernel
theorem dJ9_min_7cf53_10 : decode cJ9_min_7cf53 10 = .ok (.ireturn, 1) := by decide +kernel
theorem dJ7_fill_53178_0 : decode cJ7_fill_53178 0 = .ok (.iconst 0, 1) := by decide +kernel
theorem dJ7_fill_53178_1 : decode cJ7_fill_53178 1 = .ok (.istore_n 2, 1) := by decide +kernel
theorem dJ7_fill_53178_2 : decode cJ7_fill_53178 2 = .ok (.aload_n 0, 1) := by decide +kernel
theorem dJ7_fill_53178_3 : decode cJ7_fill_53178 3 = .ok (.arraylength, 1) := by decide +kernel
theorem dJ7_fill_53178_4 : decode cJ7_fill_53178 4 = .ok (.istore_n 3, 1) := by decide +kernel
theorem dJ7_fill_53178_5 : decode cJ7_fill_53178 5 = .ok (.iload_n 2, 1) := by decide +kernel
theorem dJ7_fill_53178_6 : decode cJ7_fill_53178 6 = .ok (.iload_n 3, 1) := by decide +kernel
theorem dJ7_fill_53178_7 : decode cJ7_fill_53178 7 = .ok (.if_icmp .ge 13, 3) := by decide +kernel
theorem dJ7_fill_53178_10 : decode cJ7_fill_53178 10 = .ok (.aload_n 0, 1) := by decide +kernel
theorem dJ7_fill_53178_11 : decode cJ7_fill_53178 11 = .ok (.iload_n 2, 1) := by decide +kernel
theorem dJ7_fill_53178_12 : decode cJ7_fill_53178 12 = .ok (.iload_n 1, 1) := by decide +kernel
theorem dJ7_fill_53178_13 : decode cJ7_fill_53178 13 = .ok (.iastore, 1) := by decide +kernel
theorem dJ7_fill_53178_14 : decode cJ7_fill_53178 14 = .ok (.iinc 2 1, 3) := by decide +kernel
theorem dJ7_fill_53178_17 : decode cJ7_fill_53178 17 = .ok (.goto (-12), 3) := by decide +kernel
theorem dJ7_fill_53178_20 : decode cJ7_fill_53178 20 = .ok (.return_, 1) := by decide +kernel
theorem dL_law_0 : decode cL_law 0 = .ok (.new 7, 3) := by decide +kernel
theorem dL_law_3 : decode cL_law 3 = .ok (.dup, 1) := by decide +kernel
theorem dL_law_4 : decode cL_law 4 = .ok (.invokespecial 9, 3) := by decide +kernel
theorem dL_law_7 : decode cL_law 7 = .ok (.astore_n 1, 1) := by decide +kernel
theorem dL_law_8 : decode cL_law 8 = .ok (.new 10, 3) := by decide +kernel
theorem dL_law_11 : decode cL_law 11 = .ok (.dup, 1) := by decide +kernel
theorem dL_law_12 : decode cL_law 12 = .ok (.invokespecial 12, 3) := by decide +kernel
theorem dL_law_15 : decode cL_law 15 = .ok (.astore_n 2, 1) := by decide +kernel
theorem dL_law_16 : decode cL_law 16 = .ok (.iconst 0, 1) := by decide +kernel
theorem dL_law_17 : decode cL_law 17 = .ok (.istore_n 3, 1) := by decide +kernel
theorem dL_law_18 : decode cL_law 18 = .ok (.iload_n 3, 1) := by decide +kernel
theorem dL_law_19 : decode cL_law 19 = .ok (.aload_n 0, 1) := by decide +kernel
theorem dL_law_20 : decode cL_law 20 = .ok (.arraylength, 1) := by decide +kernel
theorem dL_law_21 : decode cL_law 21 = .ok (.iconst 4, 1) := by decide +kernel
theorem dL_law_22 : decode cL_law 22 = .ok (.isub, 1) := by decide +kernel
theorem dL_law_23 : decode cL_law 23 = .ok (.if_icmp .gt 641, 3) := by decide +kernel
theorem dL_law_26 : decode cL_law 26 = .ok (.aload_n 0, 1) := by decide +kernel
theorem dL_law_27 : decode cL_law 27 = .ok (.iload_n 3, 1) := by decide +kernel
theorem dL_law_28 : decode cL_law 28 = .ok (.iaload, 1) := by decide +kernel
theorem dL_law_29 : decode cL_law 29 = .ok (.bipush 31, 2) := by decide +kernel
theorem dL_law_31 : decode cL_law 31 = .ok (.iand, 1) := by decide +kernel
theorem dL_law_32 : decode cL_law 32 = .ok (.tableswitch 626 0 19 #[96, 129, 162, 195, 218, 251, 274, 337, 350, 373, 406, 429, 442, 475, 508, 531, 544, 567, 590, 613], 96) := by decide +kernel
theorem dL_law_128 : decode cL_law 128 = .ok (.aload_n 1, 1) := by decide +kernel
theorem dL_law_129 : decode cL_law 129 = .ok (.aload_n 0, 1) := by decide +kernel
theorem dL_law_130 : decode cL_law 130 = .ok (.iload_n 3, 1) := by decide +kernel
theorem dL_law_131 : decode cL_law 131 = .ok (.iconst 1, 1) := by decide +kernel
theorem dL_law_132 : decode cL_law 132 = .ok (.iadd, 1) := by decide +kernel
theorem dL_law_133 : decode cL_law 133 = .ok (.iaload, 1) := by decide +kernel
theorem dL_law_134 : decode cL_law 134 = .ok (.aload_n 0, 1) := by decide +kernel
theorem dL_law_135 : decode cL_law 135 = .ok (.iload_n 3, 1) := by decide +kernel
theorem dL_law_136 : decode cL_law 136 = .ok (.iconst 2, 1) := by decide +kernel
theorem dL_law_137 : decode cL_law 137 = .ok (.iadd, 1) := by decide +kernel
theorem dL_law_138 : decode cL_law 138 = .ok (.iaload, 1) := by decide +kernel
theorem dL_law_139 : decode cL_law 139 = .ok (.invokevirtual 13, 3) := by decide +kernel
theorem dL_law_142 : decode cL_law 142 = .ok (.aload_n 2, 1) := by decide +kernel
theorem dL_law_143 : decode cL_law 143 = .ok (.aload_n 0, 1) := by decide +kernel
theorem dL_law_144 : decode cL_law 144 = .ok (.iload_n 3, 1) := by decide +kernel
theorem dL_law_145 : decode cL_law 145 = .ok (.iconst 1, 1) := by decide +kernel
theorem dL_law_146 : decode cL_law 146 = .ok (.iadd, 1) := by decide +kernel
theorem dL_law_147 : decode cL_law 147 = .ok (.iaload, 1) := by decide +kernel
theorem dL_law_148 : decode cL_law 148 = .ok (.aload_n 0, 1) := by decide +kernel
theorem dL_law_149 : decode cL_law 149 = .ok (.iload_n 3, 1) := by decide +kernel
theorem dL_law_150 : decode cL_law 150 = .ok (.iconst 2, 1) := by decide +kernel
theorem dL_law_151 : decode cL_law 151 = .ok (.iadd, 1) := by decide +kernel
theorem dL_law_152 : decode cL_law 152 = .ok (.iaload, 1) := by decide +kernel
theorem dL_law_153 : decode cL_law 153 = .ok (.invokevirtual 17, 3) := by decide +kernel
theorem dL_law_156 : decode cL_law 156 = .ok (.if_icmp .eq 502, 3) := by decide +kernel
theorem dL_law_159 : decode cL_law 159 = .ok (.iconst 0, 1) := by decide +kernel
theorem dL_law_160 : decode cL_law 160 = .ok (.ireturn, 1) := by decide +kernel
theorem dL_law_161 : decode cL_law 161 = .ok (.aload_n 1, 1) := by decide +kernel
theorem dL_law_162 : decode cL_law 162 = .ok (.aload_n 0, 1) := by decide +kernel
theorem dL_law_163 : decode cL_law 163 = .ok (.iload_n 3, 1) := by decide +kernel
theorem dL_law_164 : decode cL_law 164 = .ok (.iconst 1, 1) := by decide +kernel
theorem dL_law_165 : decode cL_law 165 = .ok (.iadd, 1) := by decide +kernel
theorem dL_law_166 : decode cL_law 166 = .ok (.iaload, 1) := by decide +kernel
theorem dL_law_167 : decode cL_law 167 = .ok (.aload_n 0, 1) := by decide +kernel
theorem dL_law_168 : decode cL_law 168 = .ok (.iload_n 3, 1) := by decide +kernel
theorem dL_law_169 : decode cL_law 169 = .ok (.iconst 2, 1) := by decide +kernel
theorem dL_law_170 : decode cL_law 170 = .ok (.iadd, 1) := by decide +kernel
theorem dL_law_171 : decode cL_law 171 = .ok (.iaload, 1) := by decide +kernel
theorem dL_law_172 : decode cL_law 172 = .ok (.invokevirtual 18, 3) := by decide +kernel
theorem dL_law_175 : decode cL_law 175 = .ok (.aload_n 2, 1) := by decide +kernel
theorem dL_law_176 : decode cL_law 176 = .ok (.aload_n 0, 1) := by decide +kernel
theorem dL_law_177 : decode cL_law 177 = .ok (.iload_n 3, 1) := by decide +kernel
theorem dL_law_178 : decode cL_law 178 = .ok (.iconst 1, 1) := by decide +kernel
theorem dL_law_179 : decode cL_law 179 = .ok (.iadd, 1) := by decide +kernel
theorem dL_law_180 : decode cL_law 180 = .ok (.iaload, 1) := by decide +kernel
theorem dL_law_181 : decode cL_law 181 = .ok (.aload_n 0, 1) := by decide +kernel
theorem dL_law_182 : decode cL_law 182 = .ok (.iload_n 3, 1) := by decide +kernel
theorem dL_law_183 : decode cL_law 183 = .ok (.iconst 2, 1) := by decide +kernel
theorem dL_law_184 : decode cL_law 184 = .ok (.iadd, 1) := by decide +kernel
theorem dL_law_185 : decode cL_law 185 = .ok (.iaload, 1) := by decide +kernel
theorem dL_law_186 : decode cL_law 186 = .ok (.invokevirtual 21, 3) := by decide +kernel
theorem dL_law_189 : decode cL_law 189 = .ok (.if_icmp .eq 469, 3) := by decide +kernel
theorem dL_law_192 : decode cL_law 192 = .ok (.iconst 0, 1) := by decide +kernel
theorem dL_law_193 : decode cL_law 193 = .ok (.ireturn, 1) := by decide +kernel
theorem dL_law_194 : decode cL_law 194 = .ok (.aload_n 1, 1) := by decide +kernel
theorem dL_law_195 : decode cL_law 195 = .ok (.aload_n 0, 1) := by decide +kernel
theorem dL_law_196 : decode cL_law 196 = .ok (.iload_n 3, 1) := by decide +kernel
theorem dL_law_197 : decode cL_law 197 = .ok (.iconst 1, 1) := by decide +kernel
theorem dL_law_198 : decode cL_law 198 = .ok (.iadd, 1) := by decide +kernel
theorem dL_law_199 : decode cL_law 199 = .ok (.iaload, 1) := by decide +kernel
theorem dL_law_200 : decode cL_law 200 = .ok (.aload_n 0, 1) := by decide +kernel
theorem dL_law_201 : decode cL_law 201 = .ok (.iload_n 3, 1) := by decide +kernel
theorem dL_law_202 : decode cL_law 202 = .ok (.iconst 2, 1) := by decide +kernel
theorem dL_law_203 : decode cL_law 203 = .ok (.iadd, 1) := by decide +kernel
theorem dL_law_204 : decode cL_law 204 = .ok (.iaload, 1) := by decide +kernel
theorem dL_law_205 : decode cL_law 205 = .ok (.invokevirtual 22, 3) := by decide +kernel
theorem dL_law_208 : decode cL_law 208 = .ok (.aload_n 2, 1) := by decide +kernel
theorem dL_law_209 : decode cL_law 209 = .ok (.aload_n 0, 1) := by decide +kernel
theorem dL_law_210 : decode cL_law 210 = .ok (.iload_n 3, 1) := by decide +kernel
theorem dL_law_211 : decode cL_law 211 = .ok (.iconst 1, 1) := by decide +kernel
theorem dL_law_212 : decode cL_law 212 = .ok (.iadd, 1) := by decide +kernel
theorem dL_law_213 : decode cL_law 213 = .ok (.iaload, 1) := by decide +kernel
theorem dL_law_214 : decode cL_law 214 = .ok (.aload_n 0, 1) := by decide +kernel
theorem dL_law_215 : decode cL_law 215 = .ok (.iload_n 3, 1) := by decide +kernel
theorem dL_law_216 : decode cL_law 216 = .ok (.iconst 2, 1) := by decide +kernel
theorem dL_law_217 : decode cL_law 217 = .ok (.iadd, 1) := by decide +kernel
theorem dL_law_218 : decode cL_law 218 = .ok (.iaload, 1) := by decide +kernel
theorem dL_law_219 : decode cL_law 219 = .ok (.invokevirtual 25, 3) := by decide +kernel
theorem dL_law_222 : decode cL_law 222 = .ok (.if_icmp .eq 436, 3) := by decide +kernel
theorem dL_law_225 : decode cL_law 225 = .ok (.iconst 0, 1) := by decide +kernel
theorem dL_law_226 : decode cL_law 226 = .ok (.ireturn, 1) := by decide +kernel
theorem dL_law_227 : decode cL_law 227 = .ok (.aload_n 1, 1) := by decide +kernel
theorem dL_law_228 : decode cL_law 228 = .ok (.aload_n 0, 1) := by decide +kernel
theorem dL_law_229 : decode cL_law 229 = .ok (.iload_n 3, 1) := by decide +kernel
theorem dL_law_230 : decode cL_law 230 = .ok (.iconst 1, 1) := by decide +kernel
theorem dL_law_231 : decode cL_law 231 = .ok (.iadd, 1) := by decide +kernel
theorem dL_law_232 : decode cL_law 232 = .ok (.iaload, 1) := by decide +kernel
theorem dL_law_233 : decode cL_law 233 = .ok (.invokevirtual 26, 3) := by decide +kernel
theorem dL_law_236 : decode cL_law 236 = .ok (.aload_n 2, 1) := by decide +kernel
theorem dL_law_237 : decode cL_law 237 = .ok (.aload_n 0, 1) := by decide +kernel
theorem dL_law_238 : decode cL_law 238 = .ok (.iload_n 3, 1) := by decide +kernel
theorem dL_law_239 : decode cL_law 239 = .ok (.iconst 1, 1) := by decide +kernel
theorem dL_law_240 : decode cL_law 240 = .ok (.iadd, 1) := by decide +kernel
theorem dL_law_241 : decode cL_law 241 = .ok (.iaload, 1) := by decide +kernel
theorem dL_law_242 : decode cL_law 242 = .ok (.invokevirtual 30, 3) := by decide +kernel
theorem dL_law_245 : decode cL_law 245 = .ok (.if_icmp .eq 413, 3) := by decide +kernel
theorem dL_law_248 : decode cL_law 248 = .ok (.iconst 0, 1) := by decide +kernel
theorem dL_law_249 : decode cL_law 249 = .ok (.ireturn, 1) := by decide +kernel
theorem dL_law_250 : decode cL_law 250 = .ok (.aload_n 1, 1) := by decide +kernel
theorem dL_law_251 : decode cL_law 251 = .ok (.aload_n 0, 1) := by decide +kernel
theorem dL_law_252 : decode cL_law 252 = .ok (.iload_n 3, 1) := by decide +kernel
theorem dL_law_253 : decode cL_law 253 = .ok (.iconst 1, 1) := by decide +kernel
theorem dL_law_254 : decode cL_law 254 = .ok (.iadd, 1) := by decide +kernel
theorem dL_law_255 : decode cL_law 255 = .ok (.iaload, 1) := by decide +kernel
theorem dL_law_256 : decode cL_law 256 = .ok (.aload_n 0, 1) := by decide +kernel
theorem dL_law_257 : decode cL_law 257 = .ok (.iload_n 3, 1) := by decide +kernel
theorem dL_law_258 : decode cL_law 258 = .ok (.iconst 2, 1) := by decide +kernel
theorem dL_law_259 : decode cL_law 259 = .ok (.iadd, 1) := by decide +kernel
theorem dL_law_260 : decode cL_law 260 = .ok (.iaload, 1) := by decide +kernel
theorem dL_law_261 : decode cL_law 261 = .ok (.invokevirtual 31, 3) := by decide +kernel
theorem dL_law_264 : decode cL_law 264 = .ok (.aload_n 2, 1) := by decide +kernel
theorem dL_law_265 : decode cL_law 265 = .ok (.aload_n 0, 1) := by decide +kernel
theorem dL_law_266 : decode cL_law 266 = .ok (.iload_n 3, 1) := by decide +kernel
theorem dL_law_267 : decode cL_law 267 = .ok (.iconst 1, 1) := by decide +kernel
theorem dL_law_268 : decode cL_law 268 = .ok (.iadd, 1) := by decide +kernel
theorem dL_law_269 : decode cL_law 269 = .ok (.iaload, 1) := by decide +kernel
theorem dL_law_270 : decode cL_law 270 = .ok (.aload_n 0, 1) := by decide +kernel
theorem dL_law_271 : decode cL_law 271 = .ok (.iload_n 3, 1) := by decide +kernel
theorem dL_law_272 : decode cL_law 272 = .ok (.iconst 2, 1) := by decide +kernel
theorem dL_law_273 : decode cL_law 273 = .ok (.iadd, 1) := by decide +kernel
theorem dL_law_274 : decode cL_law 274 = .ok (.iaload, 1) := by decide +kernel
theorem dL_law_275 : decode cL_law 275 = .ok (.invokevirtual 34, 3) := by decide +kernel
theorem dL_law_278 : decode cL_law 278 = .ok (.if_icmp .eq 380, 3) := by decide +kernel
theorem dL_law_281 : decode cL_law 281 = .ok (.iconst 0, 1) := by decide +kernel
theorem dL_law_282 : decode cL_law 282 = .ok (.ireturn, 1) := by decide +kernel
theorem dL_law_283 : decode cL_law 283 = .ok (.aload_n 1, 1) := by decide +kernel
theorem dL_law_284 : decode cL_law 284 = .ok (.aload_n 0, 1) := by decide +kernel
theorem dL_law_285 : decode cL_law 285 = .ok (.iload_n 3, 1) := by decide +kernel
theorem dL_law_286 : decode cL_law 286 = .ok (.iconst 1, 1) := by decide +kernel
theorem dL_law_287 : decode cL_law 287 = .ok (.iadd, 1) := by decide +kernel
theorem dL_law_288 : decode cL_law 288 = .ok (.iaload, 1) := by decide +kernel
theorem dL_law_289 : decode cL_law 289 = .ok (.invokevirtual 35, 3) := by decide +kernel
theorem dL_law_292 : decode cL_law 292 = .ok (.aload_n 2, 1) := by decide +kernel
theorem dL_law_293 : decode cL_law 293 = .ok (.aload_n 0, 1) := by decide +kernel
theorem dL_law_294 : decode cL_law 294 = .ok (.iload_n 3, 1) := by decide +kernel
theorem dL_law_295 : decode cL_law 295 = .ok (.iconst 1, 1) := by decide +kernel
theorem dL_law_296 : decode cL_law 296 = .ok (.iadd, 1) := by decide +kernel
theorem dL_law_297 : decode cL_law 297 = .ok (.iaload, 1) := by decide +kernel
theorem dL_law_298 : decode cL_law 298 = .ok (.invokevirtual 38, 3) := by decide +kernel
theorem dL_law_301 : decode cL_law 301 = .ok (.if_icmp .eq 357, 3) := by decide +kernel
theorem dL_law_304 : decode cL_law 304 = .ok (.iconst 0, 1) := by decide +kernel
theorem dL_law_305 : decode cL_law 305 = .ok (.ireturn, 1) := by decide +kernel
theorem dL_law_306 : decode cL_law 306 = .ok (.aload_n 1, 1) := by decide +kernel
theorem dL_law_307 : decode cL_law 307 = .ok (.aload_n 0, 1) := by decide +kernel
theorem dL_law_308 : decode cL_law 308 = .ok (.iload_n 3, 1) := by decide +kernel
theorem dL_law_309 : decode cL_law 309 = .ok (.iconst 1, 1) := by decide +kernel
theorem dL_law_310 : decode cL_law 310 = .ok (.iadd, 1) := by decide +kernel
theorem dL_law_311 : decode cL_law 311 = .ok (.iaload, 1) := by decide +kernel
theorem dL_law_312 : decode cL_law 312 = .ok (.i2l, 1) := by decide +kernel
theorem dL_law_313 : decode cL_law 313 = .ok (.bipush 32, 2) := by decide +kernel
theorem dL_law_315 : decode cL_law 315 = .ok (.lshl, 1) := by decide +kernel
theorem dL_law_316 : decode cL_law 316 = .ok (.aload_n 0, 1) := by decide +kernel
theorem dL_law_317 : decode cL_law 317 = .ok (.iload_n 3, 1) := by decide +kernel
theorem dL_law_318 : decode cL_law 318 = .ok (.iconst 2, 1) := by decide +kernel
theorem dL_law_319 : decode cL_law 319 = .ok (.iadd, 1) := by decide +kernel
theorem dL_law_320 : decode cL_law 320 = .ok (.iaload, 1) := by decide +kernel
theorem dL_law_321 : decode cL_law 321 = .ok (.i2l, 1) := by decide +kernel
theorem dL_law_322 : decode cL_law 322 = .ok (.ldc2_w 39, 3) := by decide +kernel
theorem dL_law_325 : decode cL_law 325 = .ok (.land, 1) := by decide +kernel
theorem dL_law_326 : decode cL_law 326 = .ok (.lor, 1) := by decide +kernel
theorem dL_law_327 : decode cL_law 327 = .ok (.aload_n 0, 1) := by decide +kernel
theorem dL_law_328 : decode cL_law 328 = .ok (.iload_n 3, 1) := by decide +kernel
theorem dL_law_329 : decode cL_law 329 = .ok (.iconst 3, 1) := by decide +kernel
theorem dL_law_330 : decode cL_law 330 = .ok (.iadd, 1) := by decide +kernel
theorem dL_law_331 : decode cL_law 331 = .ok (.iaload, 1) := by decide +kernel
theorem dL_law_332 : decode cL_law 332 = .ok (.invokevirtual 41, 3) := by decide +kernel
theorem dL_law_335 : decode cL_law 335 = .ok (.aload_n 2, 1) := by decide +kernel
theorem dL_law_336 : decode cL_law 336 = .ok (.aload_n 0, 1) := by decide +kernel
theorem dL_law_337 : decode cL_law 337 = .ok (.iload_n 3, 1) := by decide +kernel
theorem dL_law_338 : decode cL_law 338 = .ok (.iconst 1, 1) := by decide +kernel
theorem dL_law_339 : decode cL_law 339 = .ok (.iadd, 1) := by decide +kernel
theorem dL_law_340 : decode cL_law 340 = .ok (.iaload, 1) := by decide +kernel
theorem dL_law_341 : decode cL_law 341 = .ok (.i2l, 1) := by decide +kernel
theorem dL_law_342 : decode cL_law 342 = .ok (.bipush 32, 2) := by decide +kernel
theorem dL_law_344 : decode cL_law 344 = .ok (.lshl, 1) := by decide +kernel
theorem dL_law_345 : decode cL_law 345 = .ok (.aload_n 0, 1) := by decide +kernel
theorem dL_law_346 : decode cL_law 346 = .ok (.iload_n 3, 1) := by decide +kernel
theorem dL_law_347 : decode cL_law 347 = .ok (.iconst 2, 1) := by decide +kernel
theorem dL_law_348 : decode cL_law 348 = .ok (.iadd, 1) := by decide +kernel
theorem dL_law_349 : decode cL_law 349 = .ok (.iaload, 1) := by decide +kernel
theorem dL_law_350 : decode cL_law 350 = .ok (.i2l, 1) := by decide +kernel
theorem dL_law_351 : decode cL_law 351 = .ok (.ldc2_w 39, 3) := by decide +kernel
theorem dL_law_354 : decode cL_law 354 = .ok (.land, 1) := by decide +kernel
theorem dL_law_355 : decode cL_law 355 = .ok (.lor, 1) := by decide +kernel
theorem dL_law_356 : decode cL_law 356 = .ok (.aload_n 0, 1) := by decide +kernel
theorem dL_law_357 : decode cL_law 357 = .ok (.iload_n 3, 1) := by decide +kernel
theorem dL_law_358 : decode cL_law 358 = .ok (.iconst 3, 1) := by decide +kernel
theorem dL_law_359 : decode cL_law 359 = .ok (.iadd, 1) := by decide +kernel
theorem dL_law_360 : decode cL_law 360 = .ok (.iaload, 1) := by decide +kernel
theorem dL_law_361 : decode cL_law 361 = .ok (.invokevirtual 45, 3) := by decide +kernel
theorem dL_law_364 : decode cL_law 364 = .ok (.if_icmp .eq 294, 3) := by decide +kernel
theorem dL_law_367 : decode cL_law 367 = .ok (.iconst 0, 1) := by decide +kernel
theorem dL_law_368 : decode cL_law 368 = .ok (.ireturn, 1) := by decide +kernel
theorem dL_law_369 : decode cL_law 369 = .ok (.aload_n 1, 1) := by decide +kernel
theorem dL_law_370 : decode cL_law 370 = .ok (.invokevirtual 46, 3) := by decide +kernel
theorem dL_law_373 : decode cL_law 373 = .ok (.aload_n 2, 1) := by decide +kernel
theorem dL_law_374 : decode cL_law 374 = .ok (.invokevirtual 50, 3) := by decide +kernel
theorem dL_law_377 : decode cL_law 377 = .ok (.if_icmp .eq 281, 3) := by decide +kernel
theorem dL_law_380 : decode cL_law 380 = .ok (.iconst 0, 1) := by decide +kernel
theorem dL_law_381 : decode cL_law 381 = .ok (.ireturn, 1) := by decide +kernel
theorem dL_law_382 : decode cL_law 382 = .ok (.aload_n 1, 1) := by decide +kernel
theorem dL_law_383 : decode cL_law 383 = .ok (.aload_n 0, 1) := by decide +kernel
theorem dL_law_384 : decode cL_law 384 = .ok (.iload_n 3, 1) := by decide +kernel
theorem dL_law_385 : decode cL_law 385 = .ok (.iconst 1, 1) := by decide +kernel
theorem dL_law_386 : decode cL_law 386 = .ok (.iadd, 1) := by decide +kernel
theorem dL_law_387 : decode cL_law 387 = .ok (.iaload, 1) := by decide +kernel
theorem dL_law_388 : decode cL_law 388 = .ok (.invokevirtual 51, 3) := by decide +kernel
theorem dL_law_391 : decode cL_law 391 = .ok (.aload_n 2, 1) := by decide +kernel
theorem dL_law_392 : decode cL_law 392 = .ok (.aload_n 0, 1) := by decide +kernel
theorem dL_law_393 : decode cL_law 393 = .ok (.iload_n 3, 1) := by decide +kernel
theorem dL_law_394 : decode cL_law 394 = .ok (.iconst 1, 1) := by decide +kernel
theorem dL_law_395 : decode cL_law 395 = .ok (.iadd, 1) := by decide +kernel
theorem dL_law_396 : decode cL_law 396 = .ok (.iaload, 1) := by decide +kernel
theorem dL_law_397 : decode cL_law 397 = .ok (.invokevirtual 54, 3) := by decide +kernel
theorem dL_law_400 : decode cL_law 400 = .ok (.if_icmp .eq 258, 3) := by decide +kernel
theorem dL_law_403 : decode cL_law 403 = .ok (.iconst 0, 1) := by decide +kernel
theorem dL_law_404 : decode cL_law 404 = .ok (.ireturn, 1) := by decide +kernel
theorem dL_law_405 : decode cL_law 405 = .ok (.aload_n 1, 1) := by decide +kernel
theorem dL_law_406 : decode cL_law 406 = .ok (.aload_n 0, 1) := by decide +kernel
theorem dL_law_407 : decode cL_law 407 = .ok (.iload_n 3, 1) := by decide +kernel
theorem dL_law_408 : decode cL_law 408 = .ok (.iconst 1, 1) := by decide +kernel
theorem dL_law_409 : decode cL_law 409 = .ok (.iadd, 1) := by decide +kernel
theorem dL_law_410 : decode cL_law 410 = .ok (.iaload, 1) := by decide +kernel
theorem dL_law_411 : decode cL_law 411 = .ok (.aload_n 0, 1) := by decide +kernel
theorem dL_law_412 : decode cL_law 412 = .ok (.iload_n 3, 1) := by decide +kernel
theorem dL_law_413 : decode cL_law 413 = .ok (.iconst 2, 1) := by decide +kernel
theorem dL_law_414 : decode cL_law 414 = .ok (.iadd, 1) := by decide +kernel
theorem dL_law_415 : decode cL_law 415 = .ok (.iaload, 1) := by decide +kernel
theorem dL_law_416 : decode cL_law 416 = .ok (.invokevirtual 55, 3) := by decide +kernel
theorem dL_law_419 : decode cL_law 419 = .ok (.aload_n 2, 1) := by decide +kernel
theorem dL_law_420 : decode cL_law 420 = .ok (.aload_n 0, 1) := by decide +kernel
theorem dL_law_421 : decode cL_law 421 = .ok (.iload_n 3, 1) := by decide +kernel
theorem dL_law_422 : decode cL_law 422 = .ok (.iconst 1, 1) := by decide +kernel
theorem dL_law_423 : decode cL_law 423 = .ok (.iadd, 1) := by decide +kernel
theorem dL_law_424 : decode cL_law 424 = .ok (.iaload, 1) := by decide +kernel
theorem dL_law_425 : decode cL_law 425 = .ok (.aload_n 0, 1) := by decide +kernel
theorem dL_law_426 : decode cL_law 426 = .ok (.iload_n 3, 1) := by decide +kernel
theorem dL_law_427 : decode cL_law 427 = .ok (.iconst 2, 1) := by decide +kernel
theorem dL_law_428 : decode cL_law 428 = .ok (.iadd, 1) := by decide +kernel
theorem dL_law_429 : decode cL_law 429 = .ok (.iaload, 1) := by decide +kernel
theorem dL_law_430 : decode cL_law 430 = .ok (.invokevirtual 58, 3) := by decide +kernel
theorem dL_law_433 : decode cL_law 433 = .ok (.if_icmp .eq 225, 3) := by decide +kernel
theorem dL_law_436 : decode cL_law 436 = .ok (.iconst 0, 1) := by decide +kernel
theorem dL_law_437 : decode cL_law 437 = .ok (.ireturn, 1) := by decide +kernel
theorem dL_law_438 : decode cL_law 438 = .ok (.aload_n 1, 1) := by decide +kernel
theorem dL_law_439 : decode cL_law 439 = .ok (.aload_n 0, 1) := by decide +kernel
theorem dL_law_440 : decode cL_law 440 = .ok (.iload_n 3, 1) := by decide +kernel
theorem dL_law_441 : decode cL_law 441 = .ok (.iconst 1, 1) := by decide +kernel
theorem dL_law_442 : decode cL_law 442 = .ok (.iadd, 1) := by decide +kernel
theorem dL_law_443 : decode cL_law 443 = .ok (.iaload, 1) := by decide +kernel
theorem dL_law_444 : decode cL_law 444 = .ok (.invokevirtual 59, 3) := by decide +kernel
theorem dL_law_447 : decode cL_law 447 = .ok (.aload_n 2, 1) := by decide +kernel
theorem dL_law_448 : decode cL_law 448 = .ok (.aload_n 0, 1) := by decide +kernel
theorem dL_law_449 : decode cL_law 449 = .ok (.iload_n 3, 1) := by decide +kernel
theorem dL_law_450 : decode cL_law 450 = .ok (.iconst 1, 1) := by decide +kernel
theorem dL_law_451 : decode cL_law 451 = .ok (.iadd, 1) := by decide +kernel
theorem dL_law_452 : decode cL_law 452 = .ok (.iaload, 1) := by decide +kernel
theorem dL_law_453 : decode cL_law 453 = .ok (.invokevirtual 62, 3) := by decide +kernel
theorem dL_law_456 : decode cL_law 456 = .ok (.if_icmp .eq 202, 3) := by decide +kernel
theorem dL_law_459 : decode cL_law 459 = .ok (.iconst 0, 1) := by decide +kernel
theorem dL_law_460 : decode cL_law 460 = .ok (.ireturn, 1) := by decide +kernel
theorem dL_law_461 : decode cL_law 461 = .ok (.aload_n 1, 1) := by decide +kernel
theorem dL_law_462 : decode cL_law 462 = .ok (.invokevirtual 63, 3) := by decide +kernel
theorem dL_law_465 : decode cL_law 465 = .ok (.aload_n 2, 1) := by decide +kernel
theorem dL_law_466 : decode cL_law 466 = .ok (.invokevirtual 66, 3) := by decide +kernel
theorem dL_law_469 : decode cL_law 469 = .ok (.if_icmp .eq 189, 3) := by decide +kernel
theorem dL_law_472 : decode cL_law 472 = .ok (.iconst 0, 1) := by decide +kernel
theorem dL_law_473 : decode cL_law 473 = .ok (.ireturn, 1) := by decide +kernel
theorem dL_law_474 : decode cL_law 474 = .ok (.aload_n 1, 1) := by decide +kernel
theorem dL_law_475 : decode cL_law 475 = .ok (.aload_n 0, 1) := by decide +kernel
theorem dL_law_476 : decode cL_law 476 = .ok (.iload_n 3, 1) := by decide +kernel
theorem dL_law_477 : decode cL_law 477 = .ok (.iconst 1, 1) := by decide +kernel
theorem dL_law_478 : decode cL_law 478 = .ok (.iadd, 1) := by decide +kernel
theorem dL_law_479 : decode cL_law 479 = .ok (.iaload, 1) := by decide +kernel
theorem dL_law_480 : decode cL_law 480 = .ok (.aload_n 0, 1) := by decide +kernel
theorem dL_law_481 : decode cL_law 481 = .ok (.iload_n 3, 1) := by decide +kernel
theorem dL_law_482 : decode cL_law 482 = .ok (.iconst 2, 1) := by decide +kernel
theorem dL_law_483 : decode cL_law 483 = .ok (.iadd, 1) := by decide +kernel
theorem dL_law_484 : decode cL_law 484 = .ok (.iaload, 1) := by decide +kernel
theorem dL_law_485 : decode cL_law 485 = .ok (.invokevirtual 67, 3) := by decide +kernel
theorem dL_law_488 : decode cL_law 488 = .ok (.aload_n 2, 1) := by decide +kernel
theorem dL_law_489 : decode cL_law 489 = .ok (.aload_n 0, 1) := by decide +kernel
theorem dL_law_490 : decode cL_law 490 = .ok (.iload_n 3, 1) := by decide +kernel
theorem dL_law_491 : decode cL_law 491 = .ok (.iconst 1, 1) := by decide +kernel
theorem dL_law_492 : decode cL_law 492 = .ok (.iadd, 1) := by decide +kernel
theorem dL_law_493 : decode cL_law 493 = .ok (.iaload, 1) := by decide +kernel
theorem dL_law_494 : decode cL_law 494 = .ok (.aload_n 0, 1) := by decide +kernel
theorem dL_law_495 : decode cL_law 495 = .ok (.iload_n 3, 1) := by decide +kernel
theorem dL_law_496 : decode cL_law 496 = .ok (.iconst 2, 1) := by decide +kernel
theorem dL_law_497 : decode cL_law 497 = .ok (.iadd, 1) := by decide +kernel
theorem dL_law_498 : decode cL_law 498 = .ok (.iaload, 1) := by decide +kernel
theorem dL_law_499 : decode cL_law 499 = .ok (.invokevirtual 70, 3) := by decide +kernel
theorem dL_law_502 : decode cL_law 502 = .ok (.if_icmp .eq 156, 3) := by decide +kernel
theorem dL_law_505 : decode cL_law 505 = .ok (.iconst 0, 1) := by decide +kernel
theorem dL_law_506 : decode cL_law 506 = .ok (.ireturn, 1) := by decide +kernel
theorem dL_law_507 : decode cL_law 507 = .ok (.aload_n 1, 1) := by decide +kernel
theorem dL_law_508 : decode cL_law 508 = .ok (.aload_n 0, 1) := by decide +kernel
theorem dL_law_509 : decode cL_law 509 = .ok (.iload_n 3, 1) := by decide +kernel
theorem dL_law_510 : decode cL_law 510 = .ok (.iconst 1, 1) := by decide +kernel
theorem dL_law_511 : decode cL_law 511 = .ok (.iadd, 1) := by decide +kernel
theorem dL_law_512 : decode cL_law 512 = .ok (.iaload, 1) := by decide +kernel
theorem dL_law_513 : decode cL_law 513 = .ok (.aload_n 0, 1) := by decide +kernel
theorem dL_law_514 : decode cL_law 514 = .ok (.iload_n 3, 1) := by decide +kernel
theorem dL_law_515 : decode cL_law 515 = .ok (.iconst 2, 1) := by decide +kernel
theorem dL_law_516 : decode cL_law 516 = .ok (.iadd, 1) := by decide +kernel
theorem dL_law_517 : decode cL_law 517 = .ok (.iaload, 1) := by decide +kernel
theorem dL_law_518 : decode cL_law 518 = .ok (.invokevirtual 71, 3) := by decide +kernel
theorem dL_law_521 : decode cL_law 521 = .ok (.aload_n 2, 1) := by decide +kernel
theorem dL_law_522 : decode cL_law 522 = .ok (.aload_n 0, 1) := by decide +kernel
theorem dL_law_523 : decode cL_law 523 = .ok (.iload_n 3, 1) := by decide +kernel
theorem dL_law_524 : decode cL_law 524 = .ok (.iconst 1, 1) := by decide +kernel
theorem dL_law_525 : decode cL_law 525 = .ok (.iadd, 1) := by decide +kernel
theorem dL_law_526 : decode cL_law 526 = .ok (.iaload, 1) := by decide +kernel
theorem dL_law_527 : decode cL_law 527 = .ok (.aload_n 0, 1) := by decide +kernel
theorem dL_law_528 : decode cL_law 528 = .ok (.iload_n 3, 1) := by decide +kernel
theorem dL_law_529 : decode cL_law 529 = .ok (.iconst 2, 1) := by decide +kernel
theorem dL_law_530 : decode cL_law 530 = .ok (.iadd, 1) := by decide +kernel
theorem dL_law_531 : decode cL_law 531 = .ok (.iaload, 1) := by decide +kernel
theorem dL_law_532 : decode cL_law 532 = .ok (.invokevirtual 74, 3) := by decide +kernel
theorem dL_law_535 : decode cL_law 535 = .ok (.if_icmp .eq 123, 3) := by decide +kernel
theorem dL_law_538 : decode cL_law 538 = .ok (.iconst 0, 1) := by decide +kernel
theorem dL_law_539 : decode cL_law 539 = .ok (.ireturn, 1) := by decide +kernel
theorem dL_law_540 : decode cL_law 540 = .ok (.aload_n 1, 1) := by decide +kernel
theorem dL_law_541 : decode cL_law 541 = .ok (.aload_n 0, 1) := by decide +kernel
theorem dL_law_542 : decode cL_law 542 = .ok (.iload_n 3, 1) := by decide +kernel
theorem dL_law_543 : decode cL_law 543 = .ok (.iconst 1, 1) := by decide +kernel
theorem dL_law_544 : decode cL_law 544 = .ok (.iadd, 1) := by decide +kernel
theorem dL_law_545 : decode cL_law 545 = .ok (.iaload, 1) := by decide +kernel
theorem dL_law_546 : decode cL_law 546 = .ok (.invokevirtual 75, 3) := by decide +kernel
theorem dL_law_549 : decode cL_law 549 = .ok (.aload_n 2, 1) := by decide +kernel
theorem dL_law_550 : decode cL_law 550 = .ok (.aload_n 0, 1) := by decide +kernel
theorem dL_law_551 : decode cL_law 551 = .ok (.iload_n 3, 1) := by decide +kernel
theorem dL_law_552 : decode cL_law 552 = .ok (.iconst 1, 1) := by decide +kernel
theorem dL_law_553 : decode cL_law 553 = .ok (.iadd, 1) := by decide +kernel
theorem dL_law_554 : decode cL_law 554 = .ok (.iaload, 1) := by decide +kernel
theorem dL_law_555 : decode cL_law 555 = .ok (.invokevirtual 78, 3) := by decide +kernel
theorem dL_law_558 : decode cL_law 558 = .ok (.if_icmp .eq 100, 3) := by decide +kernel
theorem dL_law_561 : decode cL_law 561 = .ok (.iconst 0, 1) := by decide +kernel
theorem dL_law_562 : decode cL_law 562 = .ok (.ireturn, 1) := by decide +kernel
theorem dL_law_563 : decode cL_law 563 = .ok (.aload_n 1, 1) := by decide +kernel
theorem dL_law_564 : decode cL_law 564 = .ok (.invokevirtual 79, 3) := by decide +kernel
theorem dL_law_567 : decode cL_law 567 = .ok (.aload_n 2, 1) := by decide +kernel
theorem dL_law_568 : decode cL_law 568 = .ok (.invokevirtual 82, 3) := by decide +kernel
theorem dL_law_571 : decode cL_law 571 = .ok (.if_icmp .eq 87, 3) := by decide +kernel
theorem dL_law_574 : decode cL_law 574 = .ok (.iconst 0, 1) := by decide +kernel
theorem dL_law_575 : decode cL_law 575 = .ok (.ireturn, 1) := by decide +kernel
theorem dL_law_576 : decode cL_law 576 = .ok (.aload_n 1, 1) := by decide +kernel
theorem dL_law_577 : decode cL_law 577 = .ok (.aload_n 0, 1) := by decide +kernel
theorem dL_law_578 : decode cL_law 578 = .ok (.iload_n 3, 1) := by decide +kernel
theorem dL_law_579 : decode cL_law 579 = .ok (.iconst 1, 1) := by decide +kernel
theorem dL_law_580 : decode cL_law 580 = .ok (.iadd, 1) := by decide +kernel
theorem dL_law_581 : decode cL_law 581 = .ok (.iaload, 1) := by decide +kernel
theorem dL_law_582 : decode cL_law 582 = .ok (.invokevirtual 83, 3) := by decide +kernel
theorem dL_law_585 : decode cL_law 585 = .ok (.aload_n 2, 1) := by decide +kernel
theorem dL_law_586 : decode cL_law 586 = .ok (.aload_n 0, 1) := by decide +kernel
theorem dL_law_587 : decode cL_law 587 = .ok (.iload_n 3, 1) := by decide +kernel
theorem dL_law_588 : decode cL_law 588 = .ok (.iconst 1, 1) := by decide +kernel
theorem dL_law_589 : decode cL_law 589 = .ok (.iadd, 1) := by decide +kernel
theorem dL_law_590 : decode cL_law 590 = .ok (.iaload, 1) := by decide +kernel
theorem dL_law_591 : decode cL_law 591 = .ok (.invokevirtual 86, 3) := by decide +kernel
theorem dL_law_594 : decode cL_law 594 = .ok (.if_icmp .eq 64, 3) := by decide +kernel
theorem dL_law_597 : decode cL_law 597 = .ok (.iconst 0, 1) := by decide +kernel
theorem dL_law_598 : decode cL_law 598 = .ok (.ireturn, 1) := by decide +kernel
theorem dL_law_599 : decode cL_law 599 = .ok (.aload_n 1, 1) := by decide +kernel
theorem dL_law_600 : decode cL_law 600 = .ok (.aload_n 0, 1) := by decide +kernel
theorem dL_law_601 : decode cL_law 601 = .ok (.iload_n 3, 1) := by decide +kernel
theorem dL_law_602 : decode cL_law 602 = .ok (.iconst 1, 1) := by decide +kernel
theorem dL_law_603 : decode cL_law 603 = .ok (.iadd, 1) := by decide +kernel
theorem dL_law_604 : decode cL_law 604 = .ok (.iaload, 1) := by decide +kernel
theorem dL_law_605 : decode cL_law 605 = .ok (.invokevirtual 87, 3) := by decide +kernel
theorem dL_law_608 : decode cL_law 608 = .ok (.aload_n 2, 1) := by decide +kernel
theorem dL_law_609 : decode cL_law 609 = .ok (.aload_n 0, 1) := by decide +kernel
theorem dL_law_610 : decode cL_law 610 = .ok (.iload_n 3, 1) := by decide +kernel
theorem dL_law_611 : decode cL_law 611 = .ok (.iconst 1, 1) := by decide +kernel
theorem dL_law_612 : decode cL_law 612 = .ok (.iadd, 1) := by decide +kernel
theorem dL_law_613 : decode cL_law 613 = .ok (.iaload, 1) := by decide +kernel
theorem dL_law_614 : decode cL_law 614 = .ok (.invokevirtual 90, 3) := by decide +kernel
theorem dL_law_617 : decode cL_law 617 = .ok (.if_icmp .eq 41, 3) := by decide +kernel
theorem dL_law_620 : decode cL_law 620 = .ok (.iconst 0, 1) := by decide +kernel
theorem dL_law_621 : decode cL_law 621 = .ok (.ireturn, 1) := by decide +kernel
theorem dL_law_622 : decode cL_law 622 = .ok (.aload_n 1, 1) := by decide +kernel
theorem dL_law_623 : decode cL_law 623 = .ok (.aload_n 0, 1) := by decide +kernel
theorem dL_law_624 : decode cL_law 624 = .ok (.iload_n 3, 1) := by decide +kernel
theorem dL_law_625 : decode cL_law 625 = .ok (.iconst 1, 1) := by decide +kernel
theorem dL_law_626 : decode cL_law 626 = .ok (.iadd, 1) := by decide +kernel
theorem dL_law_627 : decode cL_law 627 = .ok (.iaload, 1) := by decide +kernel
theorem dL_law_628 : decode cL_law 628 = .ok (.invokevirtual 91, 3) := by decide +kernel
theorem dL_law_631 : decode cL_law 631 = .ok (.aload_n 2, 1) := by decide +kernel
theorem dL_law_632 : decode cL_law 632 = .ok (.aload_n 0, 1) := by decide +kernel
theorem dL_law_633 : decode cL_law 633 = .ok (.iload_n 3, 1) := by decide +kernel
theorem dL_law_634 : decode cL_law 634 = .ok (.iconst 1, 1) := by decide +kernel
theorem dL_law_635 : decode cL_law 635 = .ok (.iadd, 1) := by decide +kernel
theorem dL_law_636 : decode cL_law 636 = .ok (.iaload, 1) := by decide +kernel
theorem dL_law_637 : decode cL_law 637 = .ok (.invokevirtual 94, 3) := by decide +kernel
theorem dL_law_640 : decode cL_law 640 = .ok (.if_icmp .eq 18, 3) := by decide +kernel
theorem dL_law_643 : decode cL_law 643 = .ok (.iconst 0, 1) := by decide +kernel
theorem dL_law_644 : decode cL_law 644 = .ok (.ireturn, 1) := by decide +kernel
theorem dL_law_645 : decode cL_law 645 = .ok (.aload_n 1, 1) := by decide +kernel
theorem dL_law_646 : decode cL_law 646 = .ok (.invokevirtual 95, 3) := by decide +kernel
theorem dL_law_649 : decode cL_law 649 = .ok (.aload_n 2, 1) := by decide +kernel
theorem dL_law_650 : decode cL_law 650 = .ok (.invokevirtual 98, 3) := by decide +kernel
theorem dL_law_653 : decode cL_law 653 = .ok (.if_icmp .eq 5, 3) := by decide +kernel
theorem dL_law_656 : decode cL_law 656 = .ok (.iconst 0, 1) := by decide +kernel
theorem dL_law_657 : decode cL_law 657 = .ok (.ireturn, 1) := by decide +kernel
theorem dL_law_658 : decode cL_law 658 = .ok (.iinc 3 4, 3) := by decide +kernel
theorem dL_law_661 : decode cL_law 661 = .ok (.goto (-643), 3) := by decide +kernel
theorem dL_law_664 : decode cL_law 664 = .ok (.iconst 1, 1) := by decide +kernel
theorem dL_law_665 : decode cL_law 665 = .ok (.ireturn, 1) := by decide +kernel
end
section
/-! THE LAYER: a method's frame over one world of fixed shape.
  σ: object number, slot -> int. Λ: what the objects are (arrays, objects with their references). q_G: 'from here the machine comes to the method's end with E' (E none: nothing is said). q_Ex: the contract of a method. -/
/-- the words that a callee is given: all but those of nest mates, which come beside -/
def lw_gd : List Cond := lw_tbl.filter goodWord
def q_nests : List (String × Nat × MethodName) := [("CroquetLawn", 11, ⟨"CroquetLawn$Play", "<init>", "()V"⟩), ("CroquetLawn$Play", 35, ⟨"CroquetLawn$Position", "<init>", "()V"⟩), ("CroquetLawn$Laws", 27, ⟨"CroquetLawn", "set", "([III)V"⟩), ("CroquetLawn$Roster", 21, ⟨"CroquetLawn", "at", "([II)I"⟩), ("CroquetLawn$Play", 43, ⟨"CroquetLawn", "set", "([III)V"⟩), ("CroquetLawn$Position", 24, ⟨"CroquetLawn", "set", "([III)V"⟩), ("CroquetLawn$Position", 61, ⟨"CroquetLawn", "at", "([II)I"⟩), ("CroquetLawn$Play", 69, ⟨"CroquetLawn", "at", "([II)I"⟩), ("CroquetLawn$Laws", 31, ⟨"CroquetLawn", "at", "([II)I"⟩), ("CroquetLawn$Laws", 35, ⟨"CroquetLawn", "within", "(III)Z"⟩), ("CroquetLawn$Roster", 25, ⟨"CroquetLawn", "set", "([III)V"⟩), ("CroquetLawn$Meeting", 28, ⟨"CroquetLawn", "within", "(III)Z"⟩), ("CroquetLawn$Meeting", 32, ⟨"CroquetLawn", "at", "([II)I"⟩), ("CroquetLawn$Meeting", 56, ⟨"CroquetLawn", "set", "([III)V"⟩)]
abbrev Sg : Type := Nat → Nat → Int32
abbrev Rs : Type := Option (Sg × Int32)
def q_wr (σ : Sg) (o k : Nat) (v : Int32) : Sg := fun o' => if o' = o then upd (σ o) k v else σ o'
def q_clr (σ : Sg) (o : Nat) : Sg := fun o' => if o' = o then (fun _ => 0) else σ o'
def q_bnd (x : Rs) (f : Sg → Int32 → Rs) : Rs := match x with
  | none => none
  | some (s, r) => f s r
abbrev q_Kd : Type := (Bool × Nat) ⊕ (Nat × List (Option (Option Nat)))
abbrev q_Lay : Type := List q_Kd
abbrev q_Cx : Type := Launch × va_G × (ClassId × ClassId) × (Nat → Nat) × Nat × Nat
abbrev xl (X : q_Cx) : Launch := X.1
abbrev xD (X : q_Cx) : va_G := X.2.1
abbrev xI (X : q_Cx) : ClassId := X.2.2.1.1
abbrev xZ (X : q_Cx) : ClassId := X.2.2.1.2
abbrev xa (X : q_Cx) : Nat → Nat := X.2.2.2.1
abbrev xb (X : q_Cx) : Nat := X.2.2.2.2.1
abbrev xn (X : q_Cx) : Nat := X.2.2.2.2.2
def q_fv (X : q_Cx) (σ : Sg) (o k : Nat) (r : Option (Option Nat)) : Value := match r with
  | none => .int (σ o k)
  | some none => .null
  | some (some t) => .ref (xa X t)
def q_cell (X : q_Cx) (σ : Sg) (o : Nat) (k : q_Kd) : va_E := match k with
  | .inl (z, n) => .inl (if z then xZ X else xI X, n, .inl (σ o))
  | .inr (c, fs) => .inr (c, fs.mapIdx (fun k r => q_fv X σ o k r))
def q_W (X : q_Cx) (Λ : q_Lay) (σ : Sg) : va_W := Λ.mapIdx (fun o k => (xa X o, q_cell X σ o k))
def q_A (X : q_Cx) : Nat → Prop := fun q => xb X ≤ q
def q_sn : Nat → String := fun j => match j with
  | 0 => "ONE"
  | 1 => "TWO"
  | 2 => "FROM_ONE"
  | 3 => "FROM_TWO"
  | _ => "LEADS_TO"
def q_FX (X : q_Cx) (U : State) : Prop := va_K (xD X) vwCl [(xI X, .int), (xZ X, .boolean)] U ∧ (∀ q ∈ q_nests, va_Nw (.methodLinkNest q.1 q.2.1 q.2.2 "CroquetLawn") U) ∧ ∀ o, o < 64 → xa X o = xb X + o
def q_ST (X : q_Cx) (σ : Sg) (U : State) (H : Heap) : Prop := (∀ j, j < 5 → va_Z RX1 (q_sn j) "[I" (.ref (xa X (100 + j))) (q_A X) U H ∧ va_T .int (xa X (100 + j)) 15 (fun i => .int (σ (100 + j) i)) (q_A X) U H) ∧ va_T .int (xa X 105) (xn X) (fun i => .int (σ 105 i)) (q_A X) U H
def q_INV (X : q_Cx) (Λ : q_Lay) (σ : Sg) (U : State) : Prop := va_P (xD X) vwCl (q_W X Λ σ) U.heap ∧ U.heap.size = xb X + Λ.length ∧ Λ.length ≤ 64 ∧ q_FX X U ∧ q_ST X σ U U.heap
abbrev q_Mt : Type := MethodName × ByteArray × Nat × Option FieldType × Room
def q_rv (t : Option FieldType) (r : Int32) : Option Value := match t with
  | none => none
  | some _ => some (.int r)
def q_ws (M : q_Mt) : List Cond := Cond.code M.1 M.2.1 M.2.2.1 M.2.2.2.1 :: lw_gd
def q_QE (X : q_Cx) (Λe : q_Lay) (M : q_Mt) (E : Rs) : Array Value → State → Outcome → State → Prop := fun _ st oc t => ∃ (σ' : Sg) (r : Int32), E = some (σ', r) ∧ oc = .returned (q_rv M.2.2.2.1 r) ∧ q_INV X Λe σ' t ∧ va_F (q_A X) st t
def q_Ex (X : q_Cx) (M : q_Mt) (Λ Λe : q_Lay) (args : List Value) (σ : Sg) (E : Rs) : Prop := Met (xl X) M.1 (q_ws M) M.2.2.2.2 (va_Pc args (fun U => (∃ x, E = some x) ∧ q_INV X Λ σ U)) (q_QE X Λe M E) M.2.2.2.2.cells M.2.2.2.2.slots (q_A X)
def q_MC (X : q_Cx) (M : q_Mt) (p : Program) (s : State) (m : MethodId) (args : Array Value) (meth : Method) (c : Code) : Prop := p.tables.exec = Jvm.exec ∧ c.code = M.2.1 ∧ meth.sig.returnType = M.2.2.2.1 ∧ c.maxLocals = M.2.2.1 ∧ s.vm.findClass M.1.cls = some m.cls ∧ (∀ w ∈ lw_gd, w.before args s = true) ∧ meth.locks = false ∧ (M.1.name = "<init>" → meth.name = "<init>") ∧ q_FX X s
abbrev q_Fin : Type := Rs → List Frame → Array Value → State → State → Prop
def q_QM (X : q_Cx) (Λe : q_Lay) (M : q_Mt) : q_Fin := fun E below args s => MQ below (q_QE X Λe M E) args s M.2.2.2.2.cells M.2.2.2.2.slots (q_A X)
def q_G (X : q_Cx) (M : q_Mt) (Q : q_Fin) (ph : q_Lay × Nat × Nat) (σ : Sg) (pc : Nat) (l : List (Nat × Value)) (st : List Value) (E : Rs) : Prop :=
  (∃ x, E = some x) → ∀ (p : Program) (e : Env) (s : State) (m : MethodId) (args : Array Value) (below : List Frame) (meth : Method) (c : Code) (H : Heap) (locs : List Loc) (ls : Array Slot), q_MC X M p s m args meth c →
    va_P (xD X) vwCl (q_W X ph.1 σ) H → H.size = xb X + ph.1.length → ph.1.length ≤ 64 → q_ST X σ s s.heap → va_S (q_A X) s.heap H locs → lv_has ls M.2.2.1 l →
    W p (xl X) e M.2.2.2.2 s m args below meth c H locs ph.2.1 ph.2.2 (Q E below args s) (F0 m pc ls st)
/-! the world -/
theorem q_Wget {X : q_Cx} {Λ : q_Lay} {σ : Sg} {o : Nat} {k : q_Kd} (h : Λ[o]? = some k) : (q_W X Λ σ)[o]? = some (xa X o, q_cell X σ o k) := by
  simp [q_W, h]
theorem q_Wlen (X : q_Cx) (Λ : q_Lay) (σ : Sg) : (q_W X Λ σ).length = Λ.length := by simp [q_W]
theorem q_Wat {X : q_Cx} {Λ : q_Lay} {σ : Sg} {o : Nat} {q : Nat × va_E} (h : (q_W X Λ σ)[o]? = some q) : o < Λ.length ∧ q.1 = xa X o := by
  have hl : o < (q_W X Λ σ).length := (List.getElem?_eq_some_iff.mp h).1
  rw [q_Wlen] at hl
  refine ⟨hl, ?_⟩
  rw [q_Wget (List.getElem?_eq_getElem hl)] at h
  exact (congrArg Prod.fst (Option.some.inj h)).symm
theorem q_D {X : q_Cx} {Λ : q_Lay} {σ : Sg} (ha : ∀ o, o < 64 → xa X o = xb X + o) (hl : Λ.length ≤ 64) : va_D (q_A X) (q_W X Λ σ) := by
  refine ⟨fun i j p q hi hj hpq => ?_, fun k q hk => ?_⟩
  · obtain ⟨a1, a2⟩ := q_Wat hi
    obtain ⟨b1, b2⟩ := q_Wat hj
    have h1 := ha i (by omega)
    have h2 := ha j (by omega)
    omega
  · obtain ⟨a1, a2⟩ := q_Wat hk
    have h1 := ha k (by omega)
    show xb X ≤ q.1
    omega
theorem q_wr_ne {σ : Sg} {o o' k : Nat} {v : Int32} (h : o' ≠ o) : q_wr σ o k v o' = σ o' := by simp [q_wr, h]
theorem q_cell_ne {X : q_Cx} {σ σ' : Sg} {o : Nat} {k : q_Kd} (h : σ' o = σ o) : q_cell X σ' o k = q_cell X σ o k := by
  rcases k with ⟨z, n⟩ | ⟨c, fs⟩
  · simp [q_cell, h]
  · simp only [q_cell]
    congr 2
    apply List.ext_getElem?
    intro i
    simp only [List.getElem?_mapIdx]
    cases fs[i]? with
    | none => rfl
    | some r => rcases r with _ | _ | t <;> simp [q_fv, h]
theorem q_Wset {X : q_Cx} {Λ Λ' : q_Lay} {σ σ' : Sg} {o : Nat} {e : va_E} {k' : q_Kd} (hl : Λ' = Λ.set o k') (ho : o < Λ.length) (he : q_cell X σ' o k' = e) (hn : ∀ o', o' ≠ o → σ' o' = σ o') : (q_W X Λ σ).set o (xa X o, e) = q_W X Λ' σ' := by
  subst hl
  subst he
  apply List.ext_getElem?
  intro i
  by_cases hi : i = o
  · subst hi
    rw [List.getElem?_set_self (by rw [q_Wlen]; exact ho), q_Wget (k := k') (by simp [ho])]
  · rw [List.getElem?_set_ne (Ne.symm hi)]
    simp only [q_W, List.getElem?_mapIdx, List.getElem?_set_ne (Ne.symm hi)]
    cases Λ[i]? with
    | none => rfl
    | some k => simp [q_cell_ne (hn i hi)]
theorem q_set_self {Λ : q_Lay} {o : Nat} {k : q_Kd} (h : Λ[o]? = some k) : Λ = Λ.set o k := by
  apply List.ext_getElem?
  intro i
  by_cases hi : i = o
  · subst hi
    rw [List.getElem?_set_self (List.getElem?_eq_some_iff.mp h).1, h]
  · rw [List.getElem?_set_ne (Ne.symm hi)]
theorem q_fset {X : q_Cx} {σ : Sg} {o k ci : Nat} {fs : List (Option (Option Nat))} {v : Int32} (hk : fs[k]? = some none) : q_cell X (q_wr σ o k v) o (.inr (ci, fs)) = .inr (ci, (fs.mapIdx (fun k r => q_fv X σ o k r)).set k (.int v)) := by
  simp only [q_cell]
  congr 2
  apply List.ext_getElem?
  intro i
  have hl := (List.getElem?_eq_some_iff.mp hk).1
  by_cases hi : i = k
  · subst hi
    rw [List.getElem?_set_self (by simpa using hl)]
    simp [hk, q_fv, q_wr, upd]
  · rw [List.getElem?_set_ne (Ne.symm hi)]
    simp only [List.getElem?_mapIdx]
    cases fs[i]? with
    | none => rfl
    | some r => rcases r with _ | _ | t <;> simp [q_fv, q_wr, upd, hi]
theorem q_rset {X : q_Cx} {σ : Sg} {o k ci t : Nat} {fs : List (Option (Option Nat))} (hk : k < fs.length) : q_cell X σ o (.inr (ci, fs.set k (some (some t)))) = .inr (ci, (fs.mapIdx (fun k r => q_fv X σ o k r)).set k (.ref (xa X t))) := by
  simp only [q_cell]
  congr 2
  apply List.ext_getElem?
  intro i
  by_cases hi : i = k
  · subst hi
    rw [List.getElem?_set_self (by simpa using hk)]
    simp [hk, q_fv]
  · rw [List.getElem?_set_ne (Ne.symm hi)]
    simp [List.getElem?_set_ne (Ne.symm hi)]
theorem q_aset {X : q_Cx} {σ : Sg} {o n i : Nat} {z : Bool} {v : Int32} : q_cell X (q_wr σ o i v) o (.inl (z, n)) = .inl (if z then xZ X else xI X, n, .inl (upd (σ o) i v)) := by
  simp [q_cell, q_wr]
theorem q_clr_ne {σ : Sg} {o o' : Nat} (h : o' ≠ o) : q_clr σ o o' = σ o' := by simp [q_clr, h]
theorem q_Wpush {X : q_Cx} {Λ : q_Lay} {σ : Sg} {k : q_Kd} {e : va_E} (he : q_cell X (q_clr σ Λ.length) Λ.length k = e) : q_W X Λ σ ++ [(xa X Λ.length, e)] = q_W X (Λ ++ [k]) (q_clr σ Λ.length) := by
  subst he
  apply List.ext_getElem?
  intro i
  by_cases hi : i < Λ.length
  · rw [List.getElem?_append_left (by rw [q_Wlen]; exact hi), q_Wget (List.getElem?_eq_getElem hi), q_Wget (k := Λ[i]) (by rw [List.getElem?_append_left hi]; exact List.getElem?_eq_getElem hi), q_cell_ne (q_clr_ne (by omega))]
  · by_cases h2 : i = Λ.length
    · subst h2
      rw [List.getElem?_append_right (by rw [q_Wlen]; omega), q_Wlen, q_Wget (k := k) (by simp)]
      simp
    · rw [List.getElem?_eq_none (by simp [q_Wlen]; omega), List.getElem?_eq_none (by simp [q_Wlen]; omega)]
theorem q_STw {X : q_Cx} {σ σ' : Sg} {U : State} {H : Heap} (h : q_ST X σ U H) (hn : ∀ o, 100 ≤ o → σ' o = σ o) : q_ST X σ' U H := by
  refine ⟨fun j hj => ⟨(h.1 j hj).1, ?_⟩, ?_⟩
  · rw [hn (100 + j) (by omega)]; exact (h.1 j hj).2
  · rw [hn 105 (by omega)]; exact h.2
theorem q_ST.moved {X : q_Cx} {σ : Sg} {u U : State} {H H1 : Heap} (hvm : u.vm.Alike U.vm) (hk : ∀ a : Nat, a < H.size → ¬ q_A X a → H1[a]? = H[a]?) (h : q_ST X σ u H) : q_ST X σ U H1 :=
  ⟨fun j hj => ⟨((h.1 j hj).1.moved hvm).kept hk, ((h.1 j hj).2.moved hvm).kept hk⟩, (h.2.moved hvm).kept hk⟩
theorem q_FX.moved {X : q_Cx} {u U : State} (hW : u.WarmedH U.vm) (h : q_FX X u) : q_FX X U := ⟨va_K.moved hW.alike h.1, fun q hq => va_Nw.warmM hW (h.2.1 q hq), h.2.2⟩
theorem q_FX.same {X : q_Cx} {u U : State} (hv : u.vm = U.vm) (h : q_FX X u) : q_FX X U := ⟨va_K.moved (hv ▸ Vm.Alike.refl u.vm) h.1, fun q hq => va_Nw.same rfl hv (h.2.1 q hq), h.2.2⟩
end
section
/-! THE LAYER's RULES: an instruction, a rule -/
section QR
variable {X : q_Cx} {M : q_Mt} {Q : q_Fin} {ph : q_Lay × Nat × Nat} {σ : Sg} {pc pc' : Nat} {l l' : List (Nat × Value)} {st rest : List Value} {E E1 E2 : Rs}
theorem gq_none : q_G X M Q ph σ pc l st none := fun h => by obtain ⟨x, h⟩ := h; cases h
theorem gq_ite {c : Prop} [Decidable c] (h1 : c → q_G X M Q ph σ pc l st E1) (h2 : ¬ c → q_G X M Q ph σ pc l st E2) : q_G X M Q ph σ pc l st (if c then E1 else E2) := by
  by_cases h : c
  · rw [if_pos h]; exact h1 h
  · rw [if_neg h]; exact h2 h
theorem gq_sub (ks : List Nat) (hl : lv_pick l ks = l') (k : q_G X M Q ph σ pc l' st E) : q_G X M Q ph σ pc l st E := fun hE p e s m args below meth c H locs ls C hP hz h6 hT hS h => k hE p e s m args below meth c H locs ls C hP hz h6 hT hS (lv_sub h ks hl)
theorem gq_pc (h : pc = pc') (k : q_G X M Q ph σ pc' l st E) : q_G X M Q ph σ pc l st E := h ▸ k
theorem gq_iconst {n : Int} {v : Int32} (d : decode M.2.1 pc = .ok (.iconst n, 1)) (hp : pc + 1 = pc') (hv : Int32.ofInt n = v) (k : q_G X M Q ph σ pc' l (.int v :: st) E) : q_G X M Q ph σ pc l st E := by
  subst hp
  exact fun hE p e s m args below meth c H locs ls C hP hz h6 hT hS h => lv_iconst C.1 C.2.1 d hv (k hE p e s m args below meth c H locs ls C hP hz h6 hT hS h)
theorem gq_bipush {n : Int} {v : Int32} (d : decode M.2.1 pc = .ok (.bipush n, 2)) (hp : pc + 2 = pc') (hv : (Int8.ofInt n).toInt32 = v) (k : q_G X M Q ph σ pc' l (.int v :: st) E) : q_G X M Q ph σ pc l st E := by
  subst hp
  exact fun hE p e s m args below meth c H locs ls C hP hz h6 hT hS h => lv_bipush C.1 C.2.1 d hv (k hE p e s m args below meth c H locs ls C hP hz h6 hT hS h)
theorem gq_sipush {n : Int} {v : Int32} (d : decode M.2.1 pc = .ok (.sipush n, 3)) (hp : pc + 3 = pc') (hv : (Int16.ofInt n).toInt32 = v) (k : q_G X M Q ph σ pc' l (.int v :: st) E) : q_G X M Q ph σ pc l st E := by
  subst hp
  exact fun hE p e s m args below meth c H locs ls C hP hz h6 hT hS h => lv_sipush C.1 C.2.1 d hv (k hE p e s m args below meth c H locs ls C hP hz h6 hT hS h)
theorem gq_iload_n {k : Fin 4} {i : Nat} {x : Int32} (d : decode M.2.1 pc = .ok (.iload_n k, 1)) (hp : pc + 1 = pc') (hl : l[i]? = some ((k : Nat), .int x)) (kk : q_G X M Q ph σ pc' l (.int x :: st) E) : q_G X M Q ph σ pc l st E := by
  subst hp
  exact fun hE p e s m args below meth c H locs ls C hP hz h6 hT hS h => lv_iload_n C.1 C.2.1 d rfl (lv_at h i hl) (kk hE p e s m args below meth c H locs ls C hP hz h6 hT hS h)
theorem gq_iload {i j : Nat} {x : Int32} (d : decode M.2.1 pc = .ok (.iload j, 2)) (hp : pc + 2 = pc') (hl : l[i]? = some (j, .int x)) (k : q_G X M Q ph σ pc' l (.int x :: st) E) : q_G X M Q ph σ pc l st E := by
  subst hp
  exact fun hE p e s m args below meth c H locs ls C hP hz h6 hT hS h => lv_iload C.1 C.2.1 d (lv_at h i hl) (k hE p e s m args below meth c H locs ls C hP hz h6 hT hS h)
theorem gq_aload_n {k : Fin 4} {i : Nat} {x : Nat} (d : decode M.2.1 pc = .ok (.aload_n k, 1)) (hp : pc + 1 = pc') (hl : l[i]? = some ((k : Nat), .ref x)) (kk : q_G X M Q ph σ pc' l (.ref x :: st) E) : q_G X M Q ph σ pc l st E := by
  subst hp
  exact fun hE p e s m args below meth c H locs ls C hP hz h6 hT hS h => lv_aload_n C.1 C.2.1 d rfl (lv_at h i hl) (kk hE p e s m args below meth c H locs ls C hP hz h6 hT hS h)
theorem gq_lload_n {k : Fin 4} {i : Nat} {x : Int64} (d : decode M.2.1 pc = .ok (.lload_n k, 1)) (hp : pc + 1 = pc') (hl : l[i]? = some ((k : Nat), .long x)) (kk : q_G X M Q ph σ pc' l (.long x :: st) E) : q_G X M Q ph σ pc l st E := by
  subst hp
  exact fun hE p e s m args below meth c H locs ls C hP hz h6 hT hS h => lv_lload_n C.1 C.2.1 d rfl (lv_at h i hl) (kk hE p e s m args below meth c H locs ls C hP hz h6 hT hS h)
theorem gq_istore_n {k : Fin 4} {x : Int32} (d : decode M.2.1 pc = .ok (.istore_n k, 1)) (hp : pc + 1 = pc') (hn : (k : Nat) < M.2.2.1) (hl : ((k : Nat), Value.int x) :: l.filter (fun q => !(q.1 == (k : Nat)) && !(q.1 + 1 == (k : Nat) && q.2.category == 2)) = l') (kk : q_G X M Q ph σ pc' l' st E) : q_G X M Q ph σ pc l (Value.int x :: st) E := by
  subst hp
  exact fun hE p e s m args below meth c H locs ls C hP hz h6 hT hS h => lv_istore_n C.1 C.2.1 d rfl h hn hl (fun ls' h' => kk hE p e s m args below meth c H locs ls' C hP hz h6 hT hS h')
theorem gq_istore {i : Nat} {x : Int32} (d : decode M.2.1 pc = .ok (.istore i, 2)) (hp : pc + 2 = pc') (hn : i < M.2.2.1) (hl : (i, Value.int x) :: l.filter (fun q => !(q.1 == i) && !(q.1 + 1 == i && q.2.category == 2)) = l') (kk : q_G X M Q ph σ pc' l' st E) : q_G X M Q ph σ pc l (Value.int x :: st) E := by
  subst hp
  exact fun hE p e s m args below meth c H locs ls C hP hz h6 hT hS h => lv_istore C.1 C.2.1 d h hn hl (fun ls' h' => kk hE p e s m args below meth c H locs ls' C hP hz h6 hT hS h')
theorem gq_astore_n {k : Fin 4} {x : Nat} (d : decode M.2.1 pc = .ok (.astore_n k, 1)) (hp : pc + 1 = pc') (hn : (k : Nat) < M.2.2.1) (hl : ((k : Nat), Value.ref x) :: l.filter (fun q => !(q.1 == (k : Nat)) && !(q.1 + 1 == (k : Nat) && q.2.category == 2)) = l') (kk : q_G X M Q ph σ pc' l' st E) : q_G X M Q ph σ pc l (Value.ref x :: st) E := by
  subst hp
  exact fun hE p e s m args below meth c H locs ls C hP hz h6 hT hS h => lv_astore_n C.1 C.2.1 d rfl h hn hl (fun ls' h' => kk hE p e s m args below meth c H locs ls' C hP hz h6 hT hS h')
theorem gq_iinc {i j : Nat} {n : Int} {x v : Int32} (d : decode M.2.1 pc = .ok (.iinc i n, 3)) (hp : pc + 3 = pc') (hk : l[j]? = some (i, .int x)) (hv : x + Int32.ofInt n = v) (hn : i < M.2.2.1) (hl : (i, Value.int v) :: l.filter (fun q => !(q.1 == i) && !(q.1 + 1 == i && q.2.category == 2)) = l') (kk : q_G X M Q ph σ pc' l' st E) : q_G X M Q ph σ pc l st E := by
  subst hp
  exact fun hE p e s m args below meth c H locs ls C hP hz h6 hT hS h => lv_iinc C.1 C.2.1 d h hk hv hn hl (fun ls' h' => kk hE p e s m args below meth c H locs ls' C hP hz h6 hT hS h')
theorem gq_iadd {x y : Int32} (d : decode M.2.1 pc = .ok (.iadd, 1)) (hp : pc + 1 = pc') (k : q_G X M Q ph σ pc' l (.int (x + y) :: st) E) : q_G X M Q ph σ pc l (.int y :: .int x :: st) E := by
  subst hp
  exact fun hE p e s m args below meth c H locs ls C hP hz h6 hT hS h => lv_iadd C.1 C.2.1 d (k hE p e s m args below meth c H locs ls C hP hz h6 hT hS h)
theorem gq_isub {x y : Int32} (d : decode M.2.1 pc = .ok (.isub, 1)) (hp : pc + 1 = pc') (k : q_G X M Q ph σ pc' l (.int (x - y) :: st) E) : q_G X M Q ph σ pc l (.int y :: .int x :: st) E := by
  subst hp
  exact fun hE p e s m args below meth c H locs ls C hP hz h6 hT hS h => lv_isub C.1 C.2.1 d (k hE p e s m args below meth c H locs ls C hP hz h6 hT hS h)
theorem gq_imul {x y : Int32} (d : decode M.2.1 pc = .ok (.imul, 1)) (hp : pc + 1 = pc') (k : q_G X M Q ph σ pc' l (.int (x * y) :: st) E) : q_G X M Q ph σ pc l (.int y :: .int x :: st) E := by
  subst hp
  exact fun hE p e s m args below meth c H locs ls C hP hz h6 hT hS h => lv_imul C.1 C.2.1 d (k hE p e s m args below meth c H locs ls C hP hz h6 hT hS h)
theorem gq_iand {x y : Int32} (d : decode M.2.1 pc = .ok (.iand, 1)) (hp : pc + 1 = pc') (k : q_G X M Q ph σ pc' l (.int (x &&& y) :: st) E) : q_G X M Q ph σ pc l (.int y :: .int x :: st) E := by
  subst hp
  exact fun hE p e s m args below meth c H locs ls C hP hz h6 hT hS h => lv_iand C.1 C.2.1 d (k hE p e s m args below meth c H locs ls C hP hz h6 hT hS h)
theorem gq_ior {x y : Int32} (d : decode M.2.1 pc = .ok (.ior, 1)) (hp : pc + 1 = pc') (k : q_G X M Q ph σ pc' l (.int (x ||| y) :: st) E) : q_G X M Q ph σ pc l (.int y :: .int x :: st) E := by
  subst hp
  exact fun hE p e s m args below meth c H locs ls C hP hz h6 hT hS h => lv_ior C.1 C.2.1 d (k hE p e s m args below meth c H locs ls C hP hz h6 hT hS h)
theorem gq_ixor {x y : Int32} (d : decode M.2.1 pc = .ok (.ixor, 1)) (hp : pc + 1 = pc') (k : q_G X M Q ph σ pc' l (.int (x ^^^ y) :: st) E) : q_G X M Q ph σ pc l (.int y :: .int x :: st) E := by
  subst hp
  exact fun hE p e s m args below meth c H locs ls C hP hz h6 hT hS h => lv_ixor C.1 C.2.1 d (k hE p e s m args below meth c H locs ls C hP hz h6 hT hS h)
theorem gq_ishl {x y : Int32} (d : decode M.2.1 pc = .ok (.ishl, 1)) (hp : pc + 1 = pc') (k : q_G X M Q ph σ pc' l (.int (x <<< (y &&& 31)) :: st) E) : q_G X M Q ph σ pc l (.int y :: .int x :: st) E := by
  subst hp
  exact fun hE p e s m args below meth c H locs ls C hP hz h6 hT hS h => lv_ishl C.1 C.2.1 d (k hE p e s m args below meth c H locs ls C hP hz h6 hT hS h)
theorem gq_ishr {x y : Int32} (d : decode M.2.1 pc = .ok (.ishr, 1)) (hp : pc + 1 = pc') (k : q_G X M Q ph σ pc' l (.int (x >>> (y &&& 31)) :: st) E) : q_G X M Q ph σ pc l (.int y :: .int x :: st) E := by
  subst hp
  exact fun hE p e s m args below meth c H locs ls C hP hz h6 hT hS h => lv_ishr C.1 C.2.1 d (k hE p e s m args below meth c H locs ls C hP hz h6 hT hS h)
theorem gq_ineg {x : Int32} (d : decode M.2.1 pc = .ok (.ineg, 1)) (hp : pc + 1 = pc') (k : q_G X M Q ph σ pc' l (.int (-x) :: st) E) : q_G X M Q ph σ pc l (.int x :: st) E := by
  subst hp
  exact fun hE p e s m args below meth c H locs ls C hP hz h6 hT hS h => lv_ineg C.1 C.2.1 d (k hE p e s m args below meth c H locs ls C hP hz h6 hT hS h)
theorem gq_idiv {x y : Int32} (d : decode M.2.1 pc = .ok (.idiv, 1)) (hp : pc + 1 = pc') (hne : ¬ y = 0) (k : q_G X M Q ph σ pc' l (.int (x / y) :: st) E) : q_G X M Q ph σ pc l (.int y :: .int x :: st) E := by
  subst hp
  exact fun hE p e s m args below meth c H locs ls C hP hz h6 hT hS h => lv_idiv C.1 C.2.1 d hne (k hE p e s m args below meth c H locs ls C hP hz h6 hT hS h)
theorem gq_irem {x y : Int32} (d : decode M.2.1 pc = .ok (.irem, 1)) (hp : pc + 1 = pc') (hne : ¬ y = 0) (k : q_G X M Q ph σ pc' l (.int (x - x / y * y) :: st) E) : q_G X M Q ph σ pc l (.int y :: .int x :: st) E := by
  subst hp
  exact fun hE p e s m args below meth c H locs ls C hP hz h6 hT hS h => lv_irem C.1 C.2.1 d hne (k hE p e s m args below meth c H locs ls C hP hz h6 hT hS h)
theorem gq_i2l {x : Int32} (d : decode M.2.1 pc = .ok (.i2l, 1)) (hp : pc + 1 = pc') (k : q_G X M Q ph σ pc' l (.long x.toInt64 :: st) E) : q_G X M Q ph σ pc l (.int x :: st) E := by
  subst hp
  exact fun hE p e s m args below meth c H locs ls C hP hz h6 hT hS h => lv_i2l C.1 C.2.1 d rfl (k hE p e s m args below meth c H locs ls C hP hz h6 hT hS h)
theorem gq_l2i {x : Int64} (d : decode M.2.1 pc = .ok (.l2i, 1)) (hp : pc + 1 = pc') (k : q_G X M Q ph σ pc' l (.int x.toInt32 :: st) E) : q_G X M Q ph σ pc l (.long x :: st) E := by
  subst hp
  exact fun hE p e s m args below meth c H locs ls C hP hz h6 hT hS h => lv_l2i C.1 C.2.1 d rfl (k hE p e s m args below meth c H locs ls C hP hz h6 hT hS h)
theorem gq_land {x y : Int64} (d : decode M.2.1 pc = .ok (.land, 1)) (hp : pc + 1 = pc') (k : q_G X M Q ph σ pc' l (.long (x &&& y) :: st) E) : q_G X M Q ph σ pc l (.long y :: .long x :: st) E := by
  subst hp
  exact fun hE p e s m args below meth c H locs ls C hP hz h6 hT hS h => lv_land C.1 C.2.1 d (k hE p e s m args below meth c H locs ls C hP hz h6 hT hS h)
theorem gq_lor {x y : Int64} (d : decode M.2.1 pc = .ok (.lor, 1)) (hp : pc + 1 = pc') (k : q_G X M Q ph σ pc' l (.long (x ||| y) :: st) E) : q_G X M Q ph σ pc l (.long y :: .long x :: st) E := by
  subst hp
  exact fun hE p e s m args below meth c H locs ls C hP hz h6 hT hS h => lv_lor C.1 C.2.1 d (k hE p e s m args below meth c H locs ls C hP hz h6 hT hS h)
theorem gq_lushr {x : Int64} {y : Int32} (d : decode M.2.1 pc = .ok (.lushr, 1)) (hp : pc + 1 = pc') (k : q_G X M Q ph σ pc' l (.long ((x.toUInt64 >>> (y.toInt64.toUInt64 &&& Int64.toUInt64 63)).toInt64) :: st) E) : q_G X M Q ph σ pc l (.int y :: .long x :: st) E := by
  subst hp
  exact fun hE p e s m args below meth c H locs ls C hP hz h6 hT hS h => lv_lushr C.1 C.2.1 d rfl (k hE p e s m args below meth c H locs ls C hP hz h6 hT hS h)
theorem gq_lshl {x : Int64} {y : Int32} (d : decode M.2.1 pc = .ok (.lshl, 1)) (hp : pc + 1 = pc') (k : q_G X M Q ph σ pc' l (.long (x <<< (y.toInt64 &&& 63)) :: st) E) : q_G X M Q ph σ pc l (.int y :: .long x :: st) E := by
  subst hp
  exact fun hE p e s m args below meth c H locs ls C hP hz h6 hT hS h => lv_lshl C.1 C.2.1 d rfl (k hE p e s m args below meth c H locs ls C hP hz h6 hT hS h)
theorem gq_lshr {x : Int64} {y : Int32} (d : decode M.2.1 pc = .ok (.lshr, 1)) (hp : pc + 1 = pc') (k : q_G X M Q ph σ pc' l (.long (x >>> (y.toInt64 &&& 63)) :: st) E) : q_G X M Q ph σ pc l (.int y :: .long x :: st) E := by
  subst hp
  exact fun hE p e s m args below meth c H locs ls C hP hz h6 hT hS h => lv_lshr C.1 C.2.1 d rfl (k hE p e s m args below meth c H locs ls C hP hz h6 hT hS h)
theorem gq_dup {v : Value} (d : decode M.2.1 pc = .ok (.dup, 1)) (hp : pc + 1 = pc') (hv : v.category = 1) (k : q_G X M Q ph σ pc' l (v :: v :: st) E) : q_G X M Q ph σ pc l (v :: st) E := by
  subst hp
  exact fun hE p e s m args below meth c H locs ls C hP hz h6 hT hS h => lv_dup C.1 C.2.1 d hv (k hE p e s m args below meth c H locs ls C hP hz h6 hT hS h)
theorem gq_pop {v : Value} (d : decode M.2.1 pc = .ok (.pop, 1)) (hp : pc + 1 = pc') (hv : v.category = 1) (k : q_G X M Q ph σ pc' l st E) : q_G X M Q ph σ pc l (v :: st) E := by
  subst hp
  exact fun hE p e s m args below meth c H locs ls C hP hz h6 hT hS h => lv_pop C.1 C.2.1 d hv (k hE p e s m args below meth c H locs ls C hP hz h6 hT hS h)
theorem gq_dup2 {v w : Value} (d : decode M.2.1 pc = .ok (.dup2, 1)) (hp : pc + 1 = pc') (hv : v.category = 1) (hw : w.category = 1) (k : q_G X M Q ph σ pc' l (v :: w :: v :: w :: st) E) : q_G X M Q ph σ pc l (v :: w :: st) E := by
  subst hp
  exact fun hE p e s m args below meth c H locs ls C hP hz h6 hT hS h => lv_dup2_11 C.1 C.2.1 d hv hw (k hE p e s m args below meth c H locs ls C hP hz h6 hT hS h)
theorem gq_dup_x1 {v w : Value} (d : decode M.2.1 pc = .ok (.dup_x1, 1)) (hp : pc + 1 = pc') (hv : v.category = 1) (hw : w.category = 1) (k : q_G X M Q ph σ pc' l (v :: w :: v :: st) E) : q_G X M Q ph σ pc l (v :: w :: st) E := by
  subst hp
  exact fun hE p e s m args below meth c H locs ls C hP hz h6 hT hS h => lv_dup_x1 C.1 C.2.1 d hv hw (k hE p e s m args below meth c H locs ls C hP hz h6 hT hS h)
theorem gq_goto {off : Int} (d : decode M.2.1 pc = .ok (.goto off, 3)) (hp : (pc : Int) + off = (pc' : Int)) (k : q_G X M Q ph σ pc' l st E) : q_G X M Q ph σ pc l st E :=
  fun hE p e s m args below meth c H locs ls C hP hz h6 hT hS h => lv_goto C.1 C.2.1 d hp (k hE p e s m args below meth c H locs ls C hP hz h6 hT hS h)
section QB
variable {off : Int} {tgt : Nat} {x y : Int32}
theorem gq_if_eq (d : decode M.2.1 pc = .ok (.ifCond .eq off, 3)) (hp : pc + 3 = pc') (ht : (pc : Int) + off = (tgt : Int)) (k1 : x = 0 → q_G X M Q ph σ tgt l st E1) (k2 : ¬ x = 0 → q_G X M Q ph σ pc' l st E2) : q_G X M Q ph σ pc l (.int x :: st) (if x = 0 then E1 else E2) := by
  subst hp
  exact fun hE p e s m args below meth c H locs ls C hP hz h6 hT hS h => lv_if_eq C.1 C.2.1 d ht (fun hc => by have hE2 := hE; rw [if_pos hc] at hE2; rw [if_pos hc]; exact k1 hc hE2 p e s m args below meth c H locs ls C hP hz h6 hT hS h) (fun hc => by have hE2 := hE; rw [if_neg hc] at hE2; rw [if_neg hc]; exact k2 hc hE2 p e s m args below meth c H locs ls C hP hz h6 hT hS h)
theorem gq_if_ne (d : decode M.2.1 pc = .ok (.ifCond .ne off, 3)) (hp : pc + 3 = pc') (ht : (pc : Int) + off = (tgt : Int)) (k1 : x = 0 → q_G X M Q ph σ pc' l st E1) (k2 : ¬ x = 0 → q_G X M Q ph σ tgt l st E2) : q_G X M Q ph σ pc l (.int x :: st) (if x = 0 then E1 else E2) := by
  subst hp
  exact fun hE p e s m args below meth c H locs ls C hP hz h6 hT hS h => lv_if_ne C.1 C.2.1 d ht (fun hc => by have hE2 := hE; rw [if_neg hc] at hE2; rw [if_neg hc]; exact k2 hc hE2 p e s m args below meth c H locs ls C hP hz h6 hT hS h) (fun hc => by have hE2 := hE; rw [if_pos hc] at hE2; rw [if_pos hc]; exact k1 hc hE2 p e s m args below meth c H locs ls C hP hz h6 hT hS h)
theorem gq_if_lt (d : decode M.2.1 pc = .ok (.ifCond .lt off, 3)) (hp : pc + 3 = pc') (ht : (pc : Int) + off = (tgt : Int)) (k1 : x < 0 → q_G X M Q ph σ tgt l st E1) (k2 : ¬ x < 0 → q_G X M Q ph σ pc' l st E2) : q_G X M Q ph σ pc l (.int x :: st) (if x < 0 then E1 else E2) := by
  subst hp
  exact fun hE p e s m args below meth c H locs ls C hP hz h6 hT hS h => lv_if_lt C.1 C.2.1 d ht (fun hc => by have hE2 := hE; rw [if_pos hc] at hE2; rw [if_pos hc]; exact k1 hc hE2 p e s m args below meth c H locs ls C hP hz h6 hT hS h) (fun hc => by have hE2 := hE; rw [if_neg hc] at hE2; rw [if_neg hc]; exact k2 hc hE2 p e s m args below meth c H locs ls C hP hz h6 hT hS h)
theorem gq_if_ge (d : decode M.2.1 pc = .ok (.ifCond .ge off, 3)) (hp : pc + 3 = pc') (ht : (pc : Int) + off = (tgt : Int)) (k1 : 0 ≤ x → q_G X M Q ph σ tgt l st E1) (k2 : ¬ 0 ≤ x → q_G X M Q ph σ pc' l st E2) : q_G X M Q ph σ pc l (.int x :: st) (if 0 ≤ x then E1 else E2) := by
  subst hp
  exact fun hE p e s m args below meth c H locs ls C hP hz h6 hT hS h => lv_if_ge C.1 C.2.1 d ht (fun hc => by have hE2 := hE; rw [if_pos hc] at hE2; rw [if_pos hc]; exact k1 hc hE2 p e s m args below meth c H locs ls C hP hz h6 hT hS h) (fun hc => by have hE2 := hE; rw [if_neg hc] at hE2; rw [if_neg hc]; exact k2 hc hE2 p e s m args below meth c H locs ls C hP hz h6 hT hS h)
theorem gq_if_gt (d : decode M.2.1 pc = .ok (.ifCond .gt off, 3)) (hp : pc + 3 = pc') (ht : (pc : Int) + off = (tgt : Int)) (k1 : 0 < x → q_G X M Q ph σ tgt l st E1) (k2 : ¬ 0 < x → q_G X M Q ph σ pc' l st E2) : q_G X M Q ph σ pc l (.int x :: st) (if 0 < x then E1 else E2) := by
  subst hp
  exact fun hE p e s m args below meth c H locs ls C hP hz h6 hT hS h => lv_if_gt C.1 C.2.1 d ht (fun hc => by have hE2 := hE; rw [if_pos hc] at hE2; rw [if_pos hc]; exact k1 hc hE2 p e s m args below meth c H locs ls C hP hz h6 hT hS h) (fun hc => by have hE2 := hE; rw [if_neg hc] at hE2; rw [if_neg hc]; exact k2 hc hE2 p e s m args below meth c H locs ls C hP hz h6 hT hS h)
theorem gq_if_le (d : decode M.2.1 pc = .ok (.ifCond .le off, 3)) (hp : pc + 3 = pc') (ht : (pc : Int) + off = (tgt : Int)) (k1 : x ≤ 0 → q_G X M Q ph σ tgt l st E1) (k2 : ¬ x ≤ 0 → q_G X M Q ph σ pc' l st E2) : q_G X M Q ph σ pc l (.int x :: st) (if x ≤ 0 then E1 else E2) := by
  subst hp
  exact fun hE p e s m args below meth c H locs ls C hP hz h6 hT hS h => lv_if_le C.1 C.2.1 d ht (fun hc => by have hE2 := hE; rw [if_pos hc] at hE2; rw [if_pos hc]; exact k1 hc hE2 p e s m args below meth c H locs ls C hP hz h6 hT hS h) (fun hc => by have hE2 := hE; rw [if_neg hc] at hE2; rw [if_neg hc]; exact k2 hc hE2 p e s m args below meth c H locs ls C hP hz h6 hT hS h)
theorem gq_icmp_eq (d : decode M.2.1 pc = .ok (.if_icmp .eq off, 3)) (hp : pc + 3 = pc') (ht : (pc : Int) + off = (tgt : Int)) (k1 : x = y → q_G X M Q ph σ tgt l st E1) (k2 : ¬ x = y → q_G X M Q ph σ pc' l st E2) : q_G X M Q ph σ pc l (.int y :: .int x :: st) (if x = y then E1 else E2) := by
  subst hp
  exact fun hE p e s m args below meth c H locs ls C hP hz h6 hT hS h => lv_icmp_eq C.1 C.2.1 d ht (fun hc => by have hE2 := hE; rw [if_pos hc] at hE2; rw [if_pos hc]; exact k1 hc hE2 p e s m args below meth c H locs ls C hP hz h6 hT hS h) (fun hc => by have hE2 := hE; rw [if_neg hc] at hE2; rw [if_neg hc]; exact k2 hc hE2 p e s m args below meth c H locs ls C hP hz h6 hT hS h)
theorem gq_icmp_ne (d : decode M.2.1 pc = .ok (.if_icmp .ne off, 3)) (hp : pc + 3 = pc') (ht : (pc : Int) + off = (tgt : Int)) (k1 : x = y → q_G X M Q ph σ pc' l st E1) (k2 : ¬ x = y → q_G X M Q ph σ tgt l st E2) : q_G X M Q ph σ pc l (.int y :: .int x :: st) (if x = y then E1 else E2) := by
  subst hp
  exact fun hE p e s m args below meth c H locs ls C hP hz h6 hT hS h => lv_icmp_ne C.1 C.2.1 d ht (fun hc => by have hE2 := hE; rw [if_neg hc] at hE2; rw [if_neg hc]; exact k2 hc hE2 p e s m args below meth c H locs ls C hP hz h6 hT hS h) (fun hc => by have hE2 := hE; rw [if_pos hc] at hE2; rw [if_pos hc]; exact k1 hc hE2 p e s m args below meth c H locs ls C hP hz h6 hT hS h)
theorem gq_icmp_lt (d : decode M.2.1 pc = .ok (.if_icmp .lt off, 3)) (hp : pc + 3 = pc') (ht : (pc : Int) + off = (tgt : Int)) (k1 : x < y → q_G X M Q ph σ tgt l st E1) (k2 : ¬ x < y → q_G X M Q ph σ pc' l st E2) : q_G X M Q ph σ pc l (.int y :: .int x :: st) (if x < y then E1 else E2) := by
  subst hp
  exact fun hE p e s m args below meth c H locs ls C hP hz h6 hT hS h => lv_icmp_lt C.1 C.2.1 d ht (fun hc => by have hE2 := hE; rw [if_pos hc] at hE2; rw [if_pos hc]; exact k1 hc hE2 p e s m args below meth c H locs ls C hP hz h6 hT hS h) (fun hc => by have hE2 := hE; rw [if_neg hc] at hE2; rw [if_neg hc]; exact k2 hc hE2 p e s m args below meth c H locs ls C hP hz h6 hT hS h)
theorem gq_icmp_ge (d : decode M.2.1 pc = .ok (.if_icmp .ge off, 3)) (hp : pc + 3 = pc') (ht : (pc : Int) + off = (tgt : Int)) (k1 : y ≤ x → q_G X M Q ph σ tgt l st E1) (k2 : ¬ y ≤ x → q_G X M Q ph σ pc' l st E2) : q_G X M Q ph σ pc l (.int y :: .int x :: st) (if y ≤ x then E1 else E2) := by
  subst hp
  exact fun hE p e s m args below meth c H locs ls C hP hz h6 hT hS h => lv_icmp_ge C.1 C.2.1 d ht (fun hc => by have hE2 := hE; rw [if_pos hc] at hE2; rw [if_pos hc]; exact k1 hc hE2 p e s m args below meth c H locs ls C hP hz h6 hT hS h) (fun hc => by have hE2 := hE; rw [if_neg hc] at hE2; rw [if_neg hc]; exact k2 hc hE2 p e s m args below meth c H locs ls C hP hz h6 hT hS h)
theorem gq_icmp_gt (d : decode M.2.1 pc = .ok (.if_icmp .gt off, 3)) (hp : pc + 3 = pc') (ht : (pc : Int) + off = (tgt : Int)) (k1 : y < x → q_G X M Q ph σ tgt l st E1) (k2 : ¬ y < x → q_G X M Q ph σ pc' l st E2) : q_G X M Q ph σ pc l (.int y :: .int x :: st) (if y < x then E1 else E2) := by
  subst hp
  exact fun hE p e s m args below meth c H locs ls C hP hz h6 hT hS h => lv_icmp_gt C.1 C.2.1 d ht (fun hc => by have hE2 := hE; rw [if_pos hc] at hE2; rw [if_pos hc]; exact k1 hc hE2 p e s m args below meth c H locs ls C hP hz h6 hT hS h) (fun hc => by have hE2 := hE; rw [if_neg hc] at hE2; rw [if_neg hc]; exact k2 hc hE2 p e s m args below meth c H locs ls C hP hz h6 hT hS h)
theorem gq_icmp_le (d : decode M.2.1 pc = .ok (.if_icmp .le off, 3)) (hp : pc + 3 = pc') (ht : (pc : Int) + off = (tgt : Int)) (k1 : x ≤ y → q_G X M Q ph σ tgt l st E1) (k2 : ¬ x ≤ y → q_G X M Q ph σ pc' l st E2) : q_G X M Q ph σ pc l (.int y :: .int x :: st) (if x ≤ y then E1 else E2) := by
  subst hp
  exact fun hE p e s m args below meth c H locs ls C hP hz h6 hT hS h => lv_icmp_le C.1 C.2.1 d ht (fun hc => by have hE2 := hE; rw [if_pos hc] at hE2; rw [if_pos hc]; exact k1 hc hE2 p e s m args below meth c H locs ls C hP hz h6 hT hS h) (fun hc => by have hE2 := hE; rw [if_neg hc] at hE2; rw [if_neg hc]; exact k2 hc hE2 p e s m args below meth c H locs ls C hP hz h6 hT hS h)
end QB
theorem gq_tswIn {dflt lo hi off : Int} {offs : Array Int} {len : Nat} {x k : Int32} {tgt : Nat} (hx : x = k) (d : decode M.2.1 pc = .ok (.tableswitch dflt lo hi offs, len)) (h1 : ¬ k.toInt < lo) (h2 : ¬ hi < k.toInt) (ho : offs[(k.toInt - lo).toNat]? = some off) (ht : (pc : Int) + off = (tgt : Int)) (kk : q_G X M Q ph σ tgt l st E) : q_G X M Q ph σ pc l (.int x :: st) E := by
  subst hx
  exact fun hE p e s m args below meth c H locs ls C hP hz h6 hT hS h => lv_tableIn C.1 C.2.1 d h1 h2 ho ht (kk hE p e s m args below meth c H locs ls C hP hz h6 hT hS h)
theorem gq_tswLo {dflt lo hi : Int} {offs : Array Int} {len : Nat} {x k : Int32} {tgt : Nat} (hx : x < k) (d : decode M.2.1 pc = .ok (.tableswitch dflt lo hi offs, len)) (h1 : k.toInt = lo) (ht : (pc : Int) + dflt = (tgt : Int)) (kk : q_G X M Q ph σ tgt l st E) : q_G X M Q ph σ pc l (.int x :: st) E := by
  have h3 : x.toInt < lo := by rw [← h1]; exact Int32.lt_iff_toInt_lt.mp hx
  exact fun hE p e s m args below meth c H locs ls C hP hz h6 hT hS h => lv_tableOut C.1 C.2.1 d (Or.inl h3) ht (kk hE p e s m args below meth c H locs ls C hP hz h6 hT hS h)
theorem gq_tswHi {dflt lo hi : Int} {offs : Array Int} {len : Nat} {x k : Int32} {tgt : Nat} (hx : k < x) (d : decode M.2.1 pc = .ok (.tableswitch dflt lo hi offs, len)) (h1 : k.toInt = hi) (ht : (pc : Int) + dflt = (tgt : Int)) (kk : q_G X M Q ph σ tgt l st E) : q_G X M Q ph σ pc l (.int x :: st) E := by
  have h3 : hi < x.toInt := by rw [← h1]; exact Int32.lt_iff_toInt_lt.mp hx
  exact fun hE p e s m args below meth c H locs ls C hP hz h6 hT hS h => lv_tableOut C.1 C.2.1 d (Or.inr h3) ht (kk hE p e s m args below meth c H locs ls C hP hz h6 hT hS h)
end QR
end
section
/-! THE LAYER's RULES: fields, arrays, statics, new cells -/
def q_FL (own : String) (idx ci : Nat) (C : String) (T : u_T) (N k : Nat) : Prop := Cond.fieldLink own idx (T k).1 (T k).2.1 (T k).2.2.1 ∈ lw_gd ∧ k < N ∧ vwCl[ci]? = some (C, T, N) ∧ ∀ w ∈ u_ws C T N, w ∈ lw_gd
def q_PL (C : String) (T : u_T) (N k : Nat) (ty : FieldType) (fin : Bool) : Prop := (T k).2.2.2 = fin ∧ parseFieldDescriptor (T k).2.2.1 = some ty ∧ (∃ ty0 : Nat → FieldType, ∀ k, k < N → parseFieldDescriptor (T k).2.2.1 = some (ty0 k)) ∧ ∀ a, a < N → ∀ b, b < N → a ≠ b → (T a).2.1 ≠ (T b).2.1
def q_RA (X : q_Cx) (Λ : q_Lay) (a n : Nat) : Prop := Λ[a]? = some (.inl (false, n)) ∨ (100 ≤ a ∧ a < 105 ∧ n = 15) ∨ (a = 105 ∧ n = xn X)
abbrev q_oob (i : Int32) (n : Nat) : Prop := i < 0 ∨ n ≤ i.toNatClampNeg
section QS
variable {p : Program} {l : Launch} {e : Env} {R : Room} {s : State} {m : MethodId} {args : Array Value} {below : List Frame} {meth : Method} {c : Code} {H : Heap} {locs : List Loc} {cells slots : Nat} {Q : State → Prop}
variable {cc : ByteArray} {pc : Nat} {ls : Array Slot} {rest : List Value} {D : va_G} {cl : List vw_C} {A : Nat → Prop} {a : Nat} {ws : va_W} {tys : List (ClassId × FieldType)} {H0 : Heap}
/-- va_put, va_putF, va_iast, va_zast with the heap's size told -/
theorem q_put (hexec : p.tables.exec = Jvm.exec) (hb : c.code = cc) {own C : String} {T : u_T} {N ci index : Nat} {Ts : List Cond} (hts : ∀ w ∈ Ts, w.before args s = true) (hin : ∀ w ∈ u_ws C T N, w ∈ Ts) (ty0 : Nat → FieldType) (hty : ∀ k, k < N → parseFieldDescriptor (T k).2.2.1 = some (ty0 k)) (hnm : ∀ a, a < N → ∀ b, b < N → a ≠ b → (T a).2.1 ≠ (T b).2.1) (hown : s.vm.findClass own = some m.cls) (hK : va_K D cl tys s) (hP : va_P D cl ws H) (hD : va_D A ws) (hS0 : va_S A H0 H locs) (q0 : Nat) {fs : List Value} (he : ws[q0]? = some (a, .inr (ci, fs))) (hc : cl[ci]? = some (C, T, N)) (k : Nat) (hk : k < N) (hlink : (Cond.fieldLink own index (T k).1 (T k).2.1 (T k).2.2.1).before args s = true) (hfin : (T k).2.2.2 = false) {ty : FieldType} {v : Value} (hd : parseFieldDescriptor (T k).2.2.1 = some ty) (hn : narrow ty v = v) (hfit : fits ty v = true) (hl : k < fs.length)
    (hdg : decode cc pc = .ok (.putfield index, 3)) (kk : ∀ (H1 : Heap) (locs1 : List Loc), H1.size = H.size → va_P D cl (ws.set q0 (a, .inr (ci, fs.set k v))) H1 → va_S A H0 H1 locs1 → W p l e R s m args below meth c H1 locs1 cells slots Q (F0 m (pc + 3) ls rest)) : W p l e R s m args below meth c H locs cells slots Q (F0 m pc ls (v :: .ref a :: rest)) := by
  have hap := va_apart (own := own) hts hin ty0 hty hnm hK hc
  obtain ⟨r, h1, cell, q1, q2, q3, q4⟩ := hP q0 _ he
  have hr : r = (C, T, N) := Option.some.inj (h1.symm.trans hc)
  subst hr
  obtain ⟨hS, hfc, kC, hkC, hkind⟩ := hK.1 ci _ hc
  obtain ⟨cf, kf, fi, f, hi, hsl⟩ := hS k hk
  have hlay := hts _ (hin _ (u_in_lay hk))
  unfold u_lay at hlay
  rw [if_neg (by rw [hfin]; decide)] at hlay
  have hst := (u_facts hfc hkC (u_lays hts hin hk) hi).1
  have h6 := u_store hfc hkC hkind hlay hi hd hn hfit
  refine W.putK hexec hb (f := f) ⟨hown, hlink, ⟨_, _, _, hi⟩, hst⟩ (by rw [q2]; exact h6) q1 q3 (by rw [hsl]; exact k2_hasslot (q4 k hk)) rfl rfl hdg fun H' e1 e2 e3 => ?_
  rw [hsl] at e1 ⊢
  exact kk H' _ e2 (hP.set hD he ⟨_, hc, t_OB.to (V := updV (vp_V fs) k v) ⟨_, e1, q2, q3, t_set q4 hap hk v⟩ (fun j _ => vp_updV_set hl v j)⟩ e3) (hS0.put e2 e3 (hD.2 q0 _ he))
theorem q_putF (hexec : p.tables.exec = Jvm.exec) (hb : c.code = cc) {own C : String} {T : u_T} {N ci index : Nat} {Ts : List Cond} (hts : ∀ w ∈ Ts, w.before args s = true) (hin : ∀ w ∈ u_ws C T N, w ∈ Ts) (ty0 : Nat → FieldType) (hty : ∀ k, k < N → parseFieldDescriptor (T k).2.2.1 = some (ty0 k)) (hnm : ∀ a, a < N → ∀ b, b < N → a ≠ b → (T a).2.1 ≠ (T b).2.1) (hown : s.vm.findClass own = some m.cls) (hK : va_K D cl tys s) (hP : va_P D cl ws H) (hD : va_D A ws) (hS0 : va_S A H0 H locs) (q0 : Nat) {fs : List Value} (he : ws[q0]? = some (a, .inr (ci, fs))) (hc : cl[ci]? = some (C, T, N)) (k : Nat) (hk : k < N) (hlink : (Cond.fieldLink own index (T k).1 (T k).2.1 (T k).2.2.1).before args s = true) (hfin : (T k).2.2.2 = true) (hin2 : meth.name = "<init>") (hdecl : (T k).1 = own) {ty : FieldType} {v : Value} (hd : parseFieldDescriptor (T k).2.2.1 = some ty) (hn : narrow ty v = v) (hfit : fits ty v = true) (hl : k < fs.length)
    (hdg : decode cc pc = .ok (.putfield index, 3)) (kk : ∀ (H1 : Heap) (locs1 : List Loc), H1.size = H.size → va_P D cl (ws.set q0 (a, .inr (ci, fs.set k v))) H1 → va_S A H0 H1 locs1 → W p l e R s m args below meth c H1 locs1 cells slots Q (F0 m (pc + 3) ls rest)) : W p l e R s m args below meth c H locs cells slots Q (F0 m pc ls (v :: .ref a :: rest)) := by
  have hap := va_apart (own := own) hts hin ty0 hty hnm hK hc
  obtain ⟨r, h1, cell, q1, q2, q3, q4⟩ := hP q0 _ he
  have hr : r = (C, T, N) := Option.some.inj (h1.symm.trans hc)
  subst hr
  obtain ⟨hS, hfc, kC, hkC, hkind⟩ := hK.1 ci _ hc
  obtain ⟨cf, kf, fi, f, hi, hsl⟩ := hS k hk
  have hlay := hts _ (hin _ (u_in_lay hk))
  unfold u_lay at hlay
  rw [if_pos hfin] at hlay
  have hst := (u_facts hfc hkC (u_lays hts hin hk) hi).1
  have hcf : m.cls = cf := by
    obtain ⟨_, _, c', _, _, _, -, -, hf', -, -, -, hown2, -⟩ := Cond.laysFinal_spec hlay
    have e1 : c' = cf := by have := hi.symm.trans hf'; simp at this; exact this.1.symm
    rw [hdecl] at hown2
    rw [← e1]; exact Option.some.inj (hown.symm.trans hown2)
  have h6 := u_fits hfc hkC hkind (Or.inr hlay) hi hd hn hfit
  refine W.putFinK hexec hb hown hlink hi hst hcf hin2 (by rw [q2]; exact h6) q1 q3 (by rw [hsl]; exact k2_hasslot (q4 k hk)) rfl rfl hdg fun H' e1 e2 e3 => ?_
  rw [hsl] at e1 ⊢
  exact kk H' _ e2 (hP.set hD he ⟨_, hc, t_OB.to (V := updV (vp_V fs) k v) ⟨_, e1, q2, q3, t_set q4 hap hk v⟩ (fun j _ => vp_updV_set hl v j)⟩ e3) (hS0.put e2 e3 (hD.2 q0 _ he))
theorem q_iast (hexec : p.tables.exec = Jvm.exec) (hb : c.code = cc) (hK : va_K D cl tys s) (hP : va_P D cl ws H) (hD : va_D A ws) (hS : va_S A H0 H locs) (q0 t0 : Nat) {cA : ClassId} {n : Nat} {f : Nat → Int32} (ha : ws[q0]? = some (a, .inl (cA, n, .inl f))) (ht : tys[t0]? = some (cA, .int)) {i : Int32} {x : Int32} (hin : vp_in i n) (hdg : decode cc pc = .ok (.iastore, 1))
    (kk : ∀ (H1 : Heap) (locs1 : List Loc), H1.size = H.size → va_P D cl (ws.set q0 (a, .inl (cA, n, .inl (upd f i.toNatClampNeg x)))) H1 → va_S A H0 H1 locs1 → W p l e R s m args below meth c H1 locs1 cells slots Q (F0 m (pc + 1) ls rest)) : W p l e R s m args below meth c H locs cells slots Q (F0 m pc ls (.int x :: .int i :: .ref a :: rest)) := by
  refine W.iast hexec hb (hP q0 _ ha) ((hK.2 t0 _ ht).1 n (fun j => .int (f j))) (fun q => by cases q) (by show ¬ (i < 0 ∨ (arrV _ _ _).slots.size ≤ _); rw [arrV_size]; exact hin) rfl rfl hdg fun H1 e z oq => ?_
  refine kk H1 _ z (hP.set hD ha ?_ oq) (hS.put z oq (hD.2 q0 _ ha))
  show H1[a]? = some (vp_cell _ _)
  rw [e]
  rw [vp_cell_i, vp_cell_i, arrV_store]
  congr 2
  funext q
  by_cases hq : q = i.toNatClampNeg
  · subst hq
    simp [updV, upd]
  · simp [updV, upd, hq]
theorem q_zast (hexec : p.tables.exec = Jvm.exec) (hb : c.code = cc) (hK : va_K D cl tys s) (hP : va_P D cl ws H) (hD : va_D A ws) (hS : va_S A H0 H locs) (q0 t0 : Nat) {cA : ClassId} {n : Nat} {f : Nat → Int32} (ha : ws[q0]? = some (a, .inl (cA, n, .inl f))) (ht : tys[t0]? = some (cA, .boolean)) {i : Int32} {x : Int32} (hin : vp_in i n) (hdg : decode cc pc = .ok (.bastore, 1))
    (kk : ∀ (H1 : Heap) (locs1 : List Loc), H1.size = H.size → va_P D cl (ws.set q0 (a, .inl (cA, n, .inl (upd f i.toNatClampNeg (vp_nar .boolean x))))) H1 → va_S A H0 H1 locs1 → W p l e R s m args below meth c H1 locs1 cells slots Q (F0 m (pc + 1) ls rest)) : W p l e R s m args below meth c H locs cells slots Q (F0 m pc ls (.int x :: .int i :: .ref a :: rest)) := by
  refine W.zast hexec hb (hP q0 _ ha) ((hK.2 t0 _ ht).1 n (fun j => .int (f j))) (fun q => by cases q) (by show ¬ (i < 0 ∨ (arrV _ _ _).slots.size ≤ _); rw [arrV_size]; exact hin) rfl rfl hdg fun H1 e z oq => ?_
  refine kk H1 _ z (hP.set hD ha ?_ oq) (hS.put z oq (hD.2 q0 _ ha))
  show H1[a]? = some (vp_cell _ _)
  rw [e]
  rw [vp_cell_i, vp_cell_i, arrV_store]
  congr 2
  funext q
  by_cases hq : q = i.toNatClampNeg
  · subst hq
    simp [updV, upd, vp_nar]
    try rfl
  · simp [updV, upd, hq]
end QS
section QH
variable {X : q_Cx} {M : q_Mt} {Q : q_Fin} {ph : q_Lay × Nat × Nat} {σ : Sg} {pc pc' : Nat} {l l' : List (Nat × Value)} {st rest : List Value} {E E1 E2 : Rs}
variable {idx ci N k o : Nat} {C : String} {T : u_T} {fs : List (Option (Option Nat))}
theorem gq_geti (d : decode M.2.1 pc = .ok (.getfield idx, 3)) (hp : pc + 3 = pc') (f : q_FL M.1.cls idx ci C T N k) (ho : ph.1[o]? = some (.inr (ci, fs))) (hf : fs[k]? = some none) (kk : q_G X M Q ph σ pc' l (.int (σ o k) :: st) E) : q_G X M Q ph σ pc l (.ref (xa X o) :: st) E := by
  subst hp
  obtain ⟨f1, f2, f3, f4⟩ := f
  intro hE p e s m args below meth c H locs ls V hP hz h6 hT hS h
  exact va_get V.1 V.2.1 V.2.2.2.2.2.1 f4 V.2.2.2.2.1 V.2.2.2.2.2.2.2.2.1 hP o (q_Wget ho) f3 k f2 (V.2.2.2.2.2.1 _ f1) (fun _ h9 => h9) (v := .int (σ o k)) (by simp [hf, q_fv]) d (kk hE p e s m args below meth c H locs ls V hP hz h6 hT hS h)
theorem gq_getr {t : Nat} (d : decode M.2.1 pc = .ok (.getfield idx, 3)) (hp : pc + 3 = pc') (f : q_FL M.1.cls idx ci C T N k) (ho : ph.1[o]? = some (.inr (ci, fs))) (hf : fs[k]? = some (some (some t))) (kk : q_G X M Q ph σ pc' l (.ref (xa X t) :: st) E) : q_G X M Q ph σ pc l (.ref (xa X o) :: st) E := by
  subst hp
  obtain ⟨f1, f2, f3, f4⟩ := f
  intro hE p e s m args below meth c H locs ls V hP hz h6 hT hS h
  exact va_get V.1 V.2.1 V.2.2.2.2.2.1 f4 V.2.2.2.2.1 V.2.2.2.2.2.2.2.2.1 hP o (q_Wget ho) f3 k f2 (V.2.2.2.2.2.1 _ f1) (fun _ h9 => h9) (v := .ref (xa X t)) (by simp [hf, q_fv]) d (kk hE p e s m args below meth c H locs ls V hP hz h6 hT hS h)
theorem gq_puti {ty : FieldType} {v : Int32} (d : decode M.2.1 pc = .ok (.putfield idx, 3)) (hp : pc + 3 = pc') (f : q_FL M.1.cls idx ci C T N k) (g : q_PL C T N k ty false) (ho : ph.1[o]? = some (.inr (ci, fs))) (hf : fs[k]? = some none) (hn : narrow ty (.int v) = .int v) (hfit : fits ty (.int v) = true) (kk : q_G X M Q ph (q_wr σ o k v) pc' l st E) : q_G X M Q ph σ pc l (.int v :: .ref (xa X o) :: st) E := by
  subst hp
  obtain ⟨f1, f2, f3, f4⟩ := f
  obtain ⟨g1, g2, ⟨ty0, g3⟩, g4⟩ := g
  intro hE p e s m args below meth c H locs ls V hP hz h6 hT hS h
  have hol := (List.getElem?_eq_some_iff.mp ho).1
  have hkl := (List.getElem?_eq_some_iff.mp hf).1
  refine q_put V.1 V.2.1 V.2.2.2.2.2.1 f4 ty0 g3 g4 V.2.2.2.2.1 V.2.2.2.2.2.2.2.2.1 hP (q_D V.2.2.2.2.2.2.2.2.2.2 h6) hS o (q_Wget ho) f3 k f2 (V.2.2.2.2.2.1 _ f1) g1 g2 hn hfit (by simpa using hkl) d (fun H1 locs1 hz1 hP1 hS1 => ?_)
  rw [q_Wset (σ' := q_wr σ o k v) (q_set_self ho) hol (q_fset hf) (fun o' h => q_wr_ne h)] at hP1
  exact kk hE p e s m args below meth c H1 locs1 ls V hP1 (hz1.trans hz) h6 (q_STw hT (fun o' h => q_wr_ne (by omega))) hS1 h
theorem gq_putr {ty : FieldType} {t : Nat} {r : Option (Option Nat)} {Λ : q_Lay} {cs ns : Nat} (d : decode M.2.1 pc = .ok (.putfield idx, 3)) (hp : pc + 3 = pc') (f : q_FL M.1.cls idx ci C T N k) (g : q_PL C T N k ty true) (hi : M.1.name = "<init>") (hd : (T k).1 = M.1.cls) (ho : Λ[o]? = some (.inr (ci, fs))) (hf : fs[k]? = some r) (hn : narrow ty (.ref (xa X t)) = .ref (xa X t)) (hfit : fits ty (.ref (xa X t)) = true) {Λ' : q_Lay} (hΛ : Λ.set o (.inr (ci, fs.set k (some (some t)))) = Λ') (kk : q_G X M Q (Λ', cs, ns) σ pc' l st E) : q_G X M Q (Λ, cs, ns) σ pc l (.ref (xa X t) :: .ref (xa X o) :: st) E := by
  subst hp
  subst hΛ
  obtain ⟨f1, f2, f3, f4⟩ := f
  obtain ⟨g1, g2, ⟨ty0, g3⟩, g4⟩ := g
  intro hE p e s m args below meth c H locs ls V hP hz h6 hT hS h
  have hol := (List.getElem?_eq_some_iff.mp ho).1
  have hkl := (List.getElem?_eq_some_iff.mp hf).1
  refine q_putF V.1 V.2.1 V.2.2.2.2.2.1 f4 ty0 g3 g4 V.2.2.2.2.1 V.2.2.2.2.2.2.2.2.1 hP (q_D V.2.2.2.2.2.2.2.2.2.2 h6) hS o (q_Wget ho) f3 k f2 (V.2.2.2.2.2.1 _ f1) g1 (V.2.2.2.2.2.2.2.1 hi) hd g2 hn hfit (by simpa using hkl) d (fun H1 locs1 hz1 hP1 hS1 => ?_)
  rw [q_Wset (σ' := σ) rfl hol (q_rset hkl) (fun o' h => rfl)] at hP1
  exact kk hE p e s m args below meth c H1 locs1 ls V hP1 (by rw [hz1, hz]; simp) (by simpa using h6) hT hS1 h
/-- a final int field in a constructor: none here; a boolean field: by gq_puti -/
theorem gq_iald {a n : Nat} {i : Int32} (d : decode M.2.1 pc = .ok (.iaload, 1)) (hp : pc + 1 = pc') (ha : q_RA X ph.1 a n) (kk : ¬ q_oob i n → q_G X M Q ph σ pc' l (.int (σ a i.toNatClampNeg) :: st) E) : q_G X M Q ph σ pc l (.int i :: .ref (xa X a) :: st) (if q_oob i n then none else E) := by
  subst hp
  refine gq_ite (fun _ => gq_none) (fun hb => ?_)
  intro hE p e s m args below meth c H locs ls V hP hz h6 hT hS h
  have k2 := kk hb hE p e s m args below meth c H locs ls V hP hz h6 hT hS h
  rcases ha with ha | ⟨h1, h2, rfl⟩ | ⟨rfl, rfl⟩
  · exact va_iald V.1 V.2.1 V.2.2.2.2.2.2.2.2.1 hP a 0 (q_Wget ha) rfl hb d k2
  · obtain ⟨j, rfl⟩ : ∃ j, a = 100 + j := ⟨a - 100, by omega⟩
    exact va_ti V.1 V.2.1 (hT.1 j (by omega)).2 hS hb rfl d k2
  · exact va_ti V.1 V.2.1 hT.2 hS hb rfl d k2
theorem gq_zald {a n : Nat} {i : Int32} (d : decode M.2.1 pc = .ok (.baload, 1)) (hp : pc + 1 = pc') (ha : ph.1[a]? = some (.inl (true, n))) (kk : ¬ q_oob i n → q_G X M Q ph σ pc' l (.int (σ a i.toNatClampNeg) :: st) E) : q_G X M Q ph σ pc l (.int i :: .ref (xa X a) :: st) (if q_oob i n then none else E) := by
  subst hp
  refine gq_ite (fun _ => gq_none) (fun hb => ?_)
  intro hE p e s m args below meth c H locs ls V hP hz h6 hT hS h
  exact va_zald V.1 V.2.1 V.2.2.2.2.2.2.2.2.1 hP a 1 (q_Wget ha) rfl hb d (kk hb hE p e s m args below meth c H locs ls V hP hz h6 hT hS h)
theorem gq_alen {a n : Nat} {v : Int32} (d : decode M.2.1 pc = .ok (.arraylength, 1)) (hp : pc + 1 = pc') (ha : q_RA X ph.1 a n) (hv : Int32.ofNat n = v) (kk : q_G X M Q ph σ pc' l (.int v :: st) E) : q_G X M Q ph σ pc l (.ref (xa X a) :: st) E := by
  subst hp
  subst hv
  intro hE p e s m args below meth c H locs ls V hP hz h6 hT hS h
  have k2 := kk hE p e s m args below meth c H locs ls V hP hz h6 hT hS h
  rcases ha with ha | ⟨h1, h2, rfl⟩ | ⟨rfl, rfl⟩
  · exact va_alen V.1 V.2.1 V.2.2.2.2.2.2.2.2.1 hP a 0 (q_Wget ha) rfl rfl d k2
  · obtain ⟨j, rfl⟩ : ∃ j, a = 100 + j := ⟨a - 100, by omega⟩
    exact va_tlen V.1 V.2.1 (hT.1 j (by omega)).2 hS rfl d k2
  · exact va_tlen V.1 V.2.1 hT.2 hS rfl d k2
theorem gq_iast {a n : Nat} {i x : Int32} (d : decode M.2.1 pc = .ok (.iastore, 1)) (hp : pc + 1 = pc') (ha : ph.1[a]? = some (.inl (false, n))) (kk : ¬ q_oob i n → q_G X M Q ph (q_wr σ a i.toNatClampNeg x) pc' l st E) : q_G X M Q ph σ pc l (.int x :: .int i :: .ref (xa X a) :: st) (if q_oob i n then none else E) := by
  subst hp
  refine gq_ite (fun _ => gq_none) (fun hb => ?_)
  intro hE p e s m args below meth c H locs ls V hP hz h6 hT hS h
  have hol := (List.getElem?_eq_some_iff.mp ha).1
  refine q_iast V.1 V.2.1 V.2.2.2.2.2.2.2.2.1 hP (q_D V.2.2.2.2.2.2.2.2.2.2 h6) hS a 0 (q_Wget ha) rfl hb d (fun H1 locs1 hz1 hP1 hS1 => ?_)
  rw [q_Wset (σ' := q_wr σ a i.toNatClampNeg x) (q_set_self ha) hol q_aset (fun o' h => q_wr_ne h)] at hP1
  exact kk hb hE p e s m args below meth c H1 locs1 ls V hP1 (hz1.trans hz) h6 (q_STw hT (fun o' h => q_wr_ne (by omega))) hS1 h
theorem gq_zast {a n : Nat} {i x : Int32} (d : decode M.2.1 pc = .ok (.bastore, 1)) (hp : pc + 1 = pc') (ha : ph.1[a]? = some (.inl (true, n))) (hx : vp_nar .boolean x = x) (kk : ¬ q_oob i n → q_G X M Q ph (q_wr σ a i.toNatClampNeg x) pc' l st E) : q_G X M Q ph σ pc l (.int x :: .int i :: .ref (xa X a) :: st) (if q_oob i n then none else E) := by
  subst hp
  refine gq_ite (fun _ => gq_none) (fun hb => ?_)
  intro hE p e s m args below meth c H locs ls V hP hz h6 hT hS h
  have hol := (List.getElem?_eq_some_iff.mp ha).1
  refine q_zast V.1 V.2.1 V.2.2.2.2.2.2.2.2.1 hP (q_D V.2.2.2.2.2.2.2.2.2.2 h6) hS a 1 (q_Wget ha) rfl hb d (fun H1 locs1 hz1 hP1 hS1 => ?_)
  rw [hx] at hP1
  rw [q_Wset (σ' := q_wr σ a i.toNatClampNeg x) (q_set_self ha) hol q_aset (fun o' h => q_wr_ne h)] at hP1
  exact kk hb hE p e s m args below meth c H1 locs1 ls V hP1 (hz1.trans hz) h6 (q_STw hT (fun o' h => q_wr_ne (by omega))) hS1 h
/-- a store of a boolean that isn't written out -/
theorem gq_bool {x : Int32} {l2 : List (Nat × Value)} (kk : vp_nar .boolean x = x → q_G X M Q ph σ pc l2 st E) : q_G X M Q ph σ pc l2 st (if vp_nar .boolean x = x then E else none) := gq_ite kk (fun _ => gq_none)
theorem gq_gets {j : Nat} (d : decode M.2.1 pc = .ok (.getstatic idx, 3)) (hp : pc + 3 = pc') (hl : Cond.fieldLink M.1.cls idx RX1 (q_sn j) "[I" ∈ lw_gd) (hj : j < 5) (kk : q_G X M Q ph σ pc' l (.ref (xa X (100 + j)) :: st) E) : q_G X M Q ph σ pc l st E := by
  subst hp
  intro hE p e s m args below meth c H locs ls V hP hz h6 hT hS h
  exact va_gets V.1 V.2.1 (hT.1 j hj).1 hS V.2.2.2.2.1 (V.2.2.2.2.2.1 _ hl) (fun _ h9 => h9) d (kk hE p e s m args below meth c H locs ls V hP hz h6 hT hS h)
theorem gq_ldc2 {v : Int64} (d : decode M.2.1 pc = .ok (.ldc2_w idx, 3)) (hp : pc + 3 = pc') (hl : Cond.constantLong M.1.cls idx v ∈ lw_gd) (kk : q_G X M Q ph σ pc' l (.long v :: st) E) : q_G X M Q ph σ pc l st E := by
  subst hp
  intro hE p e s m args below meth c H locs ls V hP hz h6 hT hS h
  exact lv_ldc2 V.1 V.2.1 V.2.2.2.2.1 (V.2.2.2.2.2.1 _ hl) d (kk hE p e s m args below meth c H locs ls V hP hz h6 hT hS h)
end QH
end
section
/-! THE LAYER's RULES: calls, ends, new cells, a method's contract -/
theorem q_good : lw_gd.all goodWord = true := List.all_eq_true.mpr (fun w hw => (List.mem_filter.mp hw).2)
theorem q_gi {ws : List Cond} (h : ∀ w ∈ ws, w ∈ lw_gd) : GoodIn lw_gd ws := fun w hw => ⟨h w hw, good_of_word (List.all_eq_true.mp q_good w (h w hw))⟩
def q_MF (M : q_Mt) (n : Nat) : Prop := plainName M.1.cls = true ∧ (M.1.cls ≠ "java/lang/invoke/MethodHandle" ∧ M.1.cls ≠ "java/lang/invoke/VarHandle" ∧ (parseMethodDescriptor M.1.desc).map (fun d => d.parameters.length) = some n) ∧ Cond.initialized M.1.cls ∈ lw_gd ∧ Cond.code M.1 M.2.1 M.2.2.1 M.2.2.2.1 ∈ lw_gd
theorem q_wsin {M : q_Mt} {n : Nat} (h : q_MF M n) : ∀ w ∈ q_ws M, w ∈ lw_gd := fun w hw => by
  rcases List.mem_cons.mp hw with rfl | h1
  · exact h.2.2.2
  · exact h1
def q_LV (own : String) (idx : Nat) (y : MethodName) : Prop := Cond.methodLink own idx y ∈ lw_gd ∧ Cond.instanceMethod y ∈ lw_gd ∧ Cond.selects y.cls y y ∈ lw_gd
def q_LS (own : String) (idx : Nat) (y : MethodName) : Prop := Cond.methodLink own idx y ∈ lw_gd ∧ Cond.static y ∈ lw_gd
def q_LSN (own : String) (idx : Nat) (y : MethodName) : Prop := (own, idx, y) ∈ q_nests ∧ Cond.static y ∈ lw_gd
def q_LI (own : String) (idx : Nat) (y : MethodName) : Prop := Cond.methodLink own idx y ∈ lw_gd ∧ Cond.instanceMethod y ∈ lw_gd ∧ y.name = "<init>"
def q_LIN (own : String) (idx : Nat) (y : MethodName) : Prop := (own, idx, y) ∈ q_nests ∧ Cond.instanceMethod y ∈ lw_gd ∧ y.name = "<init>"
theorem q_Tback {X : q_Cx} {ty : FieldType} {a N : Nat} {f f' : Nat → Value} {s t : State} {H1 : Heap} {locs : List Loc} (h0 : va_T ty a N f (q_A X) s s.heap) (h1 : va_T ty a N f' (q_A X) t H1) (hS : va_S (q_A X) s.heap H1 locs) : va_T ty a N f' (q_A X) s s.heap := by
  obtain ⟨c0, a1, a2, a3, a4, a5, a6, a7⟩ := h0
  obtain ⟨c1, b1, b2, b3, b4, b5, b6, b7⟩ := h1
  rw [hS.2.1 a (Array.getElem?_eq_some_iff.mp a1).1 a7, a1] at b1
  cases b1
  exact ⟨c0, a1, a2, a3, a4, a5, b6, a7⟩
section QC
variable {X : q_Cx} {M Mc : q_Mt} {Q : q_Fin} {σ : Sg} {pc pc' cs ns cs' ns' idx n : Nat} {Λ Λe : q_Lay} {l : List (Nat × Value)} {st rest As : List Value} {Ec : Rs} {E' : Sg → Int32 → Rs}
/-- what a call site owes: that the callee's run is one -/
def q_Site (X : q_Cx) (M Mc : q_Mt) (Λ Λe : q_Lay) (cs ns : Nat) (σ : Sg) (pc : Nat) (l : List (Nat × Value)) (st rest : List Value) (Ec : Rs) : Prop :=
  (∃ x, Ec = some x) → ∀ (p : Program) (e : Env) (s : State) (m : MethodId) (args : Array Value) (below : List Frame) (meth : Method) (c : Code) (H : Heap) (locs : List Loc) (ls : Array Slot), q_MC X M p s m args meth c →
    va_P (xD X) vwCl (q_W X Λ σ) H → H.size = xb X + Λ.length → Λ.length ≤ 64 → q_ST X σ s s.heap → va_S (q_A X) s.heap H locs → lv_has ls M.2.2.1 l →
    va_Run p (xl X) e M.2.2.2.2 s m args below meth c H locs cs ns Mc.2.2.2.2.cells Mc.2.2.2.2.slots (F0 m pc ls st) rest (q_QE X Λe Mc Ec #[]) (q_A X)
theorem gq_call (hr : q_Site X M Mc Λ Λe cs ns σ pc l st rest Ec) (hc : cs + Mc.2.2.2.2.cells = cs') (hn : ns + Mc.2.2.2.2.slots = ns') (hp : pc + 3 = pc')
    (kk : ∀ (σ' : Sg) (r : Int32), Ec = some (σ', r) → q_G X M Q (Λe, cs', ns') σ' pc' l ((q_rv Mc.2.2.2.1 r).toList ++ rest) (E' σ' r)) : q_G X M Q (Λ, cs, ns) σ pc l st (q_bnd Ec E') := by
  subst hc; subst hn; subst hp
  intro hE p e s m args below meth c H locs ls V hP hz h6 hT hS h
  have hEc : ∃ x, Ec = some x := by
    cases hx : Ec with
    | none => rw [hx] at hE; obtain ⟨x, hE⟩ := hE; cases hE
    | some x => exact ⟨x, rfl⟩
  intro T hTT Xs
  obtain ⟨v, st₀, t, T', L, h0, X', hL, e1, e2, ⟨σ', r, hEr, hv, ⟨i1, i2, i3, i4, i5⟩, hF1, hF2⟩, stp⟩ := hr hEc p e s m args below meth c H locs ls V hP hz h6 hT hS h T hTT Xs
  cases hv
  rw [h0] at hF1 hF2
  have hS1 : va_S (q_A X) s.heap T'.heap (locs ++ L) := ⟨Nat.le_trans hS.1 (by rw [e1]; exact hF1), fun q h1 h2 => by rw [e1, hF2 q (Nat.lt_of_lt_of_le h1 hS.1) h2]; exact hS.2.1 q h1 h2, fun q hq => by
    rcases List.mem_append.mp hq with h | h
    · exact hS.2.2 q h
    · exact hL q h⟩
  have hT1 : q_ST X σ' s s.heap := ⟨fun j hj => ⟨(hT.1 j hj).1, q_Tback (hT.1 j hj).2 (i5.1 j hj).2 (by rw [← e1]; exact hS1)⟩, q_Tback hT.2 i5.2 (by rw [← e1]; exact hS1)⟩
  have hE2 : ∃ x, E' σ' r = some x := by rw [hEr] at hE; exact hE
  have hQ : q_bnd Ec E' = E' σ' r := by rw [hEr]; rfl
  obtain ⟨t2, a1, b1⟩ := kk σ' r hEr hE2 p e s m args below meth c T'.heap (locs ++ L) ls V (by rw [e1]; exact i1) (by rw [e1]; exact i2) i3 hT1 hS1 h T' rfl X'
  rw [hQ]
  exact ⟨t2, stp t2 a1, b1⟩
theorem gq_calli (hr : q_Site X M Mc Λ Λe cs ns σ pc l st rest Ec) (hc : cs + Mc.2.2.2.2.cells = cs') (hn : ns + Mc.2.2.2.2.slots = ns') (hp : pc + 3 = pc') (ht : Mc.2.2.2.1.isSome = true)
    (kk : ∀ (σ' : Sg) (r : Int32), Ec = some (σ', r) → q_G X M Q (Λe, cs', ns') σ' pc' l (.int r :: rest) (E' σ' r)) : q_G X M Q (Λ, cs, ns) σ pc l st (q_bnd Ec E') := by
  refine gq_call hr hc hn hp (fun σ' r hh => ?_)
  have h1 : (q_rv Mc.2.2.2.1 r).toList ++ rest = .int r :: rest := by
    cases h2 : Mc.2.2.2.1 with
    | none => rw [h2] at ht; cases ht
    | some t => rfl
  rw [h1]
  exact kk σ' r hh
theorem gq_callv (hr : q_Site X M Mc Λ Λe cs ns σ pc l st rest Ec) (hc : cs + Mc.2.2.2.2.cells = cs') (hn : ns + Mc.2.2.2.2.slots = ns') (hp : pc + 3 = pc') (ht : Mc.2.2.2.1 = none)
    (kk : ∀ (σ' : Sg) (r : Int32), Ec = some (σ', r) → q_G X M Q (Λe, cs', ns') σ' pc' l rest (E' σ' r)) : q_G X M Q (Λ, cs, ns) σ pc l st (q_bnd Ec E') := by
  refine gq_call hr hc hn hp (fun σ' r hh => ?_)
  have h1 : (q_rv Mc.2.2.2.1 r).toList ++ rest = rest := by rw [ht]; rfl
  rw [h1]
  exact kk σ' r hh
/-- the callee's start, out of the caller's world -/
theorem q_pre {args0 : List Value} {s : State} {H : Heap} {locs : List Loc} (hEc : ∃ x, Ec = some x) (hX : q_FX X s) (hP : va_P (xD X) vwCl (q_W X Λ σ) H) (hz : H.size = xb X + Λ.length) (h6 : Λ.length ≤ 64) (hT : q_ST X σ s s.heap) (hS : va_S (q_A X) s.heap H locs) :
    PreS s H (va_Pc args0 (fun U => (∃ x, Ec = some x) ∧ q_INV X Λ σ U)) args0 := by
  refine ⟨fun a U g mk q => ⟨q.1, q.2.1, q.2.2.1, q.2.2.2.1, q.2.2.2.2.1, q.2.2.2.2.2.1.same (u := U) (U := U.calling g mk a) rfl, q.2.2.2.2.2.2.moved (u := U) (U := U.calling g mk a) (Vm.Alike.refl U.vm) (fun _ _ _ => rfl)⟩, fun U hU hW => ?_⟩
  refine ⟨rfl, hEc, by rw [hU]; exact hP, by rw [hU]; exact hz, h6, hX.moved hW, hT.moved hW.alike ?_⟩
  intro a h1 h2
  rw [hU]
  exact hS.2.1 a h1 h2
theorem gq_siteV {o ci N : Nat} {T : u_T} {fs : List (Option (Option Nat))} (d : decode M.2.1 pc = .ok (.invokevirtual idx, 3)) (lk : q_LV M.1.cls idx Mc.1) (mf : q_MF Mc n) (hx : q_Ex X Mc Λ Λe (.ref (xa X o) :: As) σ Ec) (ho : Λ[o]? = some (.inr (ci, fs))) (hci : vwCl[ci]? = some (Mc.1.cls, T, N)) (hn : As.length = n)
    (hR : Mc.2.2.2.2.frames + 1 ≤ M.2.2.2.2.frames ∧ 8 + (Mc.2.2.1 + 11) + Mc.2.2.2.2.locals ≤ M.2.2.2.2.locals) (hf : cs + Mc.2.2.2.2.cells ≤ M.2.2.2.2.cells ∧ ns + Mc.2.2.2.2.slots ≤ M.2.2.2.2.slots) (hst : st = As.reverse ++ .ref (xa X o) :: rest) (hw : (rest.map fun v => v.category).sum ≤ 8) : q_Site X M Mc Λ Λe cs ns σ pc l st rest Ec := by
  subst hst
  intro hEc p e s m args below meth c H locs ls V hP hz h6 hT hS h
  have hG : GoodIn lw_gd (wsV M.1.cls idx Mc.1.cls Mc.1 (q_ws Mc)) := q_gi (fun w hw => by
    rcases List.mem_append.mp hw with h1 | h1
    · simp only [List.mem_cons, List.not_mem_nil, or_false] at h1
      rcases h1 with rfl | rfl | rfl | rfl
      · exact lk.1
      · exact lk.2.1
      · exact lk.2.2
      · exact mf.2.2.1
    · exact q_wsin mf w h1)
  have hpre := q_pre (args0 := .ref (xa X o) :: As) hEc V.2.2.2.2.2.2.2.2 hP hz h6 hT hS
  exact va_runV (As := As) (rest := rest) ⟨V.1, V.2.1, V.2.2.2.1, V.2.2.2.2.1, V.2.2.2.2.2.1⟩ hx (cwV n V.2.2.2.2.2.1 hG rfl rfl rfl ⟨rfl, mf.2.1⟩ hR) ⟨hpre.1, va_recv V.2.2.2.2.2.2.2.2.1 hP hci (q_Wget ho), hpre.2⟩ rfl hn h.1 rfl (lv_room hw) d hf
theorem gq_siteS (d : decode M.2.1 pc = .ok (.invokestatic idx, 3)) (lk : q_LS M.1.cls idx Mc.1) (mf : q_MF Mc n) (hx : q_Ex X Mc Λ Λe As σ Ec) (hn : As.length = n)
    (hR : Mc.2.2.2.2.frames + 1 ≤ M.2.2.2.2.frames ∧ 8 + (Mc.2.2.1 + 11) + Mc.2.2.2.2.locals ≤ M.2.2.2.2.locals) (hf : cs + Mc.2.2.2.2.cells ≤ M.2.2.2.2.cells ∧ ns + Mc.2.2.2.2.slots ≤ M.2.2.2.2.slots) (hst : st = As.reverse ++ rest) (hw : (rest.map fun v => v.category).sum ≤ 8) : q_Site X M Mc Λ Λe cs ns σ pc l st rest Ec := by
  subst hst
  intro hEc p e s m args below meth c H locs ls V hP hz h6 hT hS h
  have hG : GoodIn lw_gd (va_wsS M.1.cls idx Mc.1 (q_ws Mc)) := q_gi (fun w hw => by
    rcases List.mem_append.mp hw with h1 | h1
    · simp only [List.mem_cons, List.not_mem_nil, or_false] at h1
      rcases h1 with rfl | rfl | rfl
      · exact lk.1
      · exact lk.2
      · exact mf.2.2.1
    · exact q_wsin mf w h1)
  have hpre := q_pre (args0 := As) hEc V.2.2.2.2.2.2.2.2 hP hz h6 hT hS
  exact va_runS (As := As) (rest := rest) ⟨V.1, V.2.1, V.2.2.2.1, V.2.2.2.2.1, V.2.2.2.2.2.1⟩ hx (va_cwS n V.2.2.2.2.2.1 hG rfl rfl rfl mf.2.1 hR) hpre rfl hn h.1 rfl (lv_room hw) d hf
theorem gq_siteSN (d : decode M.2.1 pc = .ok (.invokestatic idx, 3)) (lk : q_LSN M.1.cls idx Mc.1) (mf : q_MF Mc n) (hx : q_Ex X Mc Λ Λe As σ Ec) (hn : As.length = n)
    (hR : Mc.2.2.2.2.frames + 1 ≤ M.2.2.2.2.frames ∧ 8 + (Mc.2.2.1 + 11) + Mc.2.2.2.2.locals ≤ M.2.2.2.2.locals) (hf : cs + Mc.2.2.2.2.cells ≤ M.2.2.2.2.cells ∧ ns + Mc.2.2.2.2.slots ≤ M.2.2.2.2.slots) (hst : st = As.reverse ++ rest) (hw : (rest.map fun v => v.category).sum ≤ 8) : q_Site X M Mc Λ Λe cs ns σ pc l st rest Ec := by
  subst hst
  intro hEc p e s m args below meth c H locs ls V hP hz h6 hT hS h
  have hpre := q_pre (args0 := As) hEc V.2.2.2.2.2.2.2.2 hP hz h6 hT hS
  exact va_runSN (As := As) (rest := rest) ⟨V.1, V.2.1, V.2.2.2.1, V.2.2.2.2.1, V.2.2.2.2.2.1⟩ hx ⟨va_cnB n V.2.2.2.2.2.1 (q_gi (q_wsin mf)) rfl rfl rfl (V.2.2.2.2.2.2.2.2.2.1 _ lk.1) (V.2.2.2.2.2.1 _ mf.2.2.1) mf.2.1 hR, V.2.2.2.2.2.1 _ lk.2, trivial⟩ hpre rfl hn h.1 rfl (lv_room hw) d hf
theorem gq_siteI {o : Nat} (d : decode M.2.1 pc = .ok (.invokespecial idx, 3)) (lk : q_LI M.1.cls idx Mc.1) (mf : q_MF Mc n) (hret : Mc.2.2.2.1 = none) (hx : q_Ex X Mc Λ Λe (.ref (xa X o) :: As) σ Ec) (hn : As.length = n)
    (hR : Mc.2.2.2.2.frames + 1 ≤ M.2.2.2.2.frames ∧ 8 + (Mc.2.2.1 + 11) + Mc.2.2.2.2.locals ≤ M.2.2.2.2.locals) (hf : cs + Mc.2.2.2.2.cells ≤ M.2.2.2.2.cells ∧ ns + Mc.2.2.2.2.slots ≤ M.2.2.2.2.slots) (hst : st = As.reverse ++ .ref (xa X o) :: rest) (hw : (rest.map fun v => v.category).sum ≤ 8) : q_Site X M Mc Λ Λe cs ns σ pc l st rest Ec := by
  subst hst
  intro hEc p e s m args below meth c H locs ls V hP hz h6 hT hS h
  have hpre := q_pre (args0 := .ref (xa X o) :: As) hEc V.2.2.2.2.2.2.2.2 hP hz h6 hT hS
  exact va_runI (As := As) (rest := rest) ⟨V.1, V.2.1, V.2.2.2.1, V.2.2.2.2.1, V.2.2.2.2.2.1⟩ hx (cwI n V.2.2.2.2.2.1 (q_gi (q_wsin mf)) (by unfold q_ws; rw [hret]) rfl rfl (V.2.2.2.2.2.1 _ mf.2.2.1) (V.2.2.2.2.2.1 _ lk.1) (V.2.2.2.2.2.1 _ lk.2.1) lk.2.2 mf.2.1 hR) hpre rfl hn h.1 rfl (lv_room hw) d hf
theorem gq_siteIN {o : Nat} (d : decode M.2.1 pc = .ok (.invokespecial idx, 3)) (lk : q_LIN M.1.cls idx Mc.1) (mf : q_MF Mc n) (hret : Mc.2.2.2.1 = none) (hx : q_Ex X Mc Λ Λe (.ref (xa X o) :: As) σ Ec) (hn : As.length = n)
    (hR : Mc.2.2.2.2.frames + 1 ≤ M.2.2.2.2.frames ∧ 8 + (Mc.2.2.1 + 11) + Mc.2.2.2.2.locals ≤ M.2.2.2.2.locals) (hf : cs + Mc.2.2.2.2.cells ≤ M.2.2.2.2.cells ∧ ns + Mc.2.2.2.2.slots ≤ M.2.2.2.2.slots) (hst : st = As.reverse ++ .ref (xa X o) :: rest) (hw : (rest.map fun v => v.category).sum ≤ 8) : q_Site X M Mc Λ Λe cs ns σ pc l st rest Ec := by
  subst hst
  intro hEc p e s m args below meth c H locs ls V hP hz h6 hT hS h
  have hpre := q_pre (args0 := .ref (xa X o) :: As) hEc V.2.2.2.2.2.2.2.2 hP hz h6 hT hS
  exact va_runIN (As := As) (rest := rest) ⟨V.1, V.2.1, V.2.2.2.1, V.2.2.2.2.1, V.2.2.2.2.2.1⟩ hx ⟨va_cnB n V.2.2.2.2.2.1 (q_gi (q_wsin mf)) (by unfold q_ws; rw [hret]) rfl rfl (V.2.2.2.2.2.2.2.2.2.1 _ lk.1) (V.2.2.2.2.2.1 _ mf.2.2.1) mf.2.1 hR, lk.2.2, V.2.2.2.2.2.1 _ lk.2.1⟩ hpre rfl hn h.1 rfl (lv_room hw) d hf
end QC
end
section
/-! THE LAYER's RULES: ends, new cells, a method's contract out of its walk -/
section QN
variable {X : q_Cx} {M Mc : q_Mt} {Q : q_Fin} {ph : q_Lay × Nat × Nat} {σ : Sg} {pc pc' cs ns cs' ns' idx n : Nat} {Λ Λ' Λe : q_Lay} {l : List (Nat × Value)} {st rest As : List Value} {E : Rs}
theorem q_fin {E : Rs} {σ : Sg} {r : Int32} {s t : State} {args : Array Value} {H : Heap} {locs : List Loc} {p : Program} {m : MethodId} {meth : Method} {c : Code} (V : q_MC X M p s m args meth c) (hEr : E = some (σ, r)) (hP : va_P (xD X) vwCl (q_W X Λe σ) H) (hz : H.size = xb X + Λe.length) (h6 : Λe.length ≤ 64) (hT : q_ST X σ s s.heap) (hS : va_S (q_A X) s.heap H locs) (ht : t.heap = H) (hW : s.WarmedH t.vm) {o : Outcome} (ho : o = .returned (q_rv M.2.2.2.1 r)) : q_QE X Λe M E args s o t :=
  ⟨σ, r, hEr, ho, ⟨by rw [ht]; exact hP, by rw [ht]; exact hz, h6, V.2.2.2.2.2.2.2.2.moved hW, hT.moved hW.alike (by rw [ht]; exact hS.2.1)⟩, hS.F ht⟩
theorem gq_iret {r : Int32} (d : decode M.2.1 pc = .ok (.ireturn, 1)) (ht : M.2.2.2.1 = some .int) (hc : M.2.2.2.2.cells = cs) (hn : M.2.2.2.2.slots = ns) : q_G X M (q_QM X Λ M) (Λ, cs, ns) σ pc l [.int r] (some (σ, r)) := by
  subst hc; subst hn
  intro hE p e s m args below meth c H locs ls V hP hz h6 hT hS h
  exact W.iret (v := r) V.1 V.2.1 (V.2.2.1.trans ht) (fun t ht' hW => q_fin V rfl hP hz h6 hT hS ht' hW (by rw [ht]; rfl)) hS.2.2 d V.2.2.2.2.2.2.1
theorem gq_zret {r : Int32} (d : decode M.2.1 pc = .ok (.ireturn, 1)) (ht : M.2.2.2.1 = some .boolean) (hr : narrow .boolean (.int r) = .int r) (hc : M.2.2.2.2.cells = cs) (hn : M.2.2.2.2.slots = ns) : q_G X M (q_QM X Λ M) (Λ, cs, ns) σ pc l [.int r] (some (σ, r)) := by
  subst hc; subst hn
  intro hE p e s m args below meth c H locs ls V hP hz h6 hT hS h
  exact W.zret (v := r) V.1 V.2.1 (V.2.2.1.trans ht) hr (fun t ht' hW => q_fin V rfl hP hz h6 hT hS ht' hW (by rw [ht]; rfl)) hS.2.2 d V.2.2.2.2.2.2.1
/-- a boolean that isn't written out: nothing is said where it isn't one -/
theorem gq_zretq {r : Int32} (d : decode M.2.1 pc = .ok (.ireturn, 1)) (ht : M.2.2.2.1 = some .boolean) (hc : M.2.2.2.2.cells = cs) (hn : M.2.2.2.2.slots = ns) : q_G X M (q_QM X Λ M) (Λ, cs, ns) σ pc l [.int r] (if vp_nar .boolean r = r then some (σ, r) else none) := by
  refine gq_ite (fun h => gq_zret d ht ?_ hc hn) (fun _ => gq_none)
  have e : narrow .boolean (.int r) = .int (vp_nar .boolean r) := rfl
  rw [e, h]
theorem gq_vret (d : decode M.2.1 pc = .ok (.return_, 1)) (ht : M.2.2.2.1 = none) (hc : M.2.2.2.2.cells = cs) (hn : M.2.2.2.2.slots = ns) : q_G X M (q_QM X Λ M) (Λ, cs, ns) σ pc l [] (some (σ, 0)) := by
  subst hc; subst hn
  intro hE p e s m args below meth c H locs ls V hP hz h6 hT hS h
  exact W.vret V.1 V.2.1 (V.2.2.1.trans ht) (fun t ht' hW => q_fin V rfl hP hz h6 hT hS ht' hW (by rw [ht]; rfl)) hS.2.2 d V.2.2.2.2.2.2.1
/-- a method's contract out of its walk -/
theorem gq_ex {args : List Value} (mf : q_MF M n) (hl : (lg_sl args).length ≤ M.2.2.1) (hG : q_G X M (q_QM X Λe M) (Λ, 0, 0) σ 0 (lv_args 0 args) [] E) : q_Ex X M Λ Λe args σ E := by
  refine Met.ofW (cc := M.2.1) (maxL := M.2.2.1) (ret := M.2.2.2.1) mf.1 rfl ?_
  intro p e s m args' below meth c s₁ B hml hv
  obtain ⟨rfl, hE, hP, hsz, h64, hFX, hST⟩ := hv
  have hts := atoms_spec (ws := q_ws M) B.pre
  rw [lg_entry_eq]
  exact hG hE p e s m _ below meth c s.heap [] _ ⟨B.exec, B.bytes, B.returns, hml, findClass_of_methodNamed B.named, fun w h => hts w (List.mem_cons_of_mem _ h), B.notSynchronized, fun h => (name_of_methodNamed B.named B.method).1.trans h, hFX⟩ hP hsz h64 hST va_S.rf (lv_entry args hl)
/-- Object's constructor -/
theorem gq_objI {a : Nat} (d : decode M.2.1 pc = .ok (.invokespecial idx, 3)) (hp : pc + 3 = pc') (h1 : Cond.methodLink M.1.cls idx Lib.objectInit ∈ lw_gd) (h2 : Cond.instanceMethod Lib.objectInit ∈ lw_gd) (h3 : Cond.code Lib.objectInit ⟨#[0xb1]⟩ 1 none ∈ lw_gd) (hf : 1 ≤ M.2.2.2.2.frames) (hlo : (st.map fun v => v.category).sum + 12 ≤ M.2.2.2.2.locals) (kk : q_G X M Q ph σ pc' l st E) : q_G X M Q ph σ pc l (.ref a :: st) E := by
  subst hp
  intro hE p e s m args below meth c H locs ls V hP hz h6 hT hS h
  refine W.objInit V.1 V.2.1 V.2.2.2.2.1 (V.2.2.2.2.2.1 _ h1) (V.2.2.2.2.2.1 _ h2) (V.2.2.2.2.2.1 _ h3) rfl (by rw [V.2.2.2.1]; exact h.1) rfl d hf ?_ ?_
  · have e : (F0 m pc ls (.ref a :: st)).monitorRoom = 0 := rfl
    rw [e]; omega
  · exact W.eq (g2 := F0 m (pc + 3) ls st) rfl (kk hE p e s m args below meth c H locs ls V hP hz h6 hT hS h)
/-- a new object: the next one -/
theorem gq_new {ci N : Nat} {C : String} {T : u_T} {ty : Nat → FieldType} {fs : List (Option (Option Nat))} (d : decode M.2.1 pc = .ok (.new idx, 3)) (hp : pc + 3 = pc') (h1 : Cond.classLink M.1.cls idx C ∈ lw_gd) (h2 : Cond.instantiable C N ∈ lw_gd) (h3 : Cond.initialized C ∈ lw_gd) (hin : ∀ w ∈ u_ws C T N, w ∈ lw_gd) (hty : ∀ k, k < N → parseFieldDescriptor (T k).2.2.1 = some (ty k)) (hc : vwCl[ci]? = some (C, T, N))
    (hfs : ∀ j, j < N → defaultValue (ty j) = (match fs[j]? with | some none => .int 0 | _ => .null)) (hfl : fs.length = N) (hfn : ∀ t ∈ fs, t = none ∨ t = some none) (hcs : cs + 1 ≤ M.2.2.2.2.cells) (hns : ns + N ≤ M.2.2.2.2.slots) {o : Nat} (ho : Λ.length = o) (h64 : o < 64) (hcs' : cs + 1 = cs') (hns' : ns + N = ns') (hΛ : Λ ++ [.inr (ci, fs)] = Λ')
    (kk : q_G X M Q (Λ', cs', ns') (q_clr σ o) pc' l (.ref (xa X o) :: st) E) : q_G X M Q (Λ, cs, ns) σ pc l st E := by
  subst hp; subst ho; subst hcs'; subst hns'; subst hΛ
  intro hE p e s m args below meth c H locs ls V hP hz h6 hT hS h
  have hK := V.2.2.2.2.2.2.2.2.1
  have hKn := hK.1 ci _ hc
  have hb := V.2.2.2.2.2.2.2.2.2.2 Λ.length h64
  have hzz : H.size = xa X Λ.length := by rw [hb]; exact hz
  refine W.newcK V.1 V.2.1 V.2.2.2.2.1 (V.2.2.2.2.2.1 _ h1) (V.2.2.2.2.2.1 _ h2) (V.2.2.2.2.2.1 _ h3) rfl d hcs hns hKn.2.1 rfl fun H1 kC hkC e1 z1 o1 => ?_
  have hk : ∀ (k : Nat) (x : Nat × va_E), (q_W X Λ σ)[k]? = some x → H1[x.1]? = H[x.1]? := fun k x hx => o1 x.1 ((hP k x hx).lt)
  have hcell : q_cell X (q_clr σ Λ.length) Λ.length (.inr (ci, fs)) = .inr (ci, fs.mapIdx (fun k r => q_fv X (q_clr σ Λ.length) Λ.length k r)) := rfl
  have hP1 : va_P (xD X) vwCl (q_W X (Λ ++ [.inr (ci, fs)]) (q_clr σ Λ.length)) H1 := by
    rw [← q_Wpush hcell]
    refine (hP.kept hk).app (fun k x hx => ?_)
    have hz : k < 1 := (List.getElem?_eq_some_iff.mp hx).1
    rw [show k = 0 by omega] at hx
    cases hx
    refine ⟨_, hc, (u_born ty V.2.2.2.2.2.1 hin hKn hkC (by rw [← hzz]; exact e1) hty).to (fun j hj => ?_)⟩
    rw [hfs j hj]
    have hj2 : j < fs.length := by omega
    simp only [vp_V, List.getD_eq_getElem?_getD, List.getElem?_mapIdx, List.getElem?_eq_getElem hj2, Option.map_some, Option.getD_some]
    rcases hfn _ (List.getElem_mem hj2) with h | h <;> rw [h] <;> simp [q_fv, q_clr]
  rw [hzz]
  exact kk hE p e s m args below meth c H1 locs ls V hP1 (by rw [z1, hz]; simp; omega) (by simp; omega) (q_STw hT (fun o' h => q_clr_ne (by omega))) ⟨Nat.le_trans hS.1 (by omega), fun x h1 h2 => (o1 x (Nat.lt_of_lt_of_le h1 hS.1)).trans (hS.2.1 x h1 h2), hS.2.2⟩ h
theorem gq_newa {z : Bool} {atype : ArrayType} {v : Int32} (d : decode M.2.1 pc = .ok (.newarray atype, 2)) (hp : pc + 2 = pc') (h1 : Cond.arrayClass (newarray.typeOf atype) ∈ lw_gd) (hz0 : newarray.typeOf atype = if z then .boolean else .int) (hn : ¬ v < 0) (hN : v.toNatClampNeg = n) (hbytes : n * componentBytes (newarray.typeOf atype) ≤ 536870912) (hcs : cs + 1 ≤ M.2.2.2.2.cells) (hns : ns + n ≤ M.2.2.2.2.slots) {o : Nat} (ho : Λ.length = o) (h64 : o < 64) (hcs' : cs + 1 = cs') (hns' : ns + n = ns') (hΛ : Λ ++ [.inl (z, n)] = Λ')
    (kk : q_G X M Q (Λ', cs', ns') (q_clr σ o) pc' l (.ref (xa X o) :: st) E) : q_G X M Q (Λ, cs, ns) σ pc l (.int v :: st) E := by
  subst hp; subst ho; subst hcs'; subst hns'; subst hΛ
  intro hE p e s m args below meth c H locs ls V hP hz h6 hT hS h
  have hK := V.2.2.2.2.2.2.2.2.1
  have hb := V.2.2.2.2.2.2.2.2.2.2 Λ.length h64
  have hzz : H.size = xa X Λ.length := by rw [hb]; exact hz
  refine va_newaK V.1 V.2.1 (V.2.2.2.2.2.1 _ h1) rfl d rfl hn hN hbytes hcs hns hzz fun H1 cA e1 z1 o1 hAr hNm => ?_
  have hk : ∀ (k : Nat) (x : Nat × va_E), (q_W X Λ σ)[k]? = some x → H1[x.1]? = H[x.1]? := fun k x hx => o1 x.1 (by rw [← hzz]; exact (hP k x hx).lt)
  have hcA : cA = if z then xZ X else xI X := by
    cases z with
    | false =>
      have h2 := (hK.2 0 (xI X, .int) rfl).2
      rw [if_neg (by decide)] at hz0
      rw [hz0] at hNm
      exact Option.some.inj (hNm.symm.trans h2)
    | true =>
      have h2 := (hK.2 1 (xZ X, .boolean) rfl).2
      rw [if_pos rfl] at hz0
      rw [hz0] at hNm
      exact Option.some.inj (hNm.symm.trans h2)
  have hcell : q_cell X (q_clr σ Λ.length) Λ.length (.inl (z, n)) = .inl (cA, n, .inl (fun _ => 0)) := by
    rw [hcA]; simp [q_cell, q_clr]
  have hP1 : va_P (xD X) vwCl (q_W X (Λ ++ [.inl (z, n)]) (q_clr σ Λ.length)) H1 := by
    rw [← q_Wpush hcell]
    refine (hP.kept hk).app (fun k x hx => ?_)
    have hz : k < 1 := (List.getElem?_eq_some_iff.mp hx).1
    rw [show k = 0 by omega] at hx
    cases hx
    show H1[_]? = some (vp_cell _ _)
    rw [e1, vp_cell_i, hz0]
    cases z <;> rfl
  exact kk hE p e s m args below meth c H1 locs ls V hP1 (by rw [z1, ← hzz, hz]; simp; omega) (by simp; omega) (q_STw hT (fun o' h => q_clr_ne (by omega))) ⟨Nat.le_trans hS.1 (by omega), fun x h1 h2 => (o1 x (by rw [← hzz]; exact Nat.lt_of_lt_of_le h1 hS.1)).trans (hS.2.1 x h1 h2), hS.2.2⟩ h
end QN
end
section
-- GENERATED by wip/gen/gen.py out of the landed bytecode: what each method does to the state (f_), the world's shape
def q_let (x : Int32) (f : Int32 → Rs) : Rs := f x
def q_lets (x : Sg) (f : Sg → Rs) : Rs := f x
def q_L0 : q_Lay := [.inr (5, [some (some 1), some (some 15), some (some 21), some (some 23)]), .inr (2, [some (some 2), some (some 3), some (some 4), some (some 5), some (some 6), some (some 7), some (some 8), some (some 9), some (some 12), none, none, none, none]), .inl (false, 150), .inl (false, 150), .inl (false, 150), .inl (false, 150), .inl (false, 150), .inl (false, 151), .inl (false, 2), .inr (3, [some (some 10), some (some 11), none, none, none, none, none, none]), .inl (false, 4), .inl (false, 2), .inr (3, [some (some 13), some (some 14), none, none, none, none, none, none]), .inl (false, 4), .inl (false, 2), .inr (0, [some (some 16), none, none, some (some 17), some (some 18), some (some 19), some (some 20)]), .inl (false, 30), .inl (false, 2), .inl (false, 2), .inl (false, 2), .inl (false, 2), .inr (4, [some (some 22)]), .inl (false, 8), .inr (1, [some (some 24), some (some 25), none]), .inl (false, 15), .inl (false, 15), .inr (6, [some (some 27), none, some (some 28), some (some 29), none, some (some 30), some (some 31), some (some 32), some (some 33), some (some 34), some (some 35), some (some 36), some (some 37), some (some 38), none, none, none, none, none, none, none, none, some (some 39), some (some 40), some (some 41), some (some 42), some (some 43), none, none, some (some 44), some (some 45), none]), .inl (false, 8), .inl (false, 2), .inl (false, 2), .inl (false, 150), .inl (false, 150), .inl (false, 150), .inl (false, 150), .inl (true, 150), .inl (false, 151), .inl (true, 151), .inl (false, 4), .inl (false, 2), .inl (false, 2), .inl (false, 2), .inl (false, 2), .inl (false, 2), .inl (false, 30), .inl (false, 15), .inl (false, 15)]
theorem lo_0 : q_L0[0]? = some (.inr (5, [some (some 1), some (some 15), some (some 21), some (some 23)])) := rfl
theorem lo_1 : q_L0[1]? = some (.inr (2, [some (some 2), some (some 3), some (some 4), some (some 5), some (some 6), some (some 7), some (some 8), some (some 9), some (some 12), none, none, none, none])) := rfl
theorem lo_2 : q_L0[2]? = some (.inl (false, 150)) := rfl
theorem lo_3 : q_L0[3]? = some (.inl (false, 150)) := rfl
theorem lo_4 : q_L0[4]? = some (.inl (false, 150)) := rfl
theorem lo_5 : q_L0[5]? = some (.inl (false, 150)) := rfl
theorem lo_6 : q_L0[6]? = some (.inl (false, 150)) := rfl
theorem lo_7 : q_L0[7]? = some (.inl (false, 151)) := rfl
theorem lo_8 : q_L0[8]? = some (.inl (false, 2)) := rfl
theorem lo_9 : q_L0[9]? = some (.inr (3, [some (some 10), some (some 11), none, none, none, none, none, none])) := rfl
theorem lo_10 : q_L0[10]? = some (.inl (false, 4)) := rfl
theorem lo_11 : q_L0[11]? = some (.inl (false, 2)) := rfl
theorem lo_12 : q_L0[12]? = some (.inr (3, [some (some 13), some (some 14), none, none, none, none, none, none])) := rfl
theorem lo_13 : q_L0[13]? = some (.inl (false, 4)) := rfl
theorem lo_14 : q_L0[14]? = some (.inl (false, 2)) := rfl
theorem lo_15 : q_L0[15]? = some (.inr (0, [some (some 16), none, none, some (some 17), some (some 18), some (some 19), some (some 20)])) := rfl
theorem lo_16 : q_L0[16]? = some (.inl (false, 30)) := rfl
theorem lo_17 : q_L0[17]? = some (.inl (false, 2)) := rfl
theorem lo_18 : q_L0[18]? = some (.inl (false, 2)) := rfl
theorem lo_19 : q_L0[19]? = some (.inl (false, 2)) := rfl
theorem lo_20 : q_L0[20]? = some (.inl (false, 2)) := rfl
theorem lo_21 : q_L0[21]? = some (.inr (4, [some (some 22)])) := rfl
theorem lo_22 : q_L0[22]? = some (.inl (false, 8)) := rfl
theorem lo_23 : q_L0[23]? = some (.inr (1, [some (some 24), some (some 25), none])) := rfl
theorem lo_24 : q_L0[24]? = some (.inl (false, 15)) := rfl
theorem lo_25 : q_L0[25]? = some (.inl (false, 15)) := rfl
theorem lo_26 : q_L0[26]? = some (.inr (6, [some (some 27), none, some (some 28), some (some 29), none, some (some 30), some (some 31), some (some 32), some (some 33), some (some 34), some (some 35), some (some 36), some (some 37), some (some 38), none, none, none, none, none, none, none, none, some (some 39), some (some 40), some (some 41), some (some 42), some (some 43), none, none, some (some 44), some (some 45), none])) := rfl
theorem lo_27 : q_L0[27]? = some (.inl (false, 8)) := rfl
theorem lo_28 : q_L0[28]? = some (.inl (false, 2)) := rfl
theorem lo_29 : q_L0[29]? = some (.inl (false, 2)) := rfl
theorem lo_30 : q_L0[30]? = some (.inl (false, 150)) := rfl
theorem lo_31 : q_L0[31]? = some (.inl (false, 150)) := rfl
theorem lo_32 : q_L0[32]? = some (.inl (false, 150)) := rfl
theorem lo_33 : q_L0[33]? = some (.inl (false, 150)) := rfl
theorem lo_34 : q_L0[34]? = some (.inl (true, 150)) := rfl
theorem lo_35 : q_L0[35]? = some (.inl (false, 151)) := rfl
theorem lo_36 : q_L0[36]? = some (.inl (true, 151)) := rfl
theorem lo_37 : q_L0[37]? = some (.inl (false, 4)) := rfl
theorem lo_38 : q_L0[38]? = some (.inl (false, 2)) := rfl
theorem lo_39 : q_L0[39]? = some (.inl (false, 2)) := rfl
theorem lo_40 : q_L0[40]? = some (.inl (false, 2)) := rfl
theorem lo_41 : q_L0[41]? = some (.inl (false, 2)) := rfl
theorem lo_42 : q_L0[42]? = some (.inl (false, 2)) := rfl
theorem lo_43 : q_L0[43]? = some (.inl (false, 30)) := rfl
theorem lo_44 : q_L0[44]? = some (.inl (false, 15)) := rfl
theorem lo_45 : q_L0[45]? = some (.inl (false, 15)) := rfl
def q_pos (o : Nat) : Prop := o = 9 ∨ o = 12
theorem q_pos0 {o : Nat} (h : q_pos o) : q_L0[o]? = some (.inr (3, [some (some (o + 1)), some (some (o + 2)), none, none, none, none, none, none])) := by rcases h with rfl | rfl <;> rfl
theorem q_pos1 {o : Nat} (h : q_pos o) : q_L0[o + 1]? = some (.inl (false, 4)) := by rcases h with rfl | rfl <;> rfl
theorem q_pos2 {o : Nat} (h : q_pos o) : q_L0[o + 2]? = some (.inl (false, 2)) := by rcases h with rfl | rfl <;> rfl
def q_Ls_X3_init_9 : q_Lay := [.inr (5, [some none, some none, some none, some none]), .inr (2, [some (some 2), some (some 3), some (some 4), some (some 5), some (some 6), some (some 7), some (some 8), some none, some none, none, none, none, none]), .inl (false, 150), .inl (false, 150), .inl (false, 150), .inl (false, 150), .inl (false, 150), .inl (false, 151), .inl (false, 2), .inr (3, [some none, some none, none, none, none, none, none, none])]
def q_Le_X3_init_9 : q_Lay := [.inr (5, [some none, some none, some none, some none]), .inr (2, [some (some 2), some (some 3), some (some 4), some (some 5), some (some 6), some (some 7), some (some 8), some none, some none, none, none, none, none]), .inl (false, 150), .inl (false, 150), .inl (false, 150), .inl (false, 150), .inl (false, 150), .inl (false, 151), .inl (false, 2), .inr (3, [some (some 10), some (some 11), none, none, none, none, none, none]), .inl (false, 4), .inl (false, 2)]
def q_Ls_X3_init_12 : q_Lay := [.inr (5, [some none, some none, some none, some none]), .inr (2, [some (some 2), some (some 3), some (some 4), some (some 5), some (some 6), some (some 7), some (some 8), some (some 9), some none, none, none, none, none]), .inl (false, 150), .inl (false, 150), .inl (false, 150), .inl (false, 150), .inl (false, 150), .inl (false, 151), .inl (false, 2), .inr (3, [some (some 10), some (some 11), none, none, none, none, none, none]), .inl (false, 4), .inl (false, 2), .inr (3, [some none, some none, none, none, none, none, none, none])]
def q_Le_X3_init_12 : q_Lay := [.inr (5, [some none, some none, some none, some none]), .inr (2, [some (some 2), some (some 3), some (some 4), some (some 5), some (some 6), some (some 7), some (some 8), some (some 9), some none, none, none, none, none]), .inl (false, 150), .inl (false, 150), .inl (false, 150), .inl (false, 150), .inl (false, 150), .inl (false, 151), .inl (false, 2), .inr (3, [some (some 10), some (some 11), none, none, none, none, none, none]), .inl (false, 4), .inl (false, 2), .inr (3, [some (some 13), some (some 14), none, none, none, none, none, none]), .inl (false, 4), .inl (false, 2)]
def q_Ls_X2_init_1 : q_Lay := [.inr (5, [some none, some none, some none, some none]), .inr (2, [some none, some none, some none, some none, some none, some none, some none, some none, some none, none, none, none, none])]
def q_Le_X2_init_1 : q_Lay := [.inr (5, [some none, some none, some none, some none]), .inr (2, [some (some 2), some (some 3), some (some 4), some (some 5), some (some 6), some (some 7), some (some 8), some (some 9), some (some 12), none, none, none, none]), .inl (false, 150), .inl (false, 150), .inl (false, 150), .inl (false, 150), .inl (false, 150), .inl (false, 151), .inl (false, 2), .inr (3, [some (some 10), some (some 11), none, none, none, none, none, none]), .inl (false, 4), .inl (false, 2), .inr (3, [some (some 13), some (some 14), none, none, none, none, none, none]), .inl (false, 4), .inl (false, 2)]
def q_Ls_X0_init_15 : q_Lay := [.inr (5, [some (some 1), some none, some none, some none]), .inr (2, [some (some 2), some (some 3), some (some 4), some (some 5), some (some 6), some (some 7), some (some 8), some (some 9), some (some 12), none, none, none, none]), .inl (false, 150), .inl (false, 150), .inl (false, 150), .inl (false, 150), .inl (false, 150), .inl (false, 151), .inl (false, 2), .inr (3, [some (some 10), some (some 11), none, none, none, none, none, none]), .inl (false, 4), .inl (false, 2), .inr (3, [some (some 13), some (some 14), none, none, none, none, none, none]), .inl (false, 4), .inl (false, 2), .inr (0, [some none, none, none, some none, some none, some none, some none])]
def q_Le_X0_init_15 : q_Lay := [.inr (5, [some (some 1), some none, some none, some none]), .inr (2, [some (some 2), some (some 3), some (some 4), some (some 5), some (some 6), some (some 7), some (some 8), some (some 9), some (some 12), none, none, none, none]), .inl (false, 150), .inl (false, 150), .inl (false, 150), .inl (false, 150), .inl (false, 150), .inl (false, 151), .inl (false, 2), .inr (3, [some (some 10), some (some 11), none, none, none, none, none, none]), .inl (false, 4), .inl (false, 2), .inr (3, [some (some 13), some (some 14), none, none, none, none, none, none]), .inl (false, 4), .inl (false, 2), .inr (0, [some (some 16), none, none, some (some 17), some (some 18), some (some 19), some (some 20)]), .inl (false, 30), .inl (false, 2), .inl (false, 2), .inl (false, 2), .inl (false, 2)]
def q_Ls_X4_init_21 : q_Lay := [.inr (5, [some (some 1), some (some 15), some none, some none]), .inr (2, [some (some 2), some (some 3), some (some 4), some (some 5), some (some 6), some (some 7), some (some 8), some (some 9), some (some 12), none, none, none, none]), .inl (false, 150), .inl (false, 150), .inl (false, 150), .inl (false, 150), .inl (false, 150), .inl (false, 151), .inl (false, 2), .inr (3, [some (some 10), some (some 11), none, none, none, none, none, none]), .inl (false, 4), .inl (false, 2), .inr (3, [some (some 13), some (some 14), none, none, none, none, none, none]), .inl (false, 4), .inl (false, 2), .inr (0, [some (some 16), none, none, some (some 17), some (some 18), some (some 19), some (some 20)]), .inl (false, 30), .inl (false, 2), .inl (false, 2), .inl (false, 2), .inl (false, 2), .inr (4, [some none])]
def q_Le_X4_init_21 : q_Lay := [.inr (5, [some (some 1), some (some 15), some none, some none]), .inr (2, [some (some 2), some (some 3), some (some 4), some (some 5), some (some 6), some (some 7), some (some 8), some (some 9), some (some 12), none, none, none, none]), .inl (false, 150), .inl (false, 150), .inl (false, 150), .inl (false, 150), .inl (false, 150), .inl (false, 151), .inl (false, 2), .inr (3, [some (some 10), some (some 11), none, none, none, none, none, none]), .inl (false, 4), .inl (false, 2), .inr (3, [some (some 13), some (some 14), none, none, none, none, none, none]), .inl (false, 4), .inl (false, 2), .inr (0, [some (some 16), none, none, some (some 17), some (some 18), some (some 19), some (some 20)]), .inl (false, 30), .inl (false, 2), .inl (false, 2), .inl (false, 2), .inl (false, 2), .inr (4, [some (some 22)]), .inl (false, 8)]
def q_Ls_X1_init_23 : q_Lay := [.inr (5, [some (some 1), some (some 15), some (some 21), some none]), .inr (2, [some (some 2), some (some 3), some (some 4), some (some 5), some (some 6), some (some 7), some (some 8), some (some 9), some (some 12), none, none, none, none]), .inl (false, 150), .inl (false, 150), .inl (false, 150), .inl (false, 150), .inl (false, 150), .inl (false, 151), .inl (false, 2), .inr (3, [some (some 10), some (some 11), none, none, none, none, none, none]), .inl (false, 4), .inl (false, 2), .inr (3, [some (some 13), some (some 14), none, none, none, none, none, none]), .inl (false, 4), .inl (false, 2), .inr (0, [some (some 16), none, none, some (some 17), some (some 18), some (some 19), some (some 20)]), .inl (false, 30), .inl (false, 2), .inl (false, 2), .inl (false, 2), .inl (false, 2), .inr (4, [some (some 22)]), .inl (false, 8), .inr (1, [some none, some none, none])]
def q_Le_X1_init_23 : q_Lay := [.inr (5, [some (some 1), some (some 15), some (some 21), some none]), .inr (2, [some (some 2), some (some 3), some (some 4), some (some 5), some (some 6), some (some 7), some (some 8), some (some 9), some (some 12), none, none, none, none]), .inl (false, 150), .inl (false, 150), .inl (false, 150), .inl (false, 150), .inl (false, 150), .inl (false, 151), .inl (false, 2), .inr (3, [some (some 10), some (some 11), none, none, none, none, none, none]), .inl (false, 4), .inl (false, 2), .inr (3, [some (some 13), some (some 14), none, none, none, none, none, none]), .inl (false, 4), .inl (false, 2), .inr (0, [some (some 16), none, none, some (some 17), some (some 18), some (some 19), some (some 20)]), .inl (false, 30), .inl (false, 2), .inl (false, 2), .inl (false, 2), .inl (false, 2), .inr (4, [some (some 22)]), .inl (false, 8), .inr (1, [some (some 24), some (some 25), none]), .inl (false, 15), .inl (false, 15)]
def q_Ls_X5_init_0 : q_Lay := [.inr (5, [some none, some none, some none, some none])]
def q_Le_X5_init_0 : q_Lay := [.inr (5, [some (some 1), some (some 15), some (some 21), some (some 23)]), .inr (2, [some (some 2), some (some 3), some (some 4), some (some 5), some (some 6), some (some 7), some (some 8), some (some 9), some (some 12), none, none, none, none]), .inl (false, 150), .inl (false, 150), .inl (false, 150), .inl (false, 150), .inl (false, 150), .inl (false, 151), .inl (false, 2), .inr (3, [some (some 10), some (some 11), none, none, none, none, none, none]), .inl (false, 4), .inl (false, 2), .inr (3, [some (some 13), some (some 14), none, none, none, none, none, none]), .inl (false, 4), .inl (false, 2), .inr (0, [some (some 16), none, none, some (some 17), some (some 18), some (some 19), some (some 20)]), .inl (false, 30), .inl (false, 2), .inl (false, 2), .inl (false, 2), .inl (false, 2), .inr (4, [some (some 22)]), .inl (false, 8), .inr (1, [some (some 24), some (some 25), none]), .inl (false, 15), .inl (false, 15)]
def q_Ls_X6_init_26 : q_Lay := [.inr (5, [some (some 1), some (some 15), some (some 21), some (some 23)]), .inr (2, [some (some 2), some (some 3), some (some 4), some (some 5), some (some 6), some (some 7), some (some 8), some (some 9), some (some 12), none, none, none, none]), .inl (false, 150), .inl (false, 150), .inl (false, 150), .inl (false, 150), .inl (false, 150), .inl (false, 151), .inl (false, 2), .inr (3, [some (some 10), some (some 11), none, none, none, none, none, none]), .inl (false, 4), .inl (false, 2), .inr (3, [some (some 13), some (some 14), none, none, none, none, none, none]), .inl (false, 4), .inl (false, 2), .inr (0, [some (some 16), none, none, some (some 17), some (some 18), some (some 19), some (some 20)]), .inl (false, 30), .inl (false, 2), .inl (false, 2), .inl (false, 2), .inl (false, 2), .inr (4, [some (some 22)]), .inl (false, 8), .inr (1, [some (some 24), some (some 25), none]), .inl (false, 15), .inl (false, 15), .inr (6, [some none, none, some none, some none, none, some none, some none, some none, some none, some none, some none, some none, some none, some none, none, none, none, none, none, none, none, none, some none, some none, some none, some none, some none, none, none, some none, some none, none])]
def q_Le_X6_init_26 : q_Lay := [.inr (5, [some (some 1), some (some 15), some (some 21), some (some 23)]), .inr (2, [some (some 2), some (some 3), some (some 4), some (some 5), some (some 6), some (some 7), some (some 8), some (some 9), some (some 12), none, none, none, none]), .inl (false, 150), .inl (false, 150), .inl (false, 150), .inl (false, 150), .inl (false, 150), .inl (false, 151), .inl (false, 2), .inr (3, [some (some 10), some (some 11), none, none, none, none, none, none]), .inl (false, 4), .inl (false, 2), .inr (3, [some (some 13), some (some 14), none, none, none, none, none, none]), .inl (false, 4), .inl (false, 2), .inr (0, [some (some 16), none, none, some (some 17), some (some 18), some (some 19), some (some 20)]), .inl (false, 30), .inl (false, 2), .inl (false, 2), .inl (false, 2), .inl (false, 2), .inr (4, [some (some 22)]), .inl (false, 8), .inr (1, [some (some 24), some (some 25), none]), .inl (false, 15), .inl (false, 15), .inr (6, [some (some 27), none, some (some 28), some (some 29), none, some (some 30), some (some 31), some (some 32), some (some 33), some (some 34), some (some 35), some (some 36), some (some 37), some (some 38), none, none, none, none, none, none, none, none, some (some 39), some (some 40), some (some 41), some (some 42), some (some 43), none, none, some (some 44), some (some 45), none]), .inl (false, 8), .inl (false, 2), .inl (false, 2), .inl (false, 150), .inl (false, 150), .inl (false, 150), .inl (false, 150), .inl (true, 150), .inl (false, 151), .inl (true, 151), .inl (false, 4), .inl (false, 2), .inl (false, 2), .inl (false, 2), .inl (false, 2), .inl (false, 2), .inl (false, 30), .inl (false, 15), .inl (false, 15)]
def q_Lj_X6_init_26_0 : q_Lay := [.inr (5, [some (some 1), some (some 15), some (some 21), some (some 23)]), .inr (2, [some (some 2), some (some 3), some (some 4), some (some 5), some (some 6), some (some 7), some (some 8), some (some 9), some (some 12), none, none, none, none]), .inl (false, 150), .inl (false, 150), .inl (false, 150), .inl (false, 150), .inl (false, 150), .inl (false, 151), .inl (false, 2), .inr (3, [some (some 10), some (some 11), none, none, none, none, none, none]), .inl (false, 4), .inl (false, 2), .inr (3, [some (some 13), some (some 14), none, none, none, none, none, none]), .inl (false, 4), .inl (false, 2), .inr (0, [some (some 16), none, none, some (some 17), some (some 18), some (some 19), some (some 20)]), .inl (false, 30), .inl (false, 2), .inl (false, 2), .inl (false, 2), .inl (false, 2), .inr (4, [some (some 22)]), .inl (false, 8), .inr (1, [some (some 24), some (some 25), none]), .inl (false, 15), .inl (false, 15), .inr (6, [some (some 27), none, some (some 28), some (some 29), none, some (some 30), some (some 31), some (some 32), some (some 33), some (some 34), some (some 35), some (some 36), some (some 37), some (some 38), none, none, none, none, none, none, none, none, some (some 39), some (some 40), some (some 41), some (some 42), some (some 43), none, none, some (some 44), some (some 45), none]), .inl (false, 8), .inl (false, 2), .inl (false, 2), .inl (false, 150), .inl (false, 150), .inl (false, 150), .inl (false, 150), .inl (true, 150), .inl (false, 151), .inl (true, 151), .inl (false, 4), .inl (false, 2), .inl (false, 2), .inl (false, 2), .inl (false, 2), .inl (false, 2), .inl (false, 30), .inl (false, 15), .inl (false, 15)]
def q_Lj_X6_init_26_1 : q_Lay := [.inr (5, [some (some 1), some (some 15), some (some 21), some (some 23)]), .inr (2, [some (some 2), some (some 3), some (some 4), some (some 5), some (some 6), some (some 7), some (some 8), some (some 9), some (some 12), none, none, none, none]), .inl (false, 150), .inl (false, 150), .inl (false, 150), .inl (false, 150), .inl (false, 150), .inl (false, 151), .inl (false, 2), .inr (3, [some (some 10), some (some 11), none, none, none, none, none, none]), .inl (false, 4), .inl (false, 2), .inr (3, [some (some 13), some (some 14), none, none, none, none, none, none]), .inl (false, 4), .inl (false, 2), .inr (0, [some (some 16), none, none, some (some 17), some (some 18), some (some 19), some (some 20)]), .inl (false, 30), .inl (false, 2), .inl (false, 2), .inl (false, 2), .inl (false, 2), .inr (4, [some (some 22)]), .inl (false, 8), .inr (1, [some (some 24), some (some 25), none]), .inl (false, 15), .inl (false, 15), .inr (6, [some (some 27), none, some (some 28), some (some 29), none, some (some 30), some (some 31), some (some 32), some (some 33), some (some 34), some (some 35), some (some 36), some (some 37), some (some 38), none, none, none, none, none, none, none, none, some (some 39), some (some 40), some (some 41), some (some 42), some (some 43), none, none, some (some 44), some (some 45), none]), .inl (false, 8), .inl (false, 2), .inl (false, 2), .inl (false, 150), .inl (false, 150), .inl (false, 150), .inl (false, 150), .inl (true, 150), .inl (false, 151), .inl (true, 151), .inl (false, 4), .inl (false, 2), .inl (false, 2), .inl (false, 2), .inl (false, 2), .inl (false, 2), .inl (false, 30), .inl (false, 15), .inl (false, 15)]
noncomputable section
def f_X0_byteOf (σ : Sg) (p0 : Int64) (p1 : Int32) : Rs :=
  some (σ, (((p0.toUInt64 >>> (((8 : Int32) * p1).toInt64.toUInt64 &&& Int64.toUInt64 63)).toInt64) &&& (255 : Int64)).toInt32)
def f_X5_within (σ : Sg) (p0 : Int32) (p1 : Int32) (p2 : Int32) : Rs :=
  if p0 < p1 then
    some (σ, (0 : Int32))
  else
    if p2 < p0 then
      some (σ, (0 : Int32))
    else
      some (σ, (1 : Int32))
def f_X1_isMatch (σ : Sg) (p0 : Int32) : Rs :=
  q_bnd (f_X5_within σ p0 (0 : Int32) (14 : Int32)) fun s1 r2 =>
  if vp_nar .boolean r2 = r2 then some (s1, r2) else none
def f_X2_begins (σ : Sg) (p0 : Int32) : Rs :=
  if p0 = 0 then
    some (σ, (1 : Int32))
  else
    if p0 = (6 : Int32) then
      some (σ, (1 : Int32))
    else
      some (σ, (0 : Int32))
def f_X4_held (σ : Sg) (p0 : Int32) (p1 : Int32) (p2 : Int32) : Rs :=
  q_let (if p0 < p2 then p0 else p2) fun v1 =>
  q_let (if p1 < v1 then v1 else p1) fun v2 =>
  some (σ, v2)
def f_X5_isPlayer (σ : Sg) (p0 : Int32) : Rs :=
  q_bnd (f_X5_within σ p0 (0 : Int32) (7 : Int32)) fun s1 r2 =>
  if vp_nar .boolean r2 = r2 then some (s1, r2) else none
def f_X5_at (a n : Nat) (σ : Sg) (p1 : Int32) : Rs :=
  if p1 < 0 then
    some (σ, (-4 : Int32))
  else
    if (Int32.ofNat n) ≤ p1 then
      some (σ, (-4 : Int32))
    else
      if q_oob p1 n then none else
      some (σ, σ a p1.toNatClampNeg)
def f_X5_set (a n : Nat) (σ : Sg) (p1 : Int32) (p2 : Int32) : Rs :=
  if p1 < 0 then
    some (σ, 0)
  else
    if (Int32.ofNat n) ≤ p1 then
      some (σ, 0)
    else
      if q_oob p1 n then none else
      q_lets (q_wr σ a p1.toNatClampNeg p2) fun s3 =>
      some (s3, 0)
def f_X6_in (σ : Sg) (p0 : Int32) (p1 : Int32) (p2 : Int32) : Rs :=
  if p0 < p1 then
    some (σ, (0 : Int32))
  else
    if p2 < p0 then
      some (σ, (0 : Int32))
    else
      some (σ, (1 : Int32))
def f_X6_isPlayer (σ : Sg) (p0 : Int32) : Rs :=
  q_bnd (f_X6_in σ p0 (0 : Int32) (7 : Int32)) fun s1 r2 =>
  if vp_nar .boolean r2 = r2 then some (s1, r2) else none
def f_X6_held (σ : Sg) (p0 : Int32) (p1 : Int32) (p2 : Int32) : Rs :=
  if p1 ≤ p0 then
    if p0 ≤ p2 then
      some (σ, p0)
    else
      some (σ, p2)
  else
    some (σ, p1)
def f_X6_isMatch (σ : Sg) (p0 : Int32) : Rs :=
  q_bnd (f_X6_in σ p0 (0 : Int32) (14 : Int32)) fun s1 r2 =>
  if vp_nar .boolean r2 = r2 then some (s1, r2) else none
def f_X6_isFirst (σ : Sg) (p0 : Int32) : Rs :=
  if p0 < (4 : Int32) then
    some (σ, (1 : Int32))
  else
    if p0 < (7 : Int32) then
      some (σ, (0 : Int32))
    else
      if (11 : Int32) ≤ p0 then
        some (σ, (0 : Int32))
      else
        some (σ, (1 : Int32))
def f_X6_from_J30 (σ : Sg) (x0 : Int32) (x1 : Int32) (y0 : Int32) : Rs :=
  some (σ, (y0 + ((2 : Int32) * ((x0 - y0) - (4 : Int32)))) + x1)
def f_X6_from (σ : Sg) (p0 : Int32) (p1 : Int32) : Rs :=
  if p0 = (14 : Int32) then
    if p1 = 0 then
      some (σ, (6 : Int32))
    else
      some (σ, (13 : Int32))
  else
    if (7 : Int32) ≤ p0 then
      f_X6_from_J30 σ p0 p1 (7 : Int32)
    else
      f_X6_from_J30 σ p0 p1 (0 : Int32)
def s_J7_fill_53178_L5 (a n : Nat) (rec : Sg → Int32 → Int32 → Int32 → Rs) (σ : Sg) (x1 : Int32) (x2 : Int32) (x3 : Int32) : Rs :=
  if x3 ≤ x2 then
    some (σ, 0)
  else
    if q_oob x2 n then none else
    q_lets (q_wr σ a x2.toNatClampNeg x1) fun s3 =>
    q_let (x2 + (1 : Int32)) fun v4 =>
    rec s3 x1 v4 x3
def f_J7_fill_53178_L5 (a n : Nat) (qn : Nat) : Sg → Int32 → Int32 → Int32 → Rs := Nat.rec (fun _ _ _ _ => none) (fun _ rec => s_J7_fill_53178_L5 a n rec) qn
def f_J7_fill_53178 (a n : Nat) (σ : Sg) (p1 : Int32) : Rs :=
  q_let (Int32.ofNat n) fun v1 =>
  f_J7_fill_53178_L5 a n 1000 σ p1 (0 : Int32) v1
def f_X3_init_9 (σ : Sg) : Rs :=
  q_lets (q_clr σ 10) fun s1 =>
  q_lets (q_clr s1 11) fun s2 =>
  some (s2, 0)
def f_X3_init_12 (σ : Sg) : Rs :=
  q_lets (q_clr σ 13) fun s1 =>
  q_lets (q_clr s1 14) fun s2 =>
  some (s2, 0)
def f_X2_init_1 (σ : Sg) : Rs :=
  q_lets (q_clr σ 2) fun s1 =>
  q_lets (q_clr s1 3) fun s2 =>
  q_lets (q_clr s2 4) fun s3 =>
  q_lets (q_clr s3 5) fun s4 =>
  q_lets (q_clr s4 6) fun s5 =>
  q_lets (q_clr s5 7) fun s6 =>
  q_lets (q_clr s6 8) fun s7 =>
  q_lets (q_clr s7 9) fun s8 =>
  q_bnd (f_X3_init_9 s8) fun s9 _ =>
  q_lets (q_clr s9 12) fun s11 =>
  q_bnd (f_X3_init_12 s11) fun s12 _ =>
  some (s12, 0)
def f_X0_init_15 (σ : Sg) : Rs :=
  q_lets (q_clr σ 16) fun s1 =>
  q_lets (q_clr s1 17) fun s2 =>
  q_lets (q_clr s2 18) fun s3 =>
  q_lets (q_clr s3 19) fun s4 =>
  q_lets (q_clr s4 20) fun s5 =>
  q_bnd (f_X5_set 17 2 s5 (0 : Int32) (5 : Int32)) fun s6 _ =>
  q_bnd (f_X5_set 18 2 s6 (0 : Int32) (82 : Int32)) fun s8 _ =>
  q_bnd (f_X5_set 17 2 s8 (1 : Int32) (2 : Int32)) fun s10 _ =>
  q_bnd (f_X5_set 18 2 s10 (1 : Int32) (78 : Int32)) fun s12 _ =>
  some (s12, 0)
def f_X4_init_21 (σ : Sg) : Rs :=
  q_lets (q_clr σ 22) fun s1 =>
  q_bnd (f_J7_fill_53178 22 8 s1 (1000 : Int32)) fun s2 _ =>
  some (s2, 0)
def f_X1_init_23 (σ : Sg) : Rs :=
  q_lets (q_clr σ 24) fun s1 =>
  q_lets (q_clr s1 25) fun s2 =>
  q_lets (q_wr s2 23 2 (2 : Int32)) fun s3 =>
  q_bnd (f_J7_fill_53178 24 15 s3 (-4 : Int32)) fun s4 _ =>
  q_bnd (f_J7_fill_53178 25 15 s4 (-4 : Int32)) fun s6 _ =>
  some (s6, 0)
def f_X5_init_0 (σ : Sg) : Rs :=
  q_lets (q_clr σ 1) fun s1 =>
  q_bnd (f_X2_init_1 s1) fun s2 _ =>
  q_lets (q_clr s2 15) fun s4 =>
  q_bnd (f_X0_init_15 s4) fun s5 _ =>
  q_lets (q_clr s5 21) fun s7 =>
  q_bnd (f_X4_init_21 s7) fun s8 _ =>
  q_lets (q_clr s8 23) fun s10 =>
  q_bnd (f_X1_init_23 s10) fun s11 _ =>
  some (s11, 0)
def s_X6_init_26_L270 (rec : Sg → Int32 → Rs) (σ : Sg) (x1 : Int32) : Rs :=
  if (151 : Int32) ≤ x1 then
    some (σ, 0)
  else
    if q_oob x1 151 then none else
    q_lets (q_wr σ 35 x1.toNatClampNeg (-1 : Int32)) fun s35 =>
    q_let (x1 + (1 : Int32)) fun v36 =>
    rec s35 v36
def f_X6_init_26_L270 (qn : Nat) : Sg → Int32 → Rs := Nat.rec (fun _ _ => none) (fun _ rec => s_X6_init_26_L270 rec) qn
def s_X6_init_26_L242 (rec : Sg → Int32 → Rs) (σ : Sg) (x1 : Int32) : Rs :=
  if (15 : Int32) ≤ x1 then
    f_X6_init_26_L270 1000 σ (0 : Int32)
  else
    if q_oob x1 15 then none else
    q_lets (q_wr σ 44 x1.toNatClampNeg (-1 : Int32)) fun s37 =>
    if q_oob x1 15 then none else
    q_lets (q_wr s37 45 x1.toNatClampNeg (-1 : Int32)) fun s38 =>
    q_let (x1 + (1 : Int32)) fun v39 =>
    rec s38 v39
def f_X6_init_26_L242 (qn : Nat) : Sg → Int32 → Rs := Nat.rec (fun _ _ => none) (fun _ rec => s_X6_init_26_L242 rec) qn
def f_X6_init_26 (σ : Sg) : Rs :=
  q_lets (q_clr σ 27) fun s1 =>
  if q_oob (0 : Int32) 8 then none else
  q_lets (q_wr s1 27 (0 : Int32).toNatClampNeg (1000 : Int32)) fun s2 =>
  if q_oob (1 : Int32) 8 then none else
  q_lets (q_wr s2 27 (1 : Int32).toNatClampNeg (1000 : Int32)) fun s3 =>
  if q_oob (2 : Int32) 8 then none else
  q_lets (q_wr s3 27 (2 : Int32).toNatClampNeg (1000 : Int32)) fun s4 =>
  if q_oob (3 : Int32) 8 then none else
  q_lets (q_wr s4 27 (3 : Int32).toNatClampNeg (1000 : Int32)) fun s5 =>
  if q_oob (4 : Int32) 8 then none else
  q_lets (q_wr s5 27 (4 : Int32).toNatClampNeg (1000 : Int32)) fun s6 =>
  if q_oob (5 : Int32) 8 then none else
  q_lets (q_wr s6 27 (5 : Int32).toNatClampNeg (1000 : Int32)) fun s7 =>
  if q_oob (6 : Int32) 8 then none else
  q_lets (q_wr s7 27 (6 : Int32).toNatClampNeg (1000 : Int32)) fun s8 =>
  if q_oob (7 : Int32) 8 then none else
  q_lets (q_wr s8 27 (7 : Int32).toNatClampNeg (1000 : Int32)) fun s9 =>
  q_lets (q_clr s9 28) fun s10 =>
  q_lets (q_clr s10 29) fun s11 =>
  q_lets (q_clr s11 30) fun s12 =>
  q_lets (q_clr s12 31) fun s13 =>
  q_lets (q_clr s13 32) fun s14 =>
  q_lets (q_clr s14 33) fun s15 =>
  q_lets (q_clr s15 34) fun s16 =>
  q_lets (q_clr s16 35) fun s17 =>
  q_lets (q_clr s17 36) fun s18 =>
  q_lets (q_clr s18 37) fun s19 =>
  q_lets (q_clr s19 38) fun s20 =>
  q_lets (q_clr s20 39) fun s21 =>
  q_lets (q_clr s21 40) fun s22 =>
  q_lets (q_clr s22 41) fun s23 =>
  q_lets (q_clr s23 42) fun s24 =>
  q_lets (q_clr s24 43) fun s25 =>
  q_lets (q_clr s25 44) fun s26 =>
  q_lets (q_clr s26 45) fun s27 =>
  q_lets (q_wr s27 26 31 (2 : Int32)) fun s28 =>
  if q_oob (0 : Int32) 2 then none else
  q_lets (q_wr s28 39 (0 : Int32).toNatClampNeg (5 : Int32)) fun s29 =>
  if q_oob (1 : Int32) 2 then none else
  q_lets (q_wr s29 39 (1 : Int32).toNatClampNeg (2 : Int32)) fun s30 =>
  if q_oob (0 : Int32) 2 then none else
  q_lets (q_wr s30 40 (0 : Int32).toNatClampNeg (82 : Int32)) fun s31 =>
  if q_oob (1 : Int32) 2 then none else
  q_lets (q_wr s31 40 (1 : Int32).toNatClampNeg (78 : Int32)) fun s32 =>
  f_X6_init_26_L242 1000 s32 (0 : Int32)
def f_X0_letterFor_J9 (σ : Sg) (x2 : Int32) (y0 : Int32) : Rs :=
  q_bnd (f_X5_at 17 2 σ y0) fun s2 r3 =>
  if r3 < x2 then
    some (s2, (-4 : Int32))
  else
    q_bnd (f_X5_at 18 2 s2 y0) fun s5 r6 =>
    some (s5, r6)
def f_X0_letterFor (σ : Sg) (p0 : Int32) (p1 : Int32) : Rs :=
  if p0 = 0 then
    f_X0_letterFor_J9 σ p1 (0 : Int32)
  else
    f_X0_letterFor_J9 σ p1 (1 : Int32)
def s_X0_append_L64 (rec : Sg → Int64 → Int32 → Rs) (σ : Sg) (x1 : Int64) (x4 : Int32) : Rs :=
  if x4 < 0 then
    some (σ, σ 15 1)
  else
    q_bnd (f_X0_byteOf σ x1 x4) fun s8 r9 =>
    q_bnd (f_X5_set 16 30 s8 (σ 15 1) r9) fun s10 _ =>
    q_lets (q_wr s10 15 1 ((s10 15 1) + (1 : Int32))) fun s12 =>
    q_let (x4 + (-1 : Int32)) fun v13 =>
    rec s12 x1 v13
def f_X0_append_L64 (qn : Nat) : Sg → Int64 → Int32 → Rs := Nat.rec (fun _ _ _ => none) (fun _ rec => s_X0_append_L64 rec) qn
def s_X0_append_L15 (rec : Sg → Int64 → Int32 → Int32 → Rs) (σ : Sg) (x1 : Int64) (x3 : Int32) (x4 : Int32) : Rs :=
  if x3 ≤ x4 then
    if ((σ 15 1) + x3) ≤ (30 : Int32) then
      q_let (x3 - (1 : Int32)) fun v6 =>
      f_X0_append_L64 1000 σ x1 v6
    else
      some (σ, (-3 : Int32))
  else
    q_bnd (f_X0_byteOf σ x1 x4) fun s14 r15 =>
    q_bnd (f_X5_within s14 r15 (32 : Int32) (126 : Int32)) fun s16 r17 =>
    if r17 = 0 then
      some (s16, (-1 : Int32))
    else
      q_let (x4 + (1 : Int32)) fun v19 =>
      rec s16 x1 x3 v19
def f_X0_append_L15 (qn : Nat) : Sg → Int64 → Int32 → Int32 → Rs := Nat.rec (fun _ _ _ _ => none) (fun _ rec => s_X0_append_L15 rec) qn
def f_X0_append (σ : Sg) (p0 : Int64) (p1 : Int32) : Rs :=
  q_bnd (f_X5_within σ p1 (1 : Int32) (8 : Int32)) fun s1 r2 =>
  if r2 = 0 then
    some (s1, (-1 : Int32))
  else
    f_X0_append_L15 1000 s1 p0 p1 (0 : Int32)
def f_X0_here (σ : Sg) : Rs :=
  if (σ 15 1) ≤ (σ 15 2) then
    some (σ, (-4 : Int32))
  else
    q_bnd (f_X5_at 16 30 σ (σ 15 2)) fun s2 r3 =>
    some (s2, r3)
def s_X0_skipBlanks_L0 (rec : Sg → Rs) (σ : Sg) : Rs :=
  if (σ 15 1) ≤ (σ 15 2) then
    some (σ, 0)
  else
    q_bnd (f_X0_here σ) fun s2 r3 =>
    if r3 = (32 : Int32) then
      q_lets (q_wr s2 15 2 ((s2 15 2) + (1 : Int32))) fun s5 =>
      rec s5
    else
      some (s2, 0)
def f_X0_skipBlanks_L0 (qn : Nat) : Sg → Rs := Nat.rec (fun _ => none) (fun _ rec => s_X0_skipBlanks_L0 rec) qn
def f_X0_skipBlanks (σ : Sg) : Rs :=
  f_X0_skipBlanks_L0 1000 σ
def f_X0_atEnd (σ : Sg) : Rs :=
  q_bnd (f_X0_skipBlanks σ) fun s1 _ =>
  if (s1 15 2) < (s1 15 1) then
    some (s1, (0 : Int32))
  else
    some (s1, (1 : Int32))
def f_X0_readNumber_J63 (σ : Sg) (x1 : Int32) (x2 : Int32) : Rs :=
  if (σ 15 2) = x1 then
    some (σ, (-4 : Int32))
  else
    if x2 ≤ (99 : Int32) then
      some (σ, x2)
    else
      q_lets (q_wr σ 15 2 x1) fun s5 =>
      some (s5, (-4 : Int32))
def s_X0_readNumber_L7 (rec : Sg → Int32 → Int32 → Rs) (σ : Sg) (x1 : Int32) (x2 : Int32) : Rs :=
  if (σ 15 1) ≤ (σ 15 2) then
    f_X0_readNumber_J63 σ x1 x2
  else
    q_bnd (f_X0_here σ) fun s6 r7 =>
    q_bnd (f_X5_within s6 r7 (48 : Int32) (57 : Int32)) fun s8 r9 =>
    if r9 = 0 then
      f_X0_readNumber_J63 s8 x1 x2
    else
      q_bnd (f_X0_here s8) fun s11 r12 =>
      q_let (if (((x2 * (10 : Int32)) + r12) - (48 : Int32)) < (100 : Int32) then (((x2 * (10 : Int32)) + r12) - (48 : Int32)) else (100 : Int32)) fun v13 =>
      q_lets (q_wr s11 15 2 ((s11 15 2) + (1 : Int32))) fun s14 =>
      rec s14 x1 v13
def f_X0_readNumber_L7 (qn : Nat) : Sg → Int32 → Int32 → Rs := Nat.rec (fun _ _ _ => none) (fun _ rec => s_X0_readNumber_L7 rec) qn
def f_X0_readNumber (σ : Sg) : Rs :=
  q_let (σ 15 2) fun v1 =>
  f_X0_readNumber_L7 1000 σ v1 (0 : Int32)
def f_X0_readClause_J98 (σ : Sg) (x1 : Int32) (x2 : Int32) (x3 : Int32) (y1 : Int32) : Rs :=
  q_bnd (f_X5_set 19 2 σ y1 x2) fun s19 _ =>
  if x1 = (112 : Int32) then
    q_bnd (f_X5_set 20 2 s19 (0 : Int32) x3) fun s22 _ =>
    some (s22, (1 : Int32))
  else
    q_bnd (f_X5_set 20 2 s19 (1 : Int32) x3) fun s24 _ =>
    some (s24, (1 : Int32))
def f_X0_readClause_J73 (σ : Sg) (x1 : Int32) (x2 : Int32) (x3 : Int32) : Rs :=
  q_lets (q_wr σ 15 2 ((σ 15 2) + (1 : Int32))) fun s17 =>
  if x1 = (112 : Int32) then
    f_X0_readClause_J98 s17 x1 x2 x3 (0 : Int32)
  else
    f_X0_readClause_J98 s17 x1 x2 x3 (1 : Int32)
def f_X0_readClause_J23 (σ : Sg) (x1 : Int32) : Rs :=
  q_lets (q_wr σ 15 2 ((σ 15 2) + (1 : Int32))) fun s6 =>
  q_bnd (f_X0_skipBlanks s6) fun s7 _ =>
  q_bnd (f_X0_readNumber s7) fun s9 r10 =>
  if r10 = (-4 : Int32) then
    some (s9, (0 : Int32))
  else
    q_bnd (f_X0_skipBlanks s9) fun s12 _ =>
    q_bnd (f_X0_here s12) fun s14 r15 =>
    if r15 = (82 : Int32) then
      f_X0_readClause_J73 s14 x1 r10 r15
    else
      if r15 = (78 : Int32) then
        f_X0_readClause_J73 s14 x1 r10 r15
      else
        some (s14, (0 : Int32))
def f_X0_readClause (σ : Sg) : Rs :=
  q_bnd (f_X0_skipBlanks σ) fun s1 _ =>
  q_bnd (f_X0_here s1) fun s3 r4 =>
  if r4 = (112 : Int32) then
    f_X0_readClause_J23 s3 r4
  else
    if r4 = (114 : Int32) then
      f_X0_readClause_J23 s3 r4
    else
      some (s3, (0 : Int32))
def f_X0_read (σ : Sg) : Rs :=
  q_bnd (f_X0_atEnd σ) fun s1 r2 =>
  if r2 = 0 then
    q_bnd (f_X0_readClause s1) fun s4 r5 =>
    if r5 = 0 then
      some (s4, (-20 : Int32) - (s4 15 2))
    else
      q_bnd (f_X0_atEnd s4) fun s7 r8 =>
      if r8 = 0 then
        q_bnd (f_X0_here s7) fun s10 r11 =>
        if r11 = (59 : Int32) then
          q_lets (q_wr s10 15 2 ((s10 15 2) + (1 : Int32))) fun s13 =>
          q_bnd (f_X0_readClause s13) fun s14 r15 =>
          if r15 = 0 then
            some (s14, (-20 : Int32) - (s14 15 2))
          else
            q_bnd (f_X0_atEnd s14) fun s17 r18 =>
            if r18 = 0 then
              some (s17, (-20 : Int32) - (s17 15 2))
            else
              some (s17, (2 : Int32))
        else
          some (s10, (-20 : Int32) - (s10 15 2))
      else
        some (s7, (1 : Int32))
  else
    some (s1, (0 : Int32))
def s_X0_adoptDraft_L2 (rec : Sg → Int32 → Rs) (σ : Sg) (x1 : Int32) : Rs :=
  if (2 : Int32) ≤ x1 then
    some (σ, 0)
  else
    q_bnd (f_X5_at 19 2 σ x1) fun s2 r3 =>
    q_bnd (f_X5_set 17 2 s2 x1 r3) fun s4 _ =>
    q_bnd (f_X5_at 20 2 s4 x1) fun s6 r7 =>
    q_bnd (f_X5_set 18 2 s6 x1 r7) fun s8 _ =>
    q_let (x1 + (1 : Int32)) fun v10 =>
    rec s8 v10
def f_X0_adoptDraft_L2 (qn : Nat) : Sg → Int32 → Rs := Nat.rec (fun _ _ => none) (fun _ rec => s_X0_adoptDraft_L2 rec) qn
def f_X0_adoptDraft (σ : Sg) : Rs :=
  f_X0_adoptDraft_L2 1000 σ (0 : Int32)
def f_X0_takeTape (σ : Sg) : Rs :=
  q_lets (q_wr σ 15 2 (0 : Int32)) fun s1 =>
  q_bnd (f_J7_fill_53178 20 2 s1 (-4 : Int32)) fun s2 _ =>
  q_bnd (f_X0_read s2) fun s4 r5 =>
  if r5 < 0 then
    q_lets (q_wr s4 15 1 (0 : Int32)) fun s7 =>
    some (s7, r5)
  else
    q_bnd (f_X0_adoptDraft s4) fun s8 _ =>
    q_lets (q_wr s8 15 1 (0 : Int32)) fun s10 =>
    some (s10, r5)
def f_X1_hasTwoWinners (σ : Sg) : Rs :=
  q_bnd (f_X5_at 24 15 σ (6 : Int32)) fun s1 r2 =>
  q_bnd (f_X5_at 24 15 s1 (13 : Int32)) fun s3 r4 =>
  if r2 = (-4 : Int32) then
    some (s3, (0 : Int32))
  else
    if r4 = (-4 : Int32) then
      some (s3, (0 : Int32))
    else
      if r2 = r4 then
        some (s3, (0 : Int32))
      else
        some (s3, (1 : Int32))
def f_X1_who_J43 (σ : Sg) (x1 : Int32) (x2 : Int32) : Rs :=
  q_bnd (f_X5_at 102 15 σ x1) fun s9 r10 =>
  if r10 = (-4 : Int32) then
    if x2 = 0 then
      q_bnd (f_X5_at 100 15 s9 x1) fun s13 r14 =>
      some (s13, r14)
    else
      q_bnd (f_X5_at 101 15 s9 x1) fun s15 r16 =>
      some (s15, r16)
  else
    q_bnd (f_X5_at 24 15 s9 r10) fun s17 r18 =>
    some (s17, r18)
def f_X1_who_J43_1 (σ : Sg) (x1 : Int32) (x2 : Int32) : Rs :=
  q_bnd (f_X5_at 103 15 σ x1) fun s19 r20 =>
  if r20 = (-4 : Int32) then
    if x2 = 0 then
      q_bnd (f_X5_at 100 15 s19 x1) fun s23 r24 =>
      some (s23, r24)
    else
      q_bnd (f_X5_at 101 15 s19 x1) fun s25 r26 =>
      some (s25, r26)
  else
    q_bnd (f_X5_at 24 15 s19 r20) fun s27 r28 =>
    some (s27, r28)
def f_X1_who_J30 (σ : Sg) (x1 : Int32) (x2 : Int32) : Rs :=
  if x2 = 0 then
    f_X1_who_J43 σ x1 x2
  else
    f_X1_who_J43_1 σ x1 x2
def f_X1_who (σ : Sg) (p0 : Int32) (p1 : Int32) : Rs :=
  if p1 = (2 : Int32) then
    q_bnd (f_X5_at 24 15 σ p0) fun s2 r3 =>
    some (s2, r3)
  else
    if p0 = (14 : Int32) then
      q_bnd (f_X1_hasTwoWinners σ) fun s5 r6 =>
      if r6 = 0 then
        some (s5, (-4 : Int32))
      else
        f_X1_who_J30 s5 p0 p1
    else
      f_X1_who_J30 σ p0 p1
def f_X1_give_J55 (σ : Sg) (x1 : Int32) (x2 : Int32) : Rs :=
  q_bnd (f_X5_set 24 15 σ x1 x2) fun s11 _ =>
  some (s11, (1 : Int32))
def f_X1_give (σ : Sg) (p0 : Int32) (p1 : Int32) : Rs :=
  q_bnd (f_X1_who σ p0 (0 : Int32)) fun s1 r2 =>
  q_bnd (f_X1_who s1 p0 (1 : Int32)) fun s3 r4 =>
  if r2 = (-4 : Int32) then
    some (s3, (-2 : Int32))
  else
    if r4 = (-4 : Int32) then
      some (s3, (-2 : Int32))
    else
      q_bnd (f_X5_at 24 15 s3 p0) fun s7 r8 =>
      if r8 = (-4 : Int32) then
        if p1 = r2 then
          f_X1_give_J55 s7 p0 p1
        else
          if p1 = r4 then
            f_X1_give_J55 s7 p0 p1
          else
            some (s7, (-2 : Int32))
      else
        some (s7, (-2 : Int32))
def s_X1_takeBack_L23 (rec : Sg → Int32 → Int32 → Int32 → Rs) (σ : Sg) (x2 : Int32) (x3 : Int32) (x4 : Int32) : Rs :=
  if (15 : Int32) ≤ x4 then
    some (σ, x2)
  else
    if x3 = (-4 : Int32) then
      some (σ, x2)
    else
      q_bnd (f_X5_at 24 15 σ x3) fun s6 r7 =>
      if r7 = (-4 : Int32) then
        q_bnd (f_X5_at 104 15 s6 x3) fun s9 r10 =>
        q_let (x4 + (1 : Int32)) fun v11 =>
        rec s9 x2 r10 v11
      else
        q_bnd (f_X5_set 24 15 s6 x3 (-4 : Int32)) fun s12 _ =>
        q_let (x2 + (1 : Int32)) fun v14 =>
        q_bnd (f_X5_at 104 15 s12 x3) fun s15 r16 =>
        q_let (x4 + (1 : Int32)) fun v17 =>
        rec s15 v14 r16 v17
def f_X1_takeBack_L23 (qn : Nat) : Sg → Int32 → Int32 → Int32 → Rs := Nat.rec (fun _ _ _ _ => none) (fun _ rec => s_X1_takeBack_L23 rec) qn
def f_X1_takeBack (σ : Sg) (p0 : Int32) : Rs :=
  q_bnd (f_X5_at 24 15 σ p0) fun s1 r2 =>
  if r2 = (-4 : Int32) then
    some (s1, (-2 : Int32))
  else
    f_X1_takeBack_L23 1000 s1 (0 : Int32) p0 (0 : Int32)
def f_X1_best (σ : Sg) : Rs :=
  q_bnd (f_X5_at 24 15 σ (6 : Int32)) fun s1 r2 =>
  q_bnd (f_X5_at 24 15 s1 (13 : Int32)) fun s3 r4 =>
  if r2 = r4 then
    some (s3, r2)
  else
    q_bnd (f_X5_at 24 15 s3 (14 : Int32)) fun s6 r7 =>
    some (s6, r7)
def s_X1_laid_L4 (rec : Sg → Int32 → Int32 → Rs) (σ : Sg) (x1 : Int32) (x2 : Int32) : Rs :=
  if (15 : Int32) ≤ x2 then
    some (σ, x1)
  else
    q_bnd (f_X5_at 25 15 σ x2) fun s2 r3 =>
    if r3 = (-4 : Int32) then
      q_let (x2 + (1 : Int32)) fun v5 =>
      rec s2 x1 v5
    else
      q_let (x1 + (1 : Int32)) fun v6 =>
      q_let (x2 + (1 : Int32)) fun v7 =>
      rec s2 v6 v7
def f_X1_laid_L4 (qn : Nat) : Sg → Int32 → Int32 → Rs := Nat.rec (fun _ _ _ => none) (fun _ rec => s_X1_laid_L4 rec) qn
def f_X1_laid (σ : Sg) : Rs :=
  f_X1_laid_L4 1000 σ (0 : Int32) (0 : Int32)
def f_X1_setLawns (σ : Sg) (p0 : Int32) : Rs :=
  q_bnd (f_X1_laid σ) fun s1 r2 =>
  if r2 ≤ 0 then
    q_let (s1 23 2) fun v4 =>
    q_lets (q_wr s1 23 2 p0) fun s5 =>
    some (s5, v4)
  else
    some (s1, (-2 : Int32))
def f_X1_hourOf (σ : Sg) (p0 : Int32) : Rs :=
  q_bnd (f_X5_at 25 15 σ p0) fun s1 r2 =>
  some (s1, r2)
def f_X1_plays (σ : Sg) (p0 : Int32) (p1 : Int32) : Rs :=
  if p1 = (-4 : Int32) then
    some (σ, (0 : Int32))
  else
    q_bnd (f_X1_who σ p0 (0 : Int32)) fun s2 r3 =>
    if p1 = r3 then
      some (s2, (1 : Int32))
    else
      q_bnd (f_X1_who s2 p0 (1 : Int32)) fun s5 r6 =>
      if p1 = r6 then
        some (s5, (1 : Int32))
      else
        some (s5, (0 : Int32))
def s_X1_isFree_L5 (rec : Sg → Int32 → Int32 → Int32 → Int32 → Rs) (σ : Sg) (x1 : Int32) (x2 : Int32) (x3 : Int32) (x4 : Int32) : Rs :=
  if (15 : Int32) ≤ x4 then
    if (σ 23 2) ≤ x3 then
      some (σ, (0 : Int32))
    else
      some (σ, (1 : Int32))
  else
    q_bnd (f_X5_at 25 15 σ x4) fun s3 r4 =>
    if r4 = x2 then
      q_bnd (f_X1_who s3 x1 (0 : Int32)) fun s6 r7 =>
      q_bnd (f_X1_plays s6 x4 r7) fun s8 r9 =>
      if r9 = 0 then
        q_bnd (f_X1_who s8 x1 (1 : Int32)) fun s11 r12 =>
        q_bnd (f_X1_plays s11 x4 r12) fun s13 r14 =>
        if r14 = 0 then
          q_let (x3 + (1 : Int32)) fun v16 =>
          q_let (x4 + (1 : Int32)) fun v17 =>
          rec s13 x1 x2 v16 v17
        else
          some (s13, (0 : Int32))
      else
        some (s8, (0 : Int32))
    else
      q_let (x4 + (1 : Int32)) fun v18 =>
      rec s3 x1 x2 x3 v18
def f_X1_isFree_L5 (qn : Nat) : Sg → Int32 → Int32 → Int32 → Int32 → Rs := Nat.rec (fun _ _ _ _ _ => none) (fun _ rec => s_X1_isFree_L5 rec) qn
def f_X1_isFree (σ : Sg) (p0 : Int32) (p1 : Int32) : Rs :=
  f_X1_isFree_L5 1000 σ p0 p1 (0 : Int32) (0 : Int32)
def f_X1_place_J106 (σ : Sg) (x1 : Int32) (x2 : Int32) : Rs :=
  q_bnd (f_X5_set 25 15 σ x1 x2) fun s8 _ =>
  some (s8, x2)
def s_X1_place_L85 (rec : Sg → Int32 → Int32 → Rs) (σ : Sg) (x1 : Int32) (x2 : Int32) : Rs :=
  if (15 : Int32) ≤ x2 then
    f_X1_place_J106 σ x1 x2
  else
    q_bnd (f_X1_isFree σ x1 x2) fun s10 r11 =>
    if r11 = 0 then
      q_let (x2 + (1 : Int32)) fun v13 =>
      rec s10 x1 v13
    else
      f_X1_place_J106 s10 x1 x2
def f_X1_place_L85 (qn : Nat) : Sg → Int32 → Int32 → Rs := Nat.rec (fun _ _ _ => none) (fun _ rec => s_X1_place_L85 rec) qn
def f_X1_place (σ : Sg) (p0 : Int32) : Rs :=
  q_bnd (f_X5_at 25 15 σ p0) fun s1 r2 =>
  if r2 = (-4 : Int32) then
    q_bnd (f_X5_at 102 15 s1 p0) fun s4 r5 =>
    if r5 = (-4 : Int32) then
      f_X1_place_L85 1000 s4 p0 (0 : Int32)
    else
      q_bnd (f_X5_at 25 15 s4 r5) fun s14 r15 =>
      q_bnd (f_X5_at 103 15 s14 p0) fun s16 r17 =>
      q_bnd (f_X5_at 25 15 s16 r17) fun s18 r19 =>
      if r15 = (-4 : Int32) then
        some (s18, (-2 : Int32))
      else
        if r19 = (-4 : Int32) then
          some (s18, (-2 : Int32))
        else
          q_let (if r15 < r19 then r19 else r15) fun v22 =>
          q_let (v22 + (1 : Int32)) fun v23 =>
          f_X1_place_L85 1000 s18 p0 v23
  else
    some (s1, (-2 : Int32))
def f_X1_liftAll (σ : Sg) : Rs :=
  q_bnd (f_X1_laid σ) fun s1 r2 =>
  q_bnd (f_J7_fill_53178 25 15 s1 (-4 : Int32)) fun s3 _ =>
  some (s3, r2)
def f_X3_stopFor (o : Nat) (σ : Sg) (p0 : Int32) : Rs :=
  q_lets (q_wr σ o 2 p0) fun s1 =>
  q_lets (q_wr s1 o 3 (-4 : Int32)) fun s2 =>
  q_lets (q_wr s2 o 4 (0 : Int32)) fun s3 =>
  q_lets (q_wr s3 o 5 (0 : Int32)) fun s4 =>
  q_lets (q_wr s4 o 6 (-4 : Int32)) fun s5 =>
  q_lets (q_wr s5 o 7 (-4 : Int32)) fun s6 =>
  some (s6, 0)
def f_X3_begin (o : Nat) (σ : Sg) (p0 : Int32) (p1 : Int32) : Rs :=
  q_bnd (f_J7_fill_53178 (o + 1) 4 σ (0 : Int32)) fun s1 _ =>
  q_bnd (f_X5_set (o + 2) 2 s1 (0 : Int32) p0) fun s3 _ =>
  q_bnd (f_X5_set (o + 2) 2 s3 (1 : Int32) p1) fun s5 _ =>
  q_bnd (f_X3_stopFor o s5 (0 : Int32)) fun s7 _ =>
  some (s7, 0)
def f_X2_begin (σ : Sg) (p0 : Int32) (p1 : Int32) (p2 : Int32) (p3 : Int32) : Rs :=
  q_bnd (f_X5_set 8 2 σ (0 : Int32) p0) fun s1 _ =>
  q_bnd (f_X5_set 8 2 s1 (1 : Int32) p1) fun s3 _ =>
  q_lets (q_wr s3 1 11 p2) fun s5 =>
  q_lets (q_wr s5 1 12 p3) fun s6 =>
  q_lets (q_wr s6 1 9 (1 : Int32)) fun s7 =>
  q_lets (q_wr s7 1 10 (0 : Int32)) fun s8 =>
  q_bnd (f_X5_set 7 151 s8 (0 : Int32) (0 : Int32)) fun s9 _ =>
  q_bnd (f_X3_begin 9 s9 (s9 1 11) (s9 1 12)) fun s11 _ =>
  some (s11, 0)
def f_X2_end (σ : Sg) : Rs :=
  q_lets (q_wr σ 1 9 (0 : Int32)) fun s1 =>
  q_lets (q_wr s1 1 10 (0 : Int32)) fun s2 =>
  some (s2, 0)
def f_X3_isOut (o : Nat) (σ : Sg) (p0 : Int32) : Rs :=
  q_bnd (f_X5_at (o + 1) 4 σ p0) fun s1 r2 =>
  if r2 = (7 : Int32) then
    some (s1, (1 : Int32))
  else
    some (s1, (0 : Int32))
def f_X3_winner_J18 (o : Nat) (σ : Sg) : Rs :=
  q_bnd (f_X3_isOut o σ (1 : Int32)) fun s4 r5 =>
  if r5 = 0 then
    some (s4, (-4 : Int32))
  else
    q_bnd (f_X3_isOut o s4 (3 : Int32)) fun s7 r8 =>
    if r8 = 0 then
      some (s7, (-4 : Int32))
    else
      some (s7, (1 : Int32))
def f_X3_winner (o : Nat) (σ : Sg) : Rs :=
  q_bnd (f_X3_isOut o σ (0 : Int32)) fun s1 r2 =>
  if r2 = 0 then
    f_X3_winner_J18 o s1
  else
    q_bnd (f_X3_isOut o s1 (2 : Int32)) fun s10 r11 =>
    if r11 = 0 then
      f_X3_winner_J18 o s10
    else
      some (s10, (0 : Int32))
def f_X2_winner (σ : Sg) : Rs :=
  if (σ 1 9) = 0 then
    some (σ, (-4 : Int32))
  else
    q_bnd (f_X3_winner 9 σ) fun s2 r3 =>
    some (s2, r3)
def f_X2_playerOf (σ : Sg) (p0 : Int32) : Rs :=
  q_bnd (f_X5_at 8 2 σ p0) fun s1 r2 =>
  some (s1, r2)
def f_X3_allowsFree (o : Nat) (σ : Sg) : Rs :=
  if (σ o 7) = (-4 : Int32) then
    some (σ, (0 : Int32))
  else
    q_bnd (f_X3_isOut o σ (σ o 7)) fun s2 r3 =>
    if r3 = 0 then
      q_bnd (f_X5_at (o + 2) 2 s2 ((1 : Int32) - (s2 o 2))) fun s5 r6 =>
      if r6 ≤ 0 then
        some (s5, (0 : Int32))
      else
        some (s5, (1 : Int32))
    else
      some (s2, (0 : Int32))
def f_X3_allowsFresh (o : Nat) (σ : Sg) (p0 : Int32) (p1 : Int32) : Rs :=
  if p0 < (2 : Int32) then
    some (σ, (1 : Int32))
  else
  if (5 : Int32) < p0 then
    some (σ, (1 : Int32))
  else
  if p0 = (2 : Int32) then
    q_bnd (f_X5_at (o + 1) 4 σ (σ o 3)) fun s4 r5 =>
    if (6 : Int32) ≤ r5 then
      some (s4, (0 : Int32))
    else
      some (s4, (1 : Int32))
  else
  if p0 = (3 : Int32) then
    if p1 = (σ o 3) then
      some (σ, (0 : Int32))
    else
      q_bnd (f_X3_isOut o σ p1) fun s9 r10 =>
      if r10 = 0 then
        some (s9, (1 : Int32))
      else
        some (s9, (0 : Int32))
  else
  if p0 = (4 : Int32) then
    some (σ, (1 : Int32))
  else
  if p0 = (5 : Int32) then
    q_bnd (f_X5_at (o + 1) 4 σ (σ o 3)) fun s14 r15 =>
    if r15 = (6 : Int32) then
      some (s14, (1 : Int32))
    else
      some (s14, (0 : Int32))
  else
  none
def f_X3_allows (o : Nat) (σ : Sg) (p0 : Int32) (p1 : Int32) : Rs :=
  q_bnd (f_X3_winner o σ) fun s1 r2 =>
  if r2 = (-4 : Int32) then
    if p0 = 0 then
      if (s1 o 3) = (-4 : Int32) then
        q_bnd (f_X3_isOut o s1 p1) fun s6 r7 =>
        if r7 = 0 then
          some (s6, (1 : Int32))
        else
          some (s6, (0 : Int32))
      else
        some (s1, (0 : Int32))
    else
      if p0 = (6 : Int32) then
        if (s1 o 3) = (-4 : Int32) then
          q_bnd (f_X3_allowsFree o s1) fun s11 r12 =>
          if r12 = 0 then
            some (s11, (0 : Int32))
          else
            some (s11, (1 : Int32))
        else
          some (s1, (0 : Int32))
      else
        if (s1 o 3) = (-4 : Int32) then
          some (s1, (0 : Int32))
        else
          if p0 = (4 : Int32) then
            if (s1 o 6) = (-4 : Int32) then
              some (s1, (0 : Int32))
            else
              some (s1, (1 : Int32))
          else
            if (s1 o 6) = (-4 : Int32) then
              q_bnd (f_X3_allowsFresh o s1 p0 p1) fun s18 r19 =>
              if r19 = 0 then
                some (s18, (0 : Int32))
              else
                some (s18, (1 : Int32))
            else
              some (s1, (0 : Int32))
  else
    some (s1, (0 : Int32))
def f_X3_isWrong (o : Nat) (σ : Sg) (p0 : Int32) (p1 : Int32) : Rs :=
  if p0 = 0 then
    if (p1 - p1 / (2 : Int32) * (2 : Int32)) = (σ o 2) then
      some (σ, (0 : Int32))
    else
      some (σ, (1 : Int32))
  else
    if p0 = (3 : Int32) then
      if (((σ o 5) >>> (p1 &&& 31)) &&& (1 : Int32)) = 0 then
        some (σ, (1 : Int32))
      else
        some (σ, (0 : Int32))
    else
      some (σ, (0 : Int32))
def f_X3_inPlay (o : Nat) (σ : Sg) : Rs :=
  some (σ, σ o 3)
def f_X3_side (o : Nat) (σ : Sg) : Rs :=
  some (σ, σ o 2)
def f_X2_noteStriker (σ : Sg) (p0 : Int32) : Rs :=
  q_bnd (f_X3_inPlay 9 σ) fun s1 r2 =>
  q_bnd (f_X5_set 4 150 s1 p0 r2) fun s3 _ =>
  q_bnd (f_X3_side 9 s3) fun s5 r6 =>
  q_bnd (f_X5_set 5 150 s5 p0 r6) fun s7 _ =>
  some (s7, 0)
def s_X3_bringIn_L17 (o : Nat) (rec : Sg → Int32 → Int32 → Rs) (σ : Sg) (x1 : Int32) (x2 : Int32) : Rs :=
  if (4 : Int32) ≤ x2 then
    some (σ, 0)
  else
    if x2 = x1 then
      q_let (x2 + (1 : Int32)) fun v6 =>
      rec σ x1 v6
    else
      q_bnd (f_X5_at (o + 1) 4 σ x2) fun s7 r8 =>
      if r8 = (7 : Int32) then
        q_let (x2 + (1 : Int32)) fun v10 =>
        rec s7 x1 v10
      else
        q_lets (q_wr s7 o 5 ((s7 o 5) ||| ((1 : Int32) <<< (x2 &&& 31)))) fun s11 =>
        q_let (x2 + (1 : Int32)) fun v12 =>
        rec s11 x1 v12
def f_X3_bringIn_L17 (o : Nat) (qn : Nat) : Sg → Int32 → Int32 → Rs := Nat.rec (fun _ _ _ => none) (fun _ rec => s_X3_bringIn_L17 o rec) qn
def f_X3_bringIn (o : Nat) (σ : Sg) (p0 : Int32) : Rs :=
  q_lets (q_wr σ o 3 p0) fun s1 =>
  q_lets (q_wr s1 o 4 (1 : Int32)) fun s2 =>
  q_lets (q_wr s2 o 5 (0 : Int32)) fun s3 =>
  f_X3_bringIn_L17 o 1000 s3 p0 (0 : Int32)
def f_X3_endTurn (o : Nat) (σ : Sg) : Rs :=
  if (σ o 3) = (-4 : Int32) then
    some (σ, 0)
  else
    q_let (σ o 3) fun v2 =>
    q_bnd (f_X3_stopFor o σ ((1 : Int32) - (σ o 2))) fun s3 _ =>
    q_lets (q_wr s3 o 7 v2) fun s5 =>
    some (s5, 0)
def f_X3_roquet (o : Nat) (σ : Sg) (p0 : Int32) : Rs :=
  q_lets (q_wr σ o 4 ((σ o 4) - (1 : Int32))) fun s1 =>
  q_lets (q_wr s1 o 5 ((s1 o 5) &&& (((1 : Int32) <<< (p0 &&& 31)) ^^^ (-1 : Int32)))) fun s2 =>
  q_lets (q_wr s2 o 6 p0) fun s3 =>
  some (s3, 0)
def f_X3_croquet (o : Nat) (σ : Sg) : Rs :=
  q_lets (q_wr σ o 4 (1 : Int32)) fun s1 =>
  q_lets (q_wr s1 o 6 (-4 : Int32)) fun s2 =>
  some (s2, 0)
def f_X3_spendFree (o : Nat) (σ : Sg) : Rs :=
  q_lets (q_wr σ o 2 ((1 : Int32) - (σ o 2))) fun s1 =>
  q_bnd (f_X5_at (o + 2) 2 s1 (s1 o 2)) fun s2 r3 =>
  q_bnd (f_X5_set (o + 2) 2 s2 (s1 o 2) (r3 - (1 : Int32))) fun s4 _ =>
  some (s4, 0)
def f_X3_lead_J125 (o : Nat) (σ : Sg) : Rs :=
  q_bnd (f_X3_spendFree o σ) fun s2 _ =>
  q_bnd (f_X3_bringIn o s2 (s2 o 7)) fun s4 _ =>
  some (s4, 0)
def f_X3_lead (o : Nat) (σ : Sg) (p0 : Int32) (p1 : Int32) : Rs :=
  if p0 < (0 : Int32) then
    f_X3_lead_J125 o σ
  else
  if (5 : Int32) < p0 then
    f_X3_lead_J125 o σ
  else
  if p0 = (0 : Int32) then
    q_bnd (f_X3_bringIn o σ p1) fun s8 _ =>
    some (s8, 0)
  else
  if p0 = (1 : Int32) then
    q_bnd (f_X3_endTurn o σ) fun s11 _ =>
    some (s11, 0)
  else
  if p0 = (2 : Int32) then
    q_bnd (f_X5_at (o + 1) 4 σ (σ o 3)) fun s14 r15 =>
    q_bnd (f_X5_set (o + 1) 4 s14 (σ o 3) (r15 + (1 : Int32))) fun s16 _ =>
    q_bnd (f_X3_bringIn o s16 (s16 o 3)) fun s18 _ =>
    some (s18, 0)
  else
  if p0 = (3 : Int32) then
    q_bnd (f_X3_roquet o σ p1) fun s21 _ =>
    some (s21, 0)
  else
  if p0 = (4 : Int32) then
    q_bnd (f_X3_croquet o σ) fun s24 _ =>
    some (s24, 0)
  else
  if p0 = (5 : Int32) then
    q_bnd (f_X5_set (o + 1) 4 σ (σ o 3) (7 : Int32)) fun s27 _ =>
    q_bnd (f_X3_endTurn o s27) fun s29 _ =>
    some (s29, 0)
  else
  none
def f_X2_take_J116 (σ : Sg) (x3 : Int32) : Rs :=
  q_lets (q_wr σ 1 10 (x3 + (1 : Int32))) fun s26 =>
  q_bnd (f_X5_set 7 151 s26 (s26 1 10) (0 : Int32)) fun s27 _ =>
  some (s27, x3)
def f_X2_take_J95 (σ : Sg) (x1 : Int32) (x2 : Int32) (x3 : Int32) : Rs :=
  q_bnd (f_X3_lead 9 σ x1 x2) fun s21 _ =>
  q_bnd (f_X2_begins s21 x1) fun s23 r24 =>
  if r24 = 0 then
    f_X2_take_J116 s23 x3
  else
    q_bnd (f_X2_noteStriker s23 x3) fun s29 _ =>
    f_X2_take_J116 s29 x3
def f_X2_take_J80 (σ : Sg) (x1 : Int32) (x2 : Int32) (x3 : Int32) (y1 : Int32) (y2 : Int32) : Rs :=
  q_bnd (f_X5_set 6 150 σ y1 y2) fun s14 _ =>
  q_bnd (f_X2_begins s14 x1) fun s16 r17 =>
  if r17 = 0 then
    q_bnd (f_X2_noteStriker s16 x3) fun s19 _ =>
    f_X2_take_J95 s19 x1 x2 x3
  else
    f_X2_take_J95 s16 x1 x2 x3
def f_X2_take (σ : Sg) (p0 : Int32) (p1 : Int32) : Rs :=
  if (σ 1 9) = 0 then
    some (σ, (-2 : Int32))
  else
    q_bnd (f_X3_allows 9 σ p0 p1) fun s2 r3 =>
    if r3 = 0 then
      some (s2, (-2 : Int32))
    else
      if (s2 1 10) < (150 : Int32) then
        q_let (s2 1 10) fun v6 =>
        q_bnd (f_X5_set 2 150 s2 v6 p0) fun s7 _ =>
        q_bnd (f_X5_set 3 150 s7 v6 p1) fun s9 _ =>
        q_bnd (f_X3_isWrong 9 s9 p0 p1) fun s11 r12 =>
        if r12 = 0 then
          f_X2_take_J80 s11 p0 p1 v6 v6 (0 : Int32)
        else
          f_X2_take_J80 s11 p0 p1 v6 v6 (1 : Int32)
      else
        some (s2, (-3 : Int32))
def f_X2_has (σ : Sg) (p0 : Int32) : Rs :=
  if p0 < 0 then
    some (σ, (0 : Int32))
  else
    if (σ 1 10) ≤ p0 then
      some (σ, (0 : Int32))
    else
      some (σ, (1 : Int32))
def f_X2_tell (σ : Sg) (p0 : Int32) (p1 : Int32) : Rs :=
  q_bnd (f_X2_has σ p0) fun s1 r2 =>
  if r2 = 0 then
    some (s1, (-4 : Int32))
  else
    if p1 < (0 : Int32) then
      q_bnd (f_X5_at 6 150 s1 p0) fun s5 r6 =>
      some (s5, r6)
    else
    if (2 : Int32) < p1 then
      q_bnd (f_X5_at 6 150 s1 p0) fun s8 r9 =>
      some (s8, r9)
    else
    if p1 = (0 : Int32) then
      q_bnd (f_X5_at 2 150 s1 p0) fun s11 r12 =>
      some (s11, r12)
    else
    if p1 = (1 : Int32) then
      q_bnd (f_X5_at 4 150 s1 p0) fun s14 r15 =>
      some (s14, r15)
    else
    if p1 = (2 : Int32) then
      q_bnd (f_X5_at 5 150 s1 p0) fun s17 r18 =>
      some (s17, r18)
    else
    none
def f_X2_roqueted (σ : Sg) (p0 : Int32) : Rs :=
  q_bnd (f_X2_has σ p0) fun s1 r2 =>
  if r2 = 0 then
    some (s1, (-1 : Int32))
  else
    q_bnd (f_X5_at 2 150 s1 p0) fun s4 r5 =>
    if r5 = (3 : Int32) then
      q_bnd (f_X5_at 3 150 s4 p0) fun s7 r8 =>
      some (s7, r8)
    else
      some (s4, (-13 : Int32))
def f_X2_obey (o : Nat) (σ : Sg) (p1 : Int32) : Rs :=
  if p1 = (1 : Int32) then
    q_bnd (f_X3_endTurn o σ) fun s2 _ =>
    some (s2, 0)
  else
    if p1 < (2 : Int32) then
      some (σ, 0)
    else
      q_bnd (f_X3_stopFor o σ (p1 - (2 : Int32))) fun s5 _ =>
      some (s5, 0)
def s_X2_leadTo_L26 (o : Nat) (rec : Sg → Int32 → Int32 → Rs) (σ : Sg) (x2 : Int32) (x3 : Int32) : Rs :=
  if x2 ≤ x3 then
    some (σ, 0)
  else
    if (σ 1 10) ≤ x3 then
      some (σ, 0)
    else
      q_bnd (f_X5_at 2 150 σ x3) fun s9 r10 =>
      q_bnd (f_X5_at 3 150 s9 x3) fun s11 r12 =>
      q_bnd (f_X3_lead o s11 r10 r12) fun s13 _ =>
      q_bnd (f_X5_at 7 151 s13 (x3 + (1 : Int32))) fun s15 r16 =>
      q_bnd (f_X2_obey o s15 r16) fun s17 _ =>
      q_let (x3 + (1 : Int32)) fun v19 =>
      rec s17 x2 v19
def f_X2_leadTo_L26 (o : Nat) (qn : Nat) : Sg → Int32 → Int32 → Rs := Nat.rec (fun _ _ _ => none) (fun _ rec => s_X2_leadTo_L26 o rec) qn
def f_X2_leadTo (o : Nat) (σ : Sg) (p1 : Int32) : Rs :=
  q_bnd (f_X3_begin o σ (σ 1 11) (σ 1 12)) fun s1 _ =>
  q_bnd (f_X5_at 7 151 s1 (0 : Int32)) fun s3 r4 =>
  q_bnd (f_X2_obey o s3 r4) fun s5 _ =>
  f_X2_leadTo_L26 o 1000 s5 p1 (0 : Int32)
def f_X3_tell_J112 (o : Nat) (σ : Sg) (x1 : Int32) : Rs :=
  q_bnd (f_X5_at (o + 1) 4 σ (x1 - (5 : Int32))) fun s2 r3 =>
  some (s2, r3)
def f_X3_tell (o : Nat) (σ : Sg) (p0 : Int32) : Rs :=
  if p0 < (0 : Int32) then
    f_X3_tell_J112 o σ p0
  else
  if (11 : Int32) < p0 then
    f_X3_tell_J112 o σ p0
  else
  if p0 = (0 : Int32) then
    some (σ, σ o 2)
  else
  if p0 = (1 : Int32) then
    some (σ, σ o 3)
  else
  if p0 = (2 : Int32) then
    some (σ, σ o 4)
  else
  if p0 = (3 : Int32) then
    some (σ, σ o 5)
  else
  if p0 = (4 : Int32) then
    some (σ, σ o 6)
  else
  if p0 = (5 : Int32) then
    f_X3_tell_J112 o σ p0
  else
  if p0 = (6 : Int32) then
    f_X3_tell_J112 o σ p0
  else
  if p0 = (7 : Int32) then
    f_X3_tell_J112 o σ p0
  else
  if p0 = (8 : Int32) then
    f_X3_tell_J112 o σ p0
  else
  if p0 = (9 : Int32) then
    q_bnd (f_X5_at (o + 2) 2 σ (0 : Int32)) fun s15 r16 =>
    some (s15, r16)
  else
  if p0 = (10 : Int32) then
    q_bnd (f_X5_at (o + 2) 2 σ (1 : Int32)) fun s18 r19 =>
    some (s18, r19)
  else
  if p0 = (11 : Int32) then
    q_bnd (f_X3_winner o σ) fun s21 r22 =>
    some (s21, r22)
  else
  none
def f_X2_asOf (σ : Sg) (p0 : Int32) (p1 : Int32) : Rs :=
  if (σ 1 9) = 0 then
    some (σ, (-1 : Int32))
  else
    if p0 < 0 then
      some (σ, (-1 : Int32))
    else
      if p0 ≤ (σ 1 10) then
        q_bnd (f_X2_leadTo 12 σ p0) fun s4 _ =>
        q_bnd (f_X3_tell 12 s4 p1) fun s6 r7 =>
        some (s6, r7)
      else
        some (σ, (-1 : Int32))
def f_X2_takeAway (σ : Sg) (p0 : Int32) : Rs :=
  q_bnd (f_X5_at 5 150 σ p0) fun s1 r2 =>
  q_bnd (f_X5_set 7 151 s1 p0 ((3 : Int32) - r2)) fun s3 _ =>
  q_lets (q_wr s3 1 10 p0) fun s5 =>
  q_bnd (f_X2_leadTo 9 s5 (s5 1 10)) fun s6 _ =>
  some (s6, (1 : Int32))
def f_X2_stopTurn (σ : Sg) (p0 : Int32) : Rs :=
  q_bnd (f_X5_set 6 150 σ p0 (0 : Int32)) fun s1 _ =>
  q_bnd (f_X3_inPlay 9 s1) fun s3 r4 =>
  if r4 = (-4 : Int32) then
    some (s3, (2 : Int32))
  else
    q_bnd (f_X5_set 7 151 s3 (s3 1 10) (1 : Int32)) fun s6 _ =>
    q_bnd (f_X3_endTurn 9 s6) fun s8 _ =>
    some (s8, (2 : Int32))
def f_X2_find (σ : Sg) (p0 : Int32) : Rs :=
  q_bnd (f_X2_has σ p0) fun s1 r2 =>
  if r2 = 0 then
    some (s1, (-1 : Int32))
  else
    q_bnd (f_X5_at 6 150 s1 p0) fun s4 r5 =>
    if r5 = 0 then
      some (s4, (-2 : Int32))
    else
      q_bnd (f_X5_at 2 150 s4 p0) fun s7 r8 =>
      q_bnd (f_X0_letterFor s7 r8 (((s7 1 10) - (1 : Int32)) - p0)) fun s9 r10 =>
      if r10 = (-4 : Int32) then
        some (s9, (-2 : Int32))
      else
        if r10 = (82 : Int32) then
          q_bnd (f_X2_takeAway s9 p0) fun s13 r14 =>
          some (s13, r14)
        else
          q_bnd (f_X2_stopTurn s9 p0) fun s15 r16 =>
          some (s15, r16)
def f_X2_counts (σ : Sg) (p0 : Int32) (p1 : Int32) : Rs :=
  if p1 = 0 then
    some (σ, (1 : Int32))
  else
    if p1 = (1 : Int32) then
      q_bnd (f_X5_at 6 150 σ p0) fun s3 r4 =>
      if r4 = (1 : Int32) then
        some (s3, (1 : Int32))
      else
        some (s3, (0 : Int32))
    else
      q_bnd (f_X5_at 2 150 σ p0) fun s6 r7 =>
      q_bnd (f_X2_begins s6 r7) fun s8 r9 =>
      if vp_nar .boolean r9 = r9 then some (s8, r9) else none
def s_X2_total_L4 (rec : Sg → Int32 → Int32 → Int32 → Rs) (σ : Sg) (x1 : Int32) (x2 : Int32) (x3 : Int32) : Rs :=
  if (σ 1 10) ≤ x3 then
    some (σ, x2)
  else
    if (150 : Int32) ≤ x3 then
      some (σ, x2)
    else
      q_bnd (f_X2_counts σ x3 x1) fun s3 r4 =>
      if r4 = 0 then
        q_let (x3 + (1 : Int32)) fun v6 =>
        rec s3 x1 x2 v6
      else
        q_let (x2 + (1 : Int32)) fun v7 =>
        q_let (x3 + (1 : Int32)) fun v8 =>
        rec s3 x1 v7 v8
def f_X2_total_L4 (qn : Nat) : Sg → Int32 → Int32 → Int32 → Rs := Nat.rec (fun _ _ _ _ => none) (fun _ rec => s_X2_total_L4 rec) qn
def f_X2_total (σ : Sg) (p0 : Int32) : Rs :=
  f_X2_total_L4 1000 σ p0 (0 : Int32) (0 : Int32)
def f_X4_put (σ : Sg) (p0 : Int32) (p1 : Int32) : Rs :=
  q_bnd (f_X5_at 22 8 σ p0) fun s1 r2 =>
  q_bnd (f_X5_set 22 8 s1 p0 p1) fun s3 _ =>
  some (s3, r2)
def f_X4_handicapOf (σ : Sg) (p0 : Int32) : Rs :=
  q_bnd (f_X5_at 22 8 σ p0) fun s1 r2 =>
  some (s1, (20 : Int32) - (r2 / (100 : Int32)))
def f_X4_freeTurnsOfOther (σ : Sg) (p0 : Int32) (p1 : Int32) : Rs :=
  q_bnd (f_X4_handicapOf σ p1) fun s1 r2 =>
  q_bnd (f_X4_handicapOf s1 p0) fun s3 r4 =>
  q_let (r2 - r4) fun v5 =>
  q_let (if 0 ≤ v5 then v5 else 0 - v5) fun v6 =>
  q_let ((v6 + (1 : Int32)) / (2 : Int32)) fun v7 =>
  if 0 ≤ v5 then
    some (s3, v7)
  else
    some (s3, -v7)
def f_X4_move (σ : Sg) (p0 : Int32) (p1 : Int32) : Rs :=
  q_bnd (f_X5_at 22 8 σ p0) fun s1 r2 =>
  q_bnd (f_X5_at 22 8 s1 p1) fun s3 r4 =>
  q_bnd (f_X4_held s3 ((10 : Int32) - ((r2 - r4) / (20 : Int32))) (1 : Int32) (19 : Int32)) fun s5 r6 =>
  q_bnd (f_X4_held s5 (r2 + r6) (0 : Int32) (2000 : Int32)) fun s7 r8 =>
  q_bnd (f_X5_set 22 8 s7 p0 r8) fun s9 _ =>
  q_bnd (f_X4_held s9 (r4 - r6) (0 : Int32) (2000 : Int32)) fun s11 r12 =>
  q_bnd (f_X5_set 22 8 s11 p1 r12) fun s13 _ =>
  some (s13, r6)
def f_X5_game (σ : Sg) (p0 : Int32) (p1 : Int32) : Rs :=
  q_bnd (f_X5_isPlayer σ p0) fun s1 r2 =>
  if r2 = 0 then
    some (s1, (-101 : Int32))
  else
    q_bnd (f_X5_isPlayer s1 p1) fun s4 r5 =>
    if r5 = 0 then
      some (s4, (-101 : Int32))
    else
      if p0 = p1 then
        some (s4, (-101 : Int32))
      else
        q_bnd (f_X4_freeTurnsOfOther s4 p0 p1) fun s8 r9 =>
        q_let (if (0 : Int32) < (-r9) then (-r9) else (0 : Int32)) fun v10 =>
        q_let (if (0 : Int32) < r9 then r9 else (0 : Int32)) fun v11 =>
        q_bnd (f_X2_begin s8 p0 p1 v10 v11) fun s12 _ =>
        some (s12, r9)
def f_X5_stroke_J42 (σ : Sg) (x1 : Int32) (x2 : Int32) (x3 : Int32) : Rs :=
  if x3 = 0 then
    q_bnd (f_X2_take σ x1 (0 : Int32)) fun s7 r8 =>
    some (s7, r8)
  else
    q_bnd (f_X2_take σ x1 x2) fun s9 r10 =>
    some (s9, r10)
def f_X5_stroke_J26 (σ : Sg) (x1 : Int32) (x2 : Int32) (y0 : Int32) : Rs :=
  if y0 = 0 then
    f_X5_stroke_J42 σ x1 x2 y0
  else
    q_bnd (f_X5_within σ x2 (0 : Int32) (3 : Int32)) fun s11 r12 =>
    if r12 = 0 then
      some (s11, (-1 : Int32))
    else
      f_X5_stroke_J42 s11 x1 x2 y0
def f_X5_stroke_J21 (σ : Sg) (x1 : Int32) (x2 : Int32) : Rs :=
  f_X5_stroke_J26 σ x1 x2 (1 : Int32)
def f_X5_stroke (σ : Sg) (p0 : Int32) (p1 : Int32) : Rs :=
  q_bnd (f_X5_within σ p0 (0 : Int32) (6 : Int32)) fun s1 r2 =>
  if r2 = 0 then
    some (s1, (-1 : Int32))
  else
    if p0 = 0 then
      f_X5_stroke_J21 s1 p0 p1
    else
      if p0 = (3 : Int32) then
        f_X5_stroke_J21 s1 p0 p1
      else
        f_X5_stroke_J26 s1 p0 p1 (0 : Int32)
def f_X5_told (σ : Sg) (p0 : Int32) (p1 : Int32) : Rs :=
  if p0 < 0 then
    some (σ, (-1 : Int32))
  else
    q_bnd (f_X5_within σ p1 (0 : Int32) (3 : Int32)) fun s2 r3 =>
    if r3 = 0 then
      some (s2, (-1 : Int32))
    else
      q_bnd (f_X2_tell s2 p0 p1) fun s5 r6 =>
      some (s5, r6)
def f_X5_hit (σ : Sg) (p0 : Int32) : Rs :=
  q_bnd (f_X2_roqueted σ p0) fun s1 r2 =>
  some (s1, r2)
def f_X5_state (σ : Sg) (p0 : Int32) (p1 : Int32) : Rs :=
  q_bnd (f_X5_within σ p1 (0 : Int32) (11 : Int32)) fun s1 r2 =>
  if r2 = 0 then
    some (s1, (-1 : Int32))
  else
    q_bnd (f_X2_asOf s1 p0 p1) fun s4 r5 =>
    some (s4, r5)
def f_X5_found (σ : Sg) (p0 : Int32) : Rs :=
  q_bnd (f_X2_find σ p0) fun s1 r2 =>
  some (s1, r2)
def f_X5_type (σ : Sg) (p0 : Int64) (p1 : Int32) : Rs :=
  q_bnd (f_X0_append σ p0 p1) fun s1 r2 =>
  some (s1, r2)
def f_X5_laws (σ : Sg) : Rs :=
  q_bnd (f_X0_takeTape σ) fun s1 r2 =>
  some (s1, r2)
def f_X5_count (σ : Sg) (p0 : Int32) : Rs :=
  q_bnd (f_X5_within σ p0 (0 : Int32) (2 : Int32)) fun s1 r2 =>
  if r2 = 0 then
    some (s1, (-1 : Int32))
  else
    q_bnd (f_X2_total s1 p0) fun s4 r5 =>
    some (s4, r5)
def f_X5_index (σ : Sg) (p0 : Int32) (p1 : Int32) : Rs :=
  q_bnd (f_X5_isPlayer σ p0) fun s1 r2 =>
  if r2 = 0 then
    some (s1, (-1 : Int32))
  else
    q_bnd (f_X5_within s1 p1 (0 : Int32) (2000 : Int32)) fun s4 r5 =>
    if r5 = 0 then
      some (s4, (-1 : Int32))
    else
      q_bnd (f_X4_put s4 p0 p1) fun s7 r8 =>
      some (s7, r8)
def f_X5_handicap (σ : Sg) (p0 : Int32) : Rs :=
  q_bnd (f_X5_isPlayer σ p0) fun s1 r2 =>
  if r2 = 0 then
    some (s1, (-101 : Int32))
  else
    q_bnd (f_X4_handicapOf s1 p0) fun s4 r5 =>
    some (s4, r5)
def f_X5_settle (σ : Sg) : Rs :=
  q_bnd (f_X2_winner σ) fun s1 r2 =>
  if r2 = (-4 : Int32) then
    some (s1, (-2 : Int32))
  else
    q_bnd (f_X2_playerOf s1 r2) fun s4 r5 =>
    q_bnd (f_X2_playerOf s4 ((1 : Int32) - r2)) fun s6 r7 =>
    q_bnd (f_X4_move s6 r5 r7) fun s8 r9 =>
    q_bnd (f_X2_end s8) fun s10 _ =>
    some (s10, r9)
def f_X5_match (σ : Sg) (p0 : Int32) (p1 : Int32) : Rs :=
  q_bnd (f_X1_isMatch σ p0) fun s1 r2 =>
  if r2 = 0 then
    some (s1, (-1 : Int32))
  else
    q_bnd (f_X5_within s1 p1 (0 : Int32) (2 : Int32)) fun s4 r5 =>
    if r5 = 0 then
      some (s4, (-1 : Int32))
    else
      q_bnd (f_X1_who s4 p0 p1) fun s7 r8 =>
      some (s7, r8)
def f_X5_win (σ : Sg) (p0 : Int32) (p1 : Int32) : Rs :=
  q_bnd (f_X1_isMatch σ p0) fun s1 r2 =>
  if r2 = 0 then
    some (s1, (-1 : Int32))
  else
    q_bnd (f_X5_isPlayer s1 p1) fun s4 r5 =>
    if r5 = 0 then
      some (s4, (-1 : Int32))
    else
      q_bnd (f_X1_give s4 p0 p1) fun s7 r8 =>
      some (s7, r8)
def f_X5_unwin (σ : Sg) (p0 : Int32) : Rs :=
  q_bnd (f_X1_isMatch σ p0) fun s1 r2 =>
  if r2 = 0 then
    some (s1, (-1 : Int32))
  else
    q_bnd (f_X1_takeBack s1 p0) fun s4 r5 =>
    some (s4, r5)
def f_X5_champion (σ : Sg) : Rs :=
  q_bnd (f_X1_best σ) fun s1 r2 =>
  some (s1, r2)
def f_X5_lawns (σ : Sg) (p0 : Int32) : Rs :=
  q_bnd (f_X5_within σ p0 (1 : Int32) (4 : Int32)) fun s1 r2 =>
  if r2 = 0 then
    some (s1, (-1 : Int32))
  else
    q_bnd (f_X1_setLawns s1 p0) fun s4 r5 =>
    some (s4, r5)
def f_X5_lay (σ : Sg) (p0 : Int32) : Rs :=
  q_bnd (f_X1_isMatch σ p0) fun s1 r2 =>
  if r2 = 0 then
    some (s1, (-1 : Int32))
  else
    q_bnd (f_X1_place s1 p0) fun s4 r5 =>
    some (s4, r5)
def f_X5_hour (σ : Sg) (p0 : Int32) : Rs :=
  q_bnd (f_X1_isMatch σ p0) fun s1 r2 =>
  if r2 = 0 then
    some (s1, (-1 : Int32))
  else
    q_bnd (f_X1_hourOf s1 p0) fun s4 r5 =>
    some (s4, r5)
def f_X5_clear (σ : Sg) : Rs :=
  q_bnd (f_X1_liftAll σ) fun s1 r2 =>
  some (s1, r2)
def f_X6_index (σ : Sg) (p0 : Int32) (p1 : Int32) : Rs :=
  q_bnd (f_X6_isPlayer σ p0) fun s1 r2 =>
  if r2 = 0 then
    some (s1, (-1 : Int32))
  else
    q_bnd (f_X6_in s1 p1 (0 : Int32) (2000 : Int32)) fun s4 r5 =>
    if r5 = 0 then
      some (s4, (-1 : Int32))
    else
      if q_oob p0 8 then none else
      q_let (s4 27 p0.toNatClampNeg) fun v7 =>
      if q_oob p0 8 then none else
      q_lets (q_wr s4 27 p0.toNatClampNeg p1) fun s8 =>
      some (s8, v7)
def f_X6_handicapOf (σ : Sg) (p0 : Int32) : Rs :=
  if q_oob p0 8 then none else
  some (σ, (20 : Int32) - ((σ 27 p0.toNatClampNeg) / (100 : Int32)))
def f_X6_handicap (σ : Sg) (p0 : Int32) : Rs :=
  q_bnd (f_X6_isPlayer σ p0) fun s1 r2 =>
  if r2 = 0 then
    some (s1, (-101 : Int32))
  else
    q_bnd (f_X6_handicapOf s1 p0) fun s4 r5 =>
    some (s4, r5)
def s_X6_forget_L2 (rec : Sg → Int32 → Rs) (σ : Sg) (x2 : Int32) : Rs :=
  if (151 : Int32) ≤ x2 then
    some (σ, 0)
  else
    if q_oob x2 151 then none else
    q_lets (q_wr σ 35 x2.toNatClampNeg (-1 : Int32)) fun s2 =>
    if q_oob x2 151 then none else
    q_lets (q_wr s2 36 x2.toNatClampNeg (0 : Int32)) fun s3 =>
    q_let (x2 + (1 : Int32)) fun v4 =>
    rec s3 v4
def f_X6_forget_L2 (qn : Nat) : Sg → Int32 → Rs := Nat.rec (fun _ _ => none) (fun _ rec => s_X6_forget_L2 rec) qn
def f_X6_forget (σ : Sg) (p0 : Int32) : Rs :=
  f_X6_forget_L2 1000 σ p0
def f_X6_game_J90 (σ : Sg) (y1 : Int32) (y2 : Int32) : Rs :=
  if q_oob y1 2 then none else
  q_lets (q_wr σ 29 y1.toNatClampNeg y2) fun s19 =>
  q_lets (q_wr s19 26 4 (0 : Int32)) fun s20 =>
  q_bnd (f_X6_forget s20 (0 : Int32)) fun s21 _ =>
  if q_oob (1 : Int32) 2 then none else
  if q_oob (0 : Int32) 2 then none else
  some (s21, (s21 29 (1 : Int32).toNatClampNeg) - (s21 29 (0 : Int32).toNatClampNeg))
def f_X6_game_J71 (σ : Sg) (x3 : Int32) (y1 : Int32) (y2 : Int32) : Rs :=
  if q_oob y1 2 then none else
  q_lets (q_wr σ 29 y1.toNatClampNeg y2) fun s17 =>
  if x3 ≤ 0 then
    f_X6_game_J90 s17 (1 : Int32) (0 : Int32)
  else
    f_X6_game_J90 s17 (1 : Int32) ((x3 + (1 : Int32)) / (2 : Int32))
def f_X6_game (σ : Sg) (p0 : Int32) (p1 : Int32) : Rs :=
  q_bnd (f_X6_isPlayer σ p0) fun s1 r2 =>
  if r2 = 0 then
    some (s1, (-101 : Int32))
  else
    q_bnd (f_X6_isPlayer s1 p1) fun s4 r5 =>
    if r5 = 0 then
      some (s4, (-101 : Int32))
    else
      if p0 = p1 then
        some (s4, (-101 : Int32))
      else
        q_lets (q_wr s4 26 1 (1 : Int32)) fun s8 =>
        if q_oob (0 : Int32) 2 then none else
        q_lets (q_wr s8 28 (0 : Int32).toNatClampNeg p0) fun s9 =>
        if q_oob (1 : Int32) 2 then none else
        q_lets (q_wr s9 28 (1 : Int32).toNatClampNeg p1) fun s10 =>
        q_bnd (f_X6_handicapOf s10 p1) fun s11 r12 =>
        q_bnd (f_X6_handicapOf s11 p0) fun s13 r14 =>
        q_let (r12 - r14) fun v15 =>
        if 0 ≤ v15 then
          f_X6_game_J71 s13 v15 (0 : Int32) (0 : Int32)
        else
          f_X6_game_J71 s13 v15 (0 : Int32) (((1 : Int32) - v15) / (2 : Int32))
def s_X6_others_L4 (rec : Sg → Int32 → Int32 → Rs) (σ : Sg) (x1 : Int32) (x2 : Int32) : Rs :=
  if (4 : Int32) ≤ x2 then
    some (σ, x1)
  else
    if x2 = (σ 26 15) then
      q_let (x1 ||| (0 : Int32)) fun v3 =>
      q_let (x2 + (1 : Int32)) fun v4 =>
      rec σ v3 v4
    else
      if q_oob x2 4 then none else
      if (σ 37 x2.toNatClampNeg) = (7 : Int32) then
        q_let (x1 ||| (0 : Int32)) fun v6 =>
        q_let (x2 + (1 : Int32)) fun v7 =>
        rec σ v6 v7
      else
        q_let (x1 ||| ((1 : Int32) <<< (x2 &&& 31))) fun v8 =>
        q_let (x2 + (1 : Int32)) fun v9 =>
        rec σ v8 v9
def f_X6_others_L4 (qn : Nat) : Sg → Int32 → Int32 → Rs := Nat.rec (fun _ _ _ => none) (fun _ rec => s_X6_others_L4 rec) qn
def f_X6_others (σ : Sg) : Rs :=
  f_X6_others_L4 1000 σ (0 : Int32) (0 : Int32)
def f_X6_begin (σ : Sg) (p0 : Int32) (p1 : Int32) : Rs :=
  q_lets (q_wr σ 26 15 p0) fun s1 =>
  q_lets (q_wr s1 26 21 p1) fun s2 =>
  q_lets (q_wr s2 26 16 (1 : Int32)) fun s3 =>
  q_lets (q_wr s3 26 18 (-4 : Int32)) fun s4 =>
  q_bnd (f_X6_others s4) fun s5 r6 =>
  q_lets (q_wr s5 26 17 r6) fun s7 =>
  some (s7, 0)
def f_X6_endTurn (σ : Sg) : Rs :=
  q_lets (q_wr σ 26 19 (σ 26 15)) fun s1 =>
  q_lets (q_wr s1 26 20 (s1 26 21)) fun s2 =>
  q_lets (q_wr s2 26 14 ((1 : Int32) - (s2 26 21))) fun s3 =>
  q_lets (q_wr s3 26 15 (-4 : Int32)) fun s4 =>
  q_lets (q_wr s4 26 16 (0 : Int32)) fun s5 =>
  q_lets (q_wr s5 26 17 (0 : Int32)) fun s6 =>
  q_lets (q_wr s6 26 18 (-4 : Int32)) fun s7 =>
  some (s7, 0)
def f_X6_turnTo (σ : Sg) (p0 : Int32) : Rs :=
  q_lets (q_wr σ 26 14 p0) fun s1 =>
  q_lets (q_wr s1 26 15 (-4 : Int32)) fun s2 =>
  q_lets (q_wr s2 26 16 (0 : Int32)) fun s3 =>
  q_lets (q_wr s3 26 17 (0 : Int32)) fun s4 =>
  q_lets (q_wr s4 26 18 (-4 : Int32)) fun s5 =>
  q_lets (q_wr s5 26 19 (-1 : Int32)) fun s6 =>
  some (s6, 0)
def f_X6_won_J26 (σ : Sg) : Rs :=
  if q_oob (1 : Int32) 4 then none else
  if (σ 37 (1 : Int32).toNatClampNeg) = (7 : Int32) then
    if q_oob (3 : Int32) 4 then none else
    if (σ 37 (3 : Int32).toNatClampNeg) = (7 : Int32) then
      some (σ, (1 : Int32))
    else
      some (σ, (-4 : Int32))
  else
    some (σ, (-4 : Int32))
def f_X6_won (σ : Sg) : Rs :=
  if q_oob (0 : Int32) 4 then none else
  if (σ 37 (0 : Int32).toNatClampNeg) = (7 : Int32) then
    if q_oob (2 : Int32) 4 then none else
    if (σ 37 (2 : Int32).toNatClampNeg) = (7 : Int32) then
      some (σ, (0 : Int32))
    else
      f_X6_won_J26 σ
  else
    f_X6_won_J26 σ
def f_X6_canDo_J185 (σ : Sg) : Rs :=
  if 0 ≤ (σ 26 15) then
    some (σ, (0 : Int32))
  else
    if (σ 26 19) < 0 then
      some (σ, (0 : Int32))
    else
      if q_oob (σ 26 20) 2 then none else
      if (σ 38 (σ 26 20).toNatClampNeg) ≤ 0 then
        some (σ, (0 : Int32))
      else
        if q_oob (σ 26 19) 4 then none else
        if (σ 37 (σ 26 19).toNatClampNeg) = (7 : Int32) then
          some (σ, (0 : Int32))
        else
          some (σ, (1 : Int32))
def f_X6_canDo_J21 (σ : Sg) (x1 : Int32) (x2 : Int32) (y0 : Int32) : Rs :=
  if x1 < (0 : Int32) then
    f_X6_canDo_J185 σ
  else
  if (5 : Int32) < x1 then
    f_X6_canDo_J185 σ
  else
  if x1 = (0 : Int32) then
    if 0 ≤ (σ 26 15) then
      some (σ, (0 : Int32))
    else
      if q_oob x2 4 then none else
      if (σ 37 x2.toNatClampNeg) = (7 : Int32) then
        some (σ, (0 : Int32))
      else
        some (σ, (1 : Int32))
  else
  if x1 = (1 : Int32) then
    if vp_nar .boolean y0 = y0 then some (σ, y0) else none
  else
  if x1 = (2 : Int32) then
    if y0 = 0 then
      some (σ, (0 : Int32))
    else
      if q_oob (σ 26 15) 4 then none else
      if (6 : Int32) ≤ (σ 37 (σ 26 15).toNatClampNeg) then
        some (σ, (0 : Int32))
      else
        some (σ, (1 : Int32))
  else
  if x1 = (3 : Int32) then
    if y0 = 0 then
      some (σ, (0 : Int32))
    else
      if x2 = (σ 26 15) then
        some (σ, (0 : Int32))
      else
        if q_oob x2 4 then none else
        if (σ 37 x2.toNatClampNeg) = (7 : Int32) then
          some (σ, (0 : Int32))
        else
          some (σ, (1 : Int32))
  else
  if x1 = (4 : Int32) then
    if (σ 26 15) < 0 then
      some (σ, (0 : Int32))
    else
      if (σ 26 18) = (-4 : Int32) then
        some (σ, (0 : Int32))
      else
        some (σ, (1 : Int32))
  else
  if x1 = (5 : Int32) then
    if y0 = 0 then
      some (σ, (0 : Int32))
    else
      if q_oob (σ 26 15) 4 then none else
      if (σ 37 (σ 26 15).toNatClampNeg) = (6 : Int32) then
        some (σ, (1 : Int32))
      else
        some (σ, (0 : Int32))
  else
  none
def f_X6_canDo_J20 (σ : Sg) (x1 : Int32) (x2 : Int32) : Rs :=
  f_X6_canDo_J21 σ x1 x2 (0 : Int32)
def f_X6_canDo (σ : Sg) (p0 : Int32) (p1 : Int32) : Rs :=
  if (σ 26 15) < 0 then
    f_X6_canDo_J20 σ p0 p1
  else
    if (σ 26 18) = (-4 : Int32) then
      f_X6_canDo_J21 σ p0 p1 (1 : Int32)
    else
      f_X6_canDo_J20 σ p0 p1
def f_X6_isWrong (σ : Sg) (p0 : Int32) (p1 : Int32) : Rs :=
  if p0 = 0 then
    if (p1 - p1 / (2 : Int32) * (2 : Int32)) = (σ 26 14) then
      some (σ, (0 : Int32))
    else
      some (σ, (1 : Int32))
  else
    if p0 = (3 : Int32) then
      if (((σ 26 17) >>> (p1 &&& 31)) &&& (1 : Int32)) = 0 then
        some (σ, (1 : Int32))
      else
        some (σ, (0 : Int32))
    else
      some (σ, (0 : Int32))
def f_X6_make_J184 (σ : Sg) : Rs :=
  if (σ 26 15) < 0 then
    some (σ, 0)
  else
    if (σ 26 16) = 0 then
      if (σ 26 18) = (-4 : Int32) then
        q_bnd (f_X6_endTurn σ) fun s8 _ =>
        some (s8, 0)
      else
        some (σ, 0)
    else
      some (σ, 0)
def f_X6_make_J159 (σ : Sg) : Rs :=
  if q_oob (σ 26 20) 2 then none else
  if q_oob (σ 26 20) 2 then none else
  q_lets (q_wr σ 38 (σ 26 20).toNatClampNeg ((σ 38 (σ 26 20).toNatClampNeg) - (1 : Int32))) fun s2 =>
  q_bnd (f_X6_begin s2 (s2 26 19) (s2 26 20)) fun s3 _ =>
  f_X6_make_J184 s3
def f_X6_make (σ : Sg) (p0 : Int32) (p1 : Int32) : Rs :=
  if p0 < (0 : Int32) then
    f_X6_make_J159 σ
  else
  if (5 : Int32) < p0 then
    f_X6_make_J159 σ
  else
  if p0 = (0 : Int32) then
    q_bnd (f_X6_begin σ p1 (σ 26 14)) fun s12 _ =>
    f_X6_make_J184 s12
  else
  if p0 = (1 : Int32) then
    q_lets (q_wr σ 26 16 ((σ 26 16) - (1 : Int32))) fun s15 =>
    f_X6_make_J184 s15
  else
  if p0 = (2 : Int32) then
    if q_oob (σ 26 15) 4 then none else
    if q_oob (σ 26 15) 4 then none else
    q_lets (q_wr σ 37 (σ 26 15).toNatClampNeg ((σ 37 (σ 26 15).toNatClampNeg) + (1 : Int32))) fun s17 =>
    q_lets (q_wr s17 26 16 (1 : Int32)) fun s18 =>
    q_bnd (f_X6_others s18) fun s19 r20 =>
    q_lets (q_wr s19 26 17 r20) fun s21 =>
    f_X6_make_J184 s21
  else
  if p0 = (3 : Int32) then
    q_lets (q_wr σ 26 16 ((σ 26 16) - (1 : Int32))) fun s23 =>
    q_lets (q_wr s23 26 18 p1) fun s24 =>
    q_lets (q_wr s24 26 17 ((s24 26 17) &&& (((1 : Int32) <<< (p1 &&& 31)) ^^^ (-1 : Int32)))) fun s25 =>
    f_X6_make_J184 s25
  else
  if p0 = (4 : Int32) then
    q_lets (q_wr σ 26 16 (1 : Int32)) fun s27 =>
    q_lets (q_wr s27 26 18 (-4 : Int32)) fun s28 =>
    f_X6_make_J184 s28
  else
  if p0 = (5 : Int32) then
    if q_oob (σ 26 15) 4 then none else
    q_lets (q_wr σ 37 (σ 26 15).toNatClampNeg (7 : Int32)) fun s30 =>
    q_lets (q_wr s30 26 16 (0 : Int32)) fun s31 =>
    f_X6_make_J184 s31
  else
  none
def f_X6_goTo_J95 (rec : Sg → Int32 → Int32 → Rs) (σ : Sg) (x1 : Int32) (x2 : Int32) : Rs :=
  if x1 ≤ x2 then
    q_let (x2 + (1 : Int32)) fun v10 =>
    rec σ x1 v10
  else
    if q_oob x2 150 then none else
    if q_oob x2 150 then none else
    q_bnd (f_X6_make σ (σ 30 x2.toNatClampNeg) (σ 31 x2.toNatClampNeg)) fun s11 _ =>
    q_let (x2 + (1 : Int32)) fun v13 =>
    rec s11 x1 v13
def f_X6_goTo_J76 (rec : Sg → Int32 → Int32 → Rs) (σ : Sg) (x1 : Int32) (x2 : Int32) : Rs :=
  if q_oob x2 151 then none else
  if (σ 35 x2.toNatClampNeg) < 0 then
    f_X6_goTo_J95 rec σ x1 x2
  else
    if q_oob x2 151 then none else
    q_bnd (f_X6_turnTo σ (σ 35 x2.toNatClampNeg)) fun s14 _ =>
    f_X6_goTo_J95 rec s14 x1 x2
def s_X6_goTo_L51 (rec : Sg → Int32 → Int32 → Rs) (σ : Sg) (x1 : Int32) (x2 : Int32) : Rs :=
  if x1 < x2 then
    some (σ, 0)
  else
    if q_oob x2 151 then none else
    if (σ 36 x2.toNatClampNeg) = 0 then
      f_X6_goTo_J76 rec σ x1 x2
    else
      if (σ 26 15) < 0 then
        f_X6_goTo_J76 rec σ x1 x2
      else
        q_bnd (f_X6_endTurn σ) fun s17 _ =>
        f_X6_goTo_J76 rec s17 x1 x2
def f_X6_goTo_L51 (qn : Nat) : Sg → Int32 → Int32 → Rs := Nat.rec (fun _ _ _ => none) (fun _ rec => s_X6_goTo_L51 rec) qn
def s_X6_goTo_L2 (rec : Sg → Int32 → Int32 → Rs) (σ : Sg) (x1 : Int32) (x2 : Int32) : Rs :=
  if (4 : Int32) ≤ x2 then
    if q_oob (0 : Int32) 2 then none else
    if q_oob (0 : Int32) 2 then none else
    q_lets (q_wr σ 38 (0 : Int32).toNatClampNeg (σ 29 (0 : Int32).toNatClampNeg)) fun s2 =>
    if q_oob (1 : Int32) 2 then none else
    if q_oob (1 : Int32) 2 then none else
    q_lets (q_wr s2 38 (1 : Int32).toNatClampNeg (s2 29 (1 : Int32).toNatClampNeg)) fun s3 =>
    q_bnd (f_X6_turnTo s3 (0 : Int32)) fun s4 _ =>
    f_X6_goTo_L51 1000 s4 x1 (0 : Int32)
  else
    if q_oob x2 4 then none else
    q_lets (q_wr σ 37 x2.toNatClampNeg (0 : Int32)) fun s19 =>
    q_let (x2 + (1 : Int32)) fun v20 =>
    rec s19 x1 v20
def f_X6_goTo_L2 (qn : Nat) : Sg → Int32 → Int32 → Rs := Nat.rec (fun _ _ _ => none) (fun _ rec => s_X6_goTo_L2 rec) qn
def f_X6_goTo (σ : Sg) (p0 : Int32) : Rs :=
  f_X6_goTo_L2 1000 σ p0 (0 : Int32)
def f_X6_stroke_J212 (σ : Sg) (y1 : Int32) (y2 : Int32) : Rs :=
  if q_oob y1 150 then none else
  q_lets (q_wr σ 33 y1.toNatClampNeg y2) fun s26 =>
  q_lets (q_wr s26 26 4 ((s26 26 4) + (1 : Int32))) fun s27 =>
  some (s27, (s27 26 4) - (1 : Int32))
def f_X6_stroke_J175 (σ : Sg) (x1 : Int32) (y1 : Int32) (y2 : Int32) : Rs :=
  if q_oob y1 150 then none else
  q_lets (q_wr σ 32 y1.toNatClampNeg y2) fun s24 =>
  if x1 = 0 then
    f_X6_stroke_J212 s24 (s24 26 4) (s24 26 14)
  else
    if x1 = (6 : Int32) then
      f_X6_stroke_J212 s24 (s24 26 4) (s24 26 20)
    else
      f_X6_stroke_J212 s24 (s24 26 4) (s24 26 21)
def f_X6_stroke_J67 (σ : Sg) (x1 : Int32) (y0 : Int32) : Rs :=
  q_bnd (f_X6_won σ) fun s10 r11 =>
  if r11 = (-4 : Int32) then
    q_bnd (f_X6_canDo s10 x1 y0) fun s13 r14 =>
    if r14 = 0 then
      some (s13, (-2 : Int32))
    else
      if (s13 26 4) = (150 : Int32) then
        some (s13, (-3 : Int32))
      else
        if q_oob (s13 26 4) 150 then none else
        q_lets (q_wr s13 30 (s13 26 4).toNatClampNeg x1) fun s17 =>
        if q_oob (s17 26 4) 150 then none else
        q_lets (q_wr s17 31 (s17 26 4).toNatClampNeg y0) fun s18 =>
        q_bnd (f_X6_isWrong s18 x1 y0) fun s19 r20 =>
        if vp_nar .boolean r20 = r20 then
          if q_oob (s18 26 4) 150 then none else
          q_lets (q_wr s19 34 (s18 26 4).toNatClampNeg r20) fun s22 =>
          if x1 = 0 then
            f_X6_stroke_J175 s22 x1 (s22 26 4) y0
          else
            if x1 = (6 : Int32) then
              f_X6_stroke_J175 s22 x1 (s22 26 4) (s22 26 19)
            else
              f_X6_stroke_J175 s22 x1 (s22 26 4) (s22 26 15)
        else none
  else
    some (s10, (-2 : Int32))
def f_X6_stroke_J40 (σ : Sg) (x1 : Int32) (x2 : Int32) (x3 : Int32) : Rs :=
  if (σ 26 1) = 0 then
    some (σ, (-2 : Int32))
  else
    q_bnd (f_X6_goTo σ (σ 26 4)) fun s7 _ =>
    if x3 = 0 then
      f_X6_stroke_J67 s7 x1 (0 : Int32)
    else
      f_X6_stroke_J67 s7 x1 x2
def f_X6_stroke_J14 (σ : Sg) (x1 : Int32) (x2 : Int32) (y0 : Int32) : Rs :=
  q_bnd (f_X6_in σ x1 (0 : Int32) (6 : Int32)) fun s2 r3 =>
  if r3 = 0 then
    some (s2, (-1 : Int32))
  else
    if y0 = 0 then
      f_X6_stroke_J40 s2 x1 x2 y0
    else
      q_bnd (f_X6_in s2 x2 (0 : Int32) (3 : Int32)) fun s30 r31 =>
      if r31 = 0 then
        some (s30, (-1 : Int32))
      else
        f_X6_stroke_J40 s30 x1 x2 y0
def f_X6_stroke_J9 (σ : Sg) (x1 : Int32) (x2 : Int32) : Rs :=
  f_X6_stroke_J14 σ x1 x2 (1 : Int32)
def f_X6_stroke (σ : Sg) (p0 : Int32) (p1 : Int32) : Rs :=
  if p0 = 0 then
    f_X6_stroke_J9 σ p0 p1
  else
    if p0 = (3 : Int32) then
      f_X6_stroke_J9 σ p0 p1
    else
      f_X6_stroke_J14 σ p0 p1 (0 : Int32)
def f_X6_isStroke (σ : Sg) (p0 : Int32) : Rs :=
  if (σ 26 1) = 0 then
    some (σ, (0 : Int32))
  else
    q_bnd (f_X6_in σ p0 (0 : Int32) ((σ 26 4) - (1 : Int32))) fun s2 r3 =>
    if r3 = 0 then
      some (s2, (0 : Int32))
    else
      some (s2, (1 : Int32))
def f_X6_told (σ : Sg) (p0 : Int32) (p1 : Int32) : Rs :=
  if p0 < 0 then
    some (σ, (-1 : Int32))
  else
    q_bnd (f_X6_in σ p1 (0 : Int32) (3 : Int32)) fun s2 r3 =>
    if r3 = 0 then
      some (s2, (-1 : Int32))
    else
      q_bnd (f_X6_isStroke s2 p0) fun s5 r6 =>
      if r6 = 0 then
        some (s5, (-4 : Int32))
      else
        if p1 = 0 then
          if q_oob p0 150 then none else
          some (s5, s5 30 p0.toNatClampNeg)
        else
          if p1 = (1 : Int32) then
            if q_oob p0 150 then none else
            some (s5, s5 32 p0.toNatClampNeg)
          else
            if p1 = (2 : Int32) then
              if q_oob p0 150 then none else
              some (s5, s5 33 p0.toNatClampNeg)
            else
              if q_oob p0 150 then none else
              if (s5 34 p0.toNatClampNeg) = 0 then
                some (s5, (0 : Int32))
              else
                some (s5, (1 : Int32))
def f_X6_hit (σ : Sg) (p0 : Int32) : Rs :=
  q_bnd (f_X6_isStroke σ p0) fun s1 r2 =>
  if r2 = 0 then
    some (s1, (-1 : Int32))
  else
    if q_oob p0 150 then none else
    if (s1 30 p0.toNatClampNeg) = (3 : Int32) then
      if q_oob p0 150 then none else
      some (s1, s1 31 p0.toNatClampNeg)
    else
      some (s1, (-13 : Int32))
def f_X6_state_J154 (σ : Sg) (x2 : Int32) : Rs :=
  if q_oob (x2 - (5 : Int32)) 4 then none else
  some (σ, σ 37 (x2 - (5 : Int32)).toNatClampNeg)
def f_X6_state_J139 (σ : Sg) (x2 : Int32) : Rs :=
  if q_oob (x2 - (9 : Int32)) 2 then none else
  some (σ, σ 38 (x2 - (9 : Int32)).toNatClampNeg)
def f_X6_state (σ : Sg) (p0 : Int32) (p1 : Int32) : Rs :=
  if (σ 26 1) = 0 then
    some (σ, (-1 : Int32))
  else
    q_bnd (f_X6_in σ p0 (0 : Int32) (σ 26 4)) fun s2 r3 =>
    if r3 = 0 then
      some (s2, (-1 : Int32))
    else
      q_bnd (f_X6_in s2 p1 (0 : Int32) (11 : Int32)) fun s5 r6 =>
      if r6 = 0 then
        some (s5, (-1 : Int32))
      else
        q_bnd (f_X6_goTo s5 p0) fun s8 _ =>
        if p1 < (0 : Int32) then
          f_X6_state_J154 s8 p1
        else
        if (11 : Int32) < p1 then
          f_X6_state_J154 s8 p1
        else
        if p1 = (0 : Int32) then
          if (s8 26 15) < 0 then
            some (s8, s8 26 14)
          else
            some (s8, s8 26 21)
        else
        if p1 = (1 : Int32) then
          some (s8, s8 26 15)
        else
        if p1 = (2 : Int32) then
          some (s8, s8 26 16)
        else
        if p1 = (3 : Int32) then
          some (s8, s8 26 17)
        else
        if p1 = (4 : Int32) then
          some (s8, s8 26 18)
        else
        if p1 = (5 : Int32) then
          f_X6_state_J154 s8 p1
        else
        if p1 = (6 : Int32) then
          f_X6_state_J154 s8 p1
        else
        if p1 = (7 : Int32) then
          f_X6_state_J154 s8 p1
        else
        if p1 = (8 : Int32) then
          f_X6_state_J154 s8 p1
        else
        if p1 = (9 : Int32) then
          f_X6_state_J139 s8 p1
        else
        if p1 = (10 : Int32) then
          f_X6_state_J139 s8 p1
        else
        if p1 = (11 : Int32) then
          q_bnd (f_X6_won s8) fun s25 r26 =>
          some (s25, r26)
        else
        none
def f_X6_count_J76 (rec : Sg → Int32 → Int32 → Int32 → Rs) (σ : Sg) (x1 : Int32) (x3 : Int32) (x4 : Int32) (y0 : Int32) : Rs :=
  if x1 = (2 : Int32) then
    if x4 = 0 then
      q_let (y0 + (0 : Int32)) fun v14 =>
      q_let (x3 + (1 : Int32)) fun v15 =>
      rec σ x1 v14 v15
    else
      q_let (y0 + (1 : Int32)) fun v16 =>
      q_let (x3 + (1 : Int32)) fun v17 =>
      rec σ x1 v16 v17
  else
    q_let (y0 + (0 : Int32)) fun v18 =>
    q_let (x3 + (1 : Int32)) fun v19 =>
    rec σ x1 v18 v19
def f_X6_count_J55 (rec : Sg → Int32 → Int32 → Int32 → Rs) (σ : Sg) (x1 : Int32) (x2 : Int32) (x3 : Int32) (y0 : Int32) : Rs :=
  if x1 = 0 then
    q_let (x2 + (1 : Int32)) fun v8 =>
    q_let (x3 + (1 : Int32)) fun v9 =>
    rec σ x1 v8 v9
  else
    if x1 = (1 : Int32) then
      if q_oob x3 150 then none else
      if (σ 34 x3.toNatClampNeg) = 0 then
        f_X6_count_J76 rec σ x1 x3 y0 x2
      else
        q_let (x2 + (1 : Int32)) fun v20 =>
        q_let (x3 + (1 : Int32)) fun v21 =>
        rec σ x1 v20 v21
    else
      f_X6_count_J76 rec σ x1 x3 y0 x2
def f_X6_count_J50 (rec : Sg → Int32 → Int32 → Int32 → Rs) (σ : Sg) (x1 : Int32) (x2 : Int32) (x3 : Int32) : Rs :=
  f_X6_count_J55 rec σ x1 x2 x3 (1 : Int32)
def s_X6_count_L15 (rec : Sg → Int32 → Int32 → Int32 → Rs) (σ : Sg) (x1 : Int32) (x2 : Int32) (x3 : Int32) : Rs :=
  if (σ 26 4) ≤ x3 then
    some (σ, x2)
  else
    if (σ 26 1) = 0 then
      some (σ, x2)
    else
      if q_oob x3 150 then none else
      if (σ 30 x3.toNatClampNeg) = 0 then
        f_X6_count_J50 rec σ x1 x2 x3
      else
        if q_oob x3 150 then none else
        if (σ 30 x3.toNatClampNeg) = (6 : Int32) then
          f_X6_count_J50 rec σ x1 x2 x3
        else
          f_X6_count_J55 rec σ x1 x2 x3 (0 : Int32)
def f_X6_count_L15 (qn : Nat) : Sg → Int32 → Int32 → Int32 → Rs := Nat.rec (fun _ _ _ _ => none) (fun _ rec => s_X6_count_L15 rec) qn
def f_X6_count (σ : Sg) (p0 : Int32) : Rs :=
  q_bnd (f_X6_in σ p0 (0 : Int32) (2 : Int32)) fun s1 r2 =>
  if r2 = 0 then
    some (s1, (-1 : Int32))
  else
    f_X6_count_L15 1000 s1 p0 (0 : Int32) (0 : Int32)
def f_X6_found_J24 (σ : Sg) (x1 : Int32) (y0 : Int32) : Rs :=
  if q_oob x1 150 then none else
  if (σ 34 x1.toNatClampNeg) = 0 then
    some (σ, (-2 : Int32))
  else
    if q_oob y0 2 then none else
    if (σ 40 y0.toNatClampNeg) = 0 then
      some (σ, (-2 : Int32))
    else
      if q_oob y0 2 then none else
      if (((σ 26 4) - (1 : Int32)) - x1) ≤ (σ 39 y0.toNatClampNeg) then
        if q_oob x1 150 then none else
        q_lets (q_wr σ 34 x1.toNatClampNeg (0 : Int32)) fun s8 =>
        if q_oob y0 2 then none else
        if (s8 40 y0.toNatClampNeg) = (82 : Int32) then
          q_lets (q_wr s8 26 4 x1) fun s10 =>
          q_bnd (f_X6_forget s10 (x1 + (1 : Int32))) fun s11 _ =>
          if q_oob x1 150 then none else
          if q_oob x1 151 then none else
          q_lets (q_wr s11 35 x1.toNatClampNeg ((1 : Int32) - (s11 33 x1.toNatClampNeg))) fun s13 =>
          some (s13, (1 : Int32))
        else
          q_bnd (f_X6_goTo s8 (s8 26 4)) fun s14 _ =>
          if q_oob (s14 26 4) 151 then none else
          if (s14 36 (s14 26 4).toNatClampNeg) = 0 then
            if (s14 26 15) < 0 then
              if q_oob (s14 26 4) 151 then none else
              q_lets (q_wr s14 36 (s14 26 4).toNatClampNeg (0 : Int32)) fun s18 =>
              some (s18, (2 : Int32))
            else
              if q_oob (s14 26 4) 151 then none else
              q_lets (q_wr s14 36 (s14 26 4).toNatClampNeg (1 : Int32)) fun s19 =>
              some (s19, (2 : Int32))
          else
            if q_oob (s14 26 4) 151 then none else
            q_lets (q_wr s14 36 (s14 26 4).toNatClampNeg (1 : Int32)) fun s20 =>
            some (s20, (2 : Int32))
      else
        some (σ, (-2 : Int32))
def f_X6_found (σ : Sg) (p0 : Int32) : Rs :=
  q_bnd (f_X6_isStroke σ p0) fun s1 r2 =>
  if r2 = 0 then
    some (s1, (-1 : Int32))
  else
    if q_oob p0 150 then none else
    if (s1 30 p0.toNatClampNeg) = 0 then
      f_X6_found_J24 s1 p0 (0 : Int32)
    else
      f_X6_found_J24 s1 p0 (1 : Int32)
def s_X6_type_L71 (rec : Sg → Int64 → Int32 → Rs) (σ : Sg) (x1 : Int64) (x4 : Int32) : Rs :=
  if x4 < 0 then
    some (σ, σ 26 27)
  else
    if q_oob (σ 26 27) 30 then none else
    q_lets (q_wr σ 43 (σ 26 27).toNatClampNeg (((x1 >>> (((8 : Int32) * x4).toInt64 &&& 63)) &&& (255 : Int64)).toInt32)) fun s9 =>
    q_lets (q_wr s9 26 27 ((s9 26 27) + (1 : Int32))) fun s10 =>
    q_let (x4 + (-1 : Int32)) fun v11 =>
    rec s10 x1 v11
def f_X6_type_L71 (qn : Nat) : Sg → Int64 → Int32 → Rs := Nat.rec (fun _ _ _ => none) (fun _ rec => s_X6_type_L71 rec) qn
def s_X6_type_L17 (rec : Sg → Int64 → Int32 → Int32 → Rs) (σ : Sg) (x1 : Int64) (x3 : Int32) (x4 : Int32) : Rs :=
  if x4 < 0 then
    if ((σ 26 27) + x3) ≤ (30 : Int32) then
      q_let (x3 - (1 : Int32)) fun v7 =>
      f_X6_type_L71 1000 σ x1 v7
    else
      some (σ, (-3 : Int32))
  else
    q_bnd (f_X6_in σ (((x1 >>> (((8 : Int32) * x4).toInt64 &&& 63)) &&& (255 : Int64)).toInt32) (32 : Int32) (126 : Int32)) fun s12 r13 =>
    if r13 = 0 then
      some (s12, (-1 : Int32))
    else
      q_let (x4 + (-1 : Int32)) fun v15 =>
      rec s12 x1 x3 v15
def f_X6_type_L17 (qn : Nat) : Sg → Int64 → Int32 → Int32 → Rs := Nat.rec (fun _ _ _ _ => none) (fun _ rec => s_X6_type_L17 rec) qn
def f_X6_type (σ : Sg) (p0 : Int64) (p1 : Int32) : Rs :=
  q_bnd (f_X6_in σ p1 (1 : Int32) (8 : Int32)) fun s1 r2 =>
  if r2 = 0 then
    some (s1, (-1 : Int32))
  else
    q_let (p1 - (1 : Int32)) fun v4 =>
    f_X6_type_L17 1000 s1 p0 p1 v4
def f_X6_next_J38 (σ : Sg) : Rs :=
  if (σ 26 27) ≤ (σ 26 28) then
    some (σ, (-1 : Int32))
  else
    if q_oob (σ 26 28) 30 then none else
    some (σ, σ 43 (σ 26 28).toNatClampNeg)
def s_X6_next_L0 (rec : Sg → Rs) (σ : Sg) : Rs :=
  if (σ 26 27) ≤ (σ 26 28) then
    f_X6_next_J38 σ
  else
    if q_oob (σ 26 28) 30 then none else
    if (σ 43 (σ 26 28).toNatClampNeg) = (32 : Int32) then
      q_lets (q_wr σ 26 28 ((σ 26 28) + (1 : Int32))) fun s4 =>
      rec s4
    else
      f_X6_next_J38 σ
def f_X6_next_L0 (qn : Nat) : Sg → Rs := Nat.rec (fun _ => none) (fun _ rec => s_X6_next_L0 rec) qn
def f_X6_next (σ : Sg) : Rs :=
  f_X6_next_L0 1000 σ
def f_X6_readClause_J170 (σ : Sg) (x1 : Int32) (x2 : Int32) (x4 : Int32) : Rs :=
  q_lets (q_wr σ 26 28 ((σ 26 28) + (1 : Int32))) fun s16 =>
  if q_oob x2 2 then none else
  q_lets (q_wr s16 41 x2.toNatClampNeg x4) fun s17 =>
  if q_oob x2 2 then none else
  q_lets (q_wr s17 42 x2.toNatClampNeg x1) fun s18 =>
  some (s18, (1 : Int32))
def f_X6_readClause_J129 (σ : Sg) (x2 : Int32) (x3 : Int32) (x4 : Int32) : Rs :=
  if (σ 26 28) = x3 then
    q_lets (q_wr σ 26 28 x3) fun s11 =>
    some (s11, (0 : Int32))
  else
    if x4 ≤ (99 : Int32) then
      q_bnd (f_X6_next σ) fun s13 r14 =>
      if r14 = (82 : Int32) then
        f_X6_readClause_J170 s13 r14 x2 x4
      else
        if r14 = (78 : Int32) then
          f_X6_readClause_J170 s13 r14 x2 x4
        else
          some (s13, (0 : Int32))
    else
      q_lets (q_wr σ 26 28 x3) fun s20 =>
      some (s20, (0 : Int32))
def f_X6_readClause_J114 (rec : Sg → Int32 → Int32 → Int32 → Rs) (σ : Sg) (x2 : Int32) (x3 : Int32) (y0 : Int32) : Rs :=
  q_lets (q_wr σ 26 28 ((σ 26 28) + (1 : Int32))) fun s25 =>
  rec s25 x2 x3 y0
def s_X6_readClause_L54 (rec : Sg → Int32 → Int32 → Int32 → Rs) (σ : Sg) (x2 : Int32) (x3 : Int32) (x4 : Int32) : Rs :=
  if (σ 26 27) ≤ (σ 26 28) then
    f_X6_readClause_J129 σ x2 x3 x4
  else
    if q_oob (σ 26 28) 30 then none else
    q_bnd (f_X6_in σ (σ 43 (σ 26 28).toNatClampNeg) (48 : Int32) (57 : Int32)) fun s21 r22 =>
    if r22 = 0 then
      f_X6_readClause_J129 s21 x2 x3 x4
    else
      if x4 ≤ (99 : Int32) then
        if q_oob (s21 26 28) 30 then none else
        f_X6_readClause_J114 rec s21 x2 x3 ((((10 : Int32) * x4) + (s21 43 (s21 26 28).toNatClampNeg)) - (48 : Int32))
      else
        f_X6_readClause_J114 rec s21 x2 x3 x4
def f_X6_readClause_L54 (qn : Nat) : Sg → Int32 → Int32 → Int32 → Rs := Nat.rec (fun _ _ _ _ => none) (fun _ rec => s_X6_readClause_L54 rec) qn
def f_X6_readClause_J30 (σ : Sg) (y0 : Int32) : Rs :=
  q_lets (q_wr σ 26 28 ((σ 26 28) + (1 : Int32))) fun s5 =>
  q_bnd (f_X6_next s5) fun s6 r7 =>
  q_let (s6 26 28) fun v8 =>
  f_X6_readClause_L54 1000 s6 y0 v8 (0 : Int32)
def f_X6_readClause_J19 (σ : Sg) (x1 : Int32) : Rs :=
  if x1 = (112 : Int32) then
    f_X6_readClause_J30 σ (0 : Int32)
  else
    f_X6_readClause_J30 σ (1 : Int32)
def f_X6_readClause (σ : Sg) : Rs :=
  q_bnd (f_X6_next σ) fun s1 r2 =>
  if r2 = (112 : Int32) then
    f_X6_readClause_J19 s1 r2
  else
    if r2 = (114 : Int32) then
      f_X6_readClause_J19 s1 r2
    else
      some (s1, (0 : Int32))
def f_X6_readLaws_J79 (rec : Sg → Int32 → Int32 → Rs) (σ : Sg) (x1 : Int32) (y0 : Int32) : Rs :=
  if y0 = 0 then
    q_lets (q_wr σ 26 28 ((σ 26 28) + (0 : Int32))) fun s17 =>
    rec s17 x1 y0
  else
    q_lets (q_wr σ 26 28 ((σ 26 28) + (1 : Int32))) fun s18 =>
    rec s18 x1 y0
def f_X6_readLaws_J70 (rec : Sg → Int32 → Int32 → Rs) (σ : Sg) (x1 : Int32) (x3 : Int32) : Rs :=
  if x3 < 0 then
    f_X6_readLaws_J79 rec σ x1 (0 : Int32)
  else
    f_X6_readLaws_J79 rec σ x1 (1 : Int32)
def s_X6_readLaws_L32 (rec : Sg → Int32 → Int32 → Rs) (σ : Sg) (x1 : Int32) (x2 : Int32) : Rs :=
  if x2 = 0 then
    some (σ, x1)
  else
    q_bnd (f_X6_readClause σ) fun s8 r9 =>
    if r9 = 0 then
      some (s8, (-1 : Int32))
    else
      q_let (x1 + (1 : Int32)) fun v11 =>
      q_bnd (f_X6_next s8) fun s12 r13 =>
      if r13 < 0 then
        f_X6_readLaws_J70 rec s12 v11 r13
      else
        if r13 = (59 : Int32) then
          if v11 = (2 : Int32) then
            some (s12, (-1 : Int32))
          else
            f_X6_readLaws_J70 rec s12 v11 r13
        else
          some (s12, (-1 : Int32))
def f_X6_readLaws_L32 (qn : Nat) : Sg → Int32 → Int32 → Rs := Nat.rec (fun _ _ _ => none) (fun _ rec => s_X6_readLaws_L32 rec) qn
def f_X6_readLaws (σ : Sg) : Rs :=
  q_lets (q_wr σ 26 28 (0 : Int32)) fun s1 =>
  if q_oob (0 : Int32) 2 then none else
  q_lets (q_wr s1 42 (0 : Int32).toNatClampNeg (0 : Int32)) fun s2 =>
  if q_oob (1 : Int32) 2 then none else
  q_lets (q_wr s2 42 (1 : Int32).toNatClampNeg (0 : Int32)) fun s3 =>
  q_bnd (f_X6_next s3) fun s4 r5 =>
  if 0 ≤ r5 then
    f_X6_readLaws_L32 1000 s4 (0 : Int32) (1 : Int32)
  else
    some (s4, (0 : Int32))
def s_X6_laws_L24 (rec : Sg → Int32 → Int32 → Rs) (σ : Sg) (x1 : Int32) (x2 : Int32) : Rs :=
  if (2 : Int32) ≤ x2 then
    some (σ, x1)
  else
    if q_oob x2 2 then none else
    if q_oob x2 2 then none else
    q_lets (q_wr σ 39 x2.toNatClampNeg (σ 41 x2.toNatClampNeg)) fun s6 =>
    if q_oob x2 2 then none else
    if q_oob x2 2 then none else
    q_lets (q_wr s6 40 x2.toNatClampNeg (s6 42 x2.toNatClampNeg)) fun s7 =>
    q_let (x2 + (1 : Int32)) fun v8 =>
    rec s7 x1 v8
def f_X6_laws_L24 (qn : Nat) : Sg → Int32 → Int32 → Rs := Nat.rec (fun _ _ _ => none) (fun _ rec => s_X6_laws_L24 rec) qn
def f_X6_laws (σ : Sg) : Rs :=
  q_bnd (f_X6_readLaws σ) fun s1 r2 =>
  q_lets (q_wr s1 26 27 (0 : Int32)) fun s3 =>
  if 0 ≤ r2 then
    f_X6_laws_L24 1000 s3 r2 (0 : Int32)
  else
    some (s3, (-20 : Int32) - (s3 26 28))
def f_X6_settle (σ : Sg) : Rs :=
  if (σ 26 1) = 0 then
    some (σ, (-2 : Int32))
  else
    q_bnd (f_X6_goTo σ (σ 26 4)) fun s2 _ =>
    q_bnd (f_X6_won s2) fun s4 r5 =>
    if r5 = (-4 : Int32) then
      some (s4, (-2 : Int32))
    else
      if q_oob r5 2 then none else
      q_let (s4 28 r5.toNatClampNeg) fun v7 =>
      if q_oob ((1 : Int32) - r5) 2 then none else
      q_let (s4 28 ((1 : Int32) - r5).toNatClampNeg) fun v8 =>
      if q_oob v7 8 then none else
      if q_oob v8 8 then none else
      q_bnd (f_X6_held s4 ((10 : Int32) - (((s4 27 v7.toNatClampNeg) - (s4 27 v8.toNatClampNeg)) / (20 : Int32))) (1 : Int32) (19 : Int32)) fun s9 r10 =>
      if q_oob v7 8 then none else
      q_bnd (f_X6_held s9 ((s9 27 v7.toNatClampNeg) + r10) (0 : Int32) (2000 : Int32)) fun s11 r12 =>
      if q_oob v7 8 then none else
      q_lets (q_wr s11 27 v7.toNatClampNeg r12) fun s13 =>
      if q_oob v8 8 then none else
      q_bnd (f_X6_held s13 ((s13 27 v8.toNatClampNeg) - r10) (0 : Int32) (2000 : Int32)) fun s14 r15 =>
      if q_oob v8 8 then none else
      q_lets (q_wr s14 27 v8.toNatClampNeg r15) fun s16 =>
      q_lets (q_wr s16 26 1 (0 : Int32)) fun s17 =>
      some (s17, r10)
def f_X6_playerOf_J101 (σ : Sg) (x1 : Int32) (x2 : Int32) : Rs :=
  q_bnd (f_X6_from σ x1 x2) fun s9 r10 =>
  if q_oob r10 15 then none else
  some (s9, s9 44 r10.toNatClampNeg)
def f_X6_playerOf_J49 (σ : Sg) (x2 : Int32) (y0 : Int32) : Rs :=
  some (σ, y0 + ((4 : Int32) * x2))
def f_X6_playerOf (σ : Sg) (p0 : Int32) (p1 : Int32) : Rs :=
  if (4 : Int32) ≤ p0 then
    q_bnd (f_X6_isFirst σ p0) fun s2 r3 =>
    if r3 = 0 then
      if p0 = (14 : Int32) then
        if q_oob (6 : Int32) 15 then none else
        if (s2 44 (6 : Int32).toNatClampNeg) < 0 then
          some (s2, (-1 : Int32))
        else
          if q_oob (13 : Int32) 15 then none else
          if (s2 44 (13 : Int32).toNatClampNeg) < 0 then
            some (s2, (-1 : Int32))
          else
            if q_oob (6 : Int32) 15 then none else
            if q_oob (13 : Int32) 15 then none else
            if (s2 44 (6 : Int32).toNatClampNeg) = (s2 44 (13 : Int32).toNatClampNeg) then
              some (s2, (-1 : Int32))
            else
              f_X6_playerOf_J101 s2 p0 p1
      else
        f_X6_playerOf_J101 s2 p0 p1
    else
      if p0 = (7 : Int32) then
        f_X6_playerOf_J49 s2 p1 (0 : Int32)
      else
        if p0 = (8 : Int32) then
          f_X6_playerOf_J49 s2 p1 (2 : Int32)
        else
          if p0 = (9 : Int32) then
            f_X6_playerOf_J49 s2 p1 (1 : Int32)
          else
            f_X6_playerOf_J49 s2 p1 (3 : Int32)
  else
    some (σ, ((2 : Int32) * p0) + p1)
def f_X6_match_J38 (σ : Sg) (y0 : Int32) : Rs :=
  if 0 ≤ y0 then
    some (σ, y0)
  else
    some (σ, (-4 : Int32))
def f_X6_match (σ : Sg) (p0 : Int32) (p1 : Int32) : Rs :=
  q_bnd (f_X6_isMatch σ p0) fun s1 r2 =>
  if r2 = 0 then
    some (s1, (-1 : Int32))
  else
    q_bnd (f_X6_in s1 p1 (0 : Int32) (2 : Int32)) fun s4 r5 =>
    if r5 = 0 then
      some (s4, (-1 : Int32))
    else
      if p1 = (2 : Int32) then
        if q_oob p0 15 then none else
        f_X6_match_J38 s4 (s4 44 p0.toNatClampNeg)
      else
        q_bnd (f_X6_playerOf s4 p0 p1) fun s9 r10 =>
        f_X6_match_J38 s9 r10
def f_X6_win_J63 (σ : Sg) (x1 : Int32) (x2 : Int32) : Rs :=
  if q_oob x1 15 then none else
  q_lets (q_wr σ 44 x1.toNatClampNeg x2) fun s15 =>
  some (s15, (1 : Int32))
def f_X6_win (σ : Sg) (p0 : Int32) (p1 : Int32) : Rs :=
  q_bnd (f_X6_isMatch σ p0) fun s1 r2 =>
  if r2 = 0 then
    some (s1, (-1 : Int32))
  else
    q_bnd (f_X6_isPlayer s1 p1) fun s4 r5 =>
    if r5 = 0 then
      some (s4, (-1 : Int32))
    else
      q_bnd (f_X6_playerOf s4 p0 (0 : Int32)) fun s7 r8 =>
      q_bnd (f_X6_playerOf s7 p0 (1 : Int32)) fun s9 r10 =>
      if r8 < 0 then
        some (s9, (-2 : Int32))
      else
        if r10 < 0 then
          some (s9, (-2 : Int32))
        else
          if q_oob p0 15 then none else
          if 0 ≤ (s9 44 p0.toNatClampNeg) then
            some (s9, (-2 : Int32))
          else
            if p1 = r8 then
              f_X6_win_J63 s9 p0 p1
            else
              if p1 = r10 then
                f_X6_win_J63 s9 p0 p1
              else
                some (s9, (-2 : Int32))
def f_X6_unwin_J74 (rec : Sg → Int32 → Int32 → Rs) (σ : Sg) (x2 : Int32) (x3 : Int32) : Rs :=
  if q_oob x3 15 then none else
  q_lets (q_wr σ 44 x3.toNatClampNeg (-1 : Int32)) fun s16 =>
  q_let (x2 + (1 : Int32)) fun v17 =>
  q_let (x3 + (1 : Int32)) fun v18 =>
  rec s16 v17 v18
def s_X6_unwin_L34 (rec : Sg → Int32 → Int32 → Rs) (σ : Sg) (x2 : Int32) (x3 : Int32) : Rs :=
  if (15 : Int32) ≤ x3 then
    some (σ, x2)
  else
    q_bnd (f_X6_isFirst σ x3) fun s8 r9 =>
    if r9 = 0 then
      if q_oob x3 15 then none else
      if (s8 44 x3.toNatClampNeg) < 0 then
        q_let (x3 + (1 : Int32)) fun v12 =>
        rec s8 x2 v12
      else
        q_bnd (f_X6_playerOf s8 x3 (0 : Int32)) fun s13 r14 =>
        if r14 < 0 then
          f_X6_unwin_J74 rec s13 x2 x3
        else
          q_bnd (f_X6_playerOf s13 x3 (1 : Int32)) fun s19 r20 =>
          if 0 ≤ r20 then
            q_let (x3 + (1 : Int32)) fun v22 =>
            rec s19 x2 v22
          else
            f_X6_unwin_J74 rec s19 x2 x3
    else
      q_let (x3 + (1 : Int32)) fun v23 =>
      rec s8 x2 v23
def f_X6_unwin_L34 (qn : Nat) : Sg → Int32 → Int32 → Rs := Nat.rec (fun _ _ _ => none) (fun _ rec => s_X6_unwin_L34 rec) qn
def f_X6_unwin (σ : Sg) (p0 : Int32) : Rs :=
  q_bnd (f_X6_isMatch σ p0) fun s1 r2 =>
  if r2 = 0 then
    some (s1, (-1 : Int32))
  else
    if q_oob p0 15 then none else
    if 0 ≤ (s1 44 p0.toNatClampNeg) then
      if q_oob p0 15 then none else
      q_lets (q_wr s1 44 p0.toNatClampNeg (-1 : Int32)) fun s5 =>
      q_let (p0 + (1 : Int32)) fun v6 =>
      f_X6_unwin_L34 1000 s5 (1 : Int32) v6
    else
      some (s1, (-2 : Int32))
def f_X6_champion_J27 (σ : Sg) : Rs :=
  if q_oob (14 : Int32) 15 then none else
  if 0 ≤ (σ 44 (14 : Int32).toNatClampNeg) then
    if q_oob (14 : Int32) 15 then none else
    some (σ, σ 44 (14 : Int32).toNatClampNeg)
  else
    some (σ, (-4 : Int32))
def f_X6_champion (σ : Sg) : Rs :=
  if q_oob (6 : Int32) 15 then none else
  q_let (σ 44 (6 : Int32).toNatClampNeg) fun v1 =>
  if q_oob (13 : Int32) 15 then none else
  q_let (σ 44 (13 : Int32).toNatClampNeg) fun v2 =>
  if v1 < 0 then
    f_X6_champion_J27 σ
  else
    if v1 = v2 then
      some (σ, v1)
    else
      f_X6_champion_J27 σ
def s_X6_laid_L4 (rec : Sg → Int32 → Int32 → Rs) (σ : Sg) (x1 : Int32) (x2 : Int32) : Rs :=
  if (15 : Int32) ≤ x2 then
    some (σ, x1)
  else
    if q_oob x2 15 then none else
    if (σ 45 x2.toNatClampNeg) < 0 then
      q_let (x1 + (0 : Int32)) fun v3 =>
      q_let (x2 + (1 : Int32)) fun v4 =>
      rec σ v3 v4
    else
      q_let (x1 + (1 : Int32)) fun v5 =>
      q_let (x2 + (1 : Int32)) fun v6 =>
      rec σ v5 v6
def f_X6_laid_L4 (qn : Nat) : Sg → Int32 → Int32 → Rs := Nat.rec (fun _ _ _ => none) (fun _ rec => s_X6_laid_L4 rec) qn
def f_X6_laid (σ : Sg) : Rs :=
  f_X6_laid_L4 1000 σ (0 : Int32) (0 : Int32)
def f_X6_lawns (σ : Sg) (p0 : Int32) : Rs :=
  q_bnd (f_X6_in σ p0 (1 : Int32) (4 : Int32)) fun s1 r2 =>
  if r2 = 0 then
    some (s1, (-1 : Int32))
  else
    q_bnd (f_X6_laid s1) fun s4 r5 =>
    if r5 ≤ 0 then
      q_let (s4 26 31) fun v7 =>
      q_lets (q_wr s4 26 31 p0) fun s8 =>
      some (s8, v7)
    else
      some (s4, (-2 : Int32))
def f_X6_isIn (σ : Sg) (p0 : Int32) (p1 : Int32) : Rs :=
  if p0 < 0 then
    some (σ, (0 : Int32))
  else
    q_bnd (f_X6_playerOf σ p1 (0 : Int32)) fun s2 r3 =>
    if r3 = p0 then
      some (s2, (1 : Int32))
    else
      q_bnd (f_X6_playerOf s2 p1 (1 : Int32)) fun s5 r6 =>
      if r6 = p0 then
        some (s5, (1 : Int32))
      else
        some (s5, (0 : Int32))
def s_X6_isFree_L8 (rec : Sg → Int32 → Int32 → Int32 → Int32 → Int32 → Rs) (σ : Sg) (x1 : Int32) (x2 : Int32) (x3 : Int32) (x4 : Int32) (x5 : Int32) : Rs :=
  if (15 : Int32) ≤ x5 then
    if x4 = 0 then
      some (σ, (0 : Int32))
    else
      if (σ 26 31) ≤ x3 then
        some (σ, (0 : Int32))
      else
        some (σ, (1 : Int32))
  else
    if q_oob x5 15 then none else
    if (σ 45 x5.toNatClampNeg) = x2 then
      q_let (x3 + (1 : Int32)) fun v5 =>
      if x4 = 0 then
        q_let (x5 + (1 : Int32)) fun v7 =>
        rec σ x1 x2 v5 (0 : Int32) v7
      else
        q_bnd (f_X6_playerOf σ x1 (0 : Int32)) fun s8 r9 =>
        q_bnd (f_X6_isIn s8 r9 x5) fun s10 r11 =>
        if r11 = 0 then
          q_bnd (f_X6_playerOf s10 x1 (1 : Int32)) fun s13 r14 =>
          q_bnd (f_X6_isIn s13 r14 x5) fun s15 r16 =>
          if r16 = 0 then
            q_let (x5 + (1 : Int32)) fun v18 =>
            rec s15 x1 x2 v5 (1 : Int32) v18
          else
            q_let (x5 + (1 : Int32)) fun v19 =>
            rec s15 x1 x2 v5 (0 : Int32) v19
        else
          q_let (x5 + (1 : Int32)) fun v20 =>
          rec s10 x1 x2 v5 (0 : Int32) v20
    else
      q_let (x5 + (1 : Int32)) fun v21 =>
      rec σ x1 x2 x3 x4 v21
def f_X6_isFree_L8 (qn : Nat) : Sg → Int32 → Int32 → Int32 → Int32 → Int32 → Rs := Nat.rec (fun _ _ _ _ _ _ => none) (fun _ rec => s_X6_isFree_L8 rec) qn
def f_X6_isFree (σ : Sg) (p0 : Int32) (p1 : Int32) : Rs :=
  f_X6_isFree_L8 1000 σ p0 p1 (0 : Int32) (1 : Int32) (0 : Int32)
def s_X6_lay_L82 (rec : Sg → Int32 → Int32 → Rs) (σ : Sg) (x1 : Int32) (x2 : Int32) : Rs :=
  q_bnd (f_X6_isFree σ x1 x2) fun s17 r18 =>
  if r18 = 0 then
    q_let (x2 + (1 : Int32)) fun v20 =>
    rec s17 x1 v20
  else
    if q_oob x1 15 then none else
    q_lets (q_wr s17 45 x1.toNatClampNeg x2) fun s21 =>
    some (s21, x2)
def f_X6_lay_L82 (qn : Nat) : Sg → Int32 → Int32 → Rs := Nat.rec (fun _ _ _ => none) (fun _ rec => s_X6_lay_L82 rec) qn
def f_X6_lay_J70 (σ : Sg) (x1 : Int32) (x2 : Int32) : Rs :=
  if q_oob x1 15 then none else
  if (σ 45 x1.toNatClampNeg) < 0 then
    f_X6_lay_L82 1000 σ x1 x2
  else
    some (σ, (-2 : Int32))
def f_X6_lay_J69 (σ : Sg) (x1 : Int32) (y0 : Int32) : Rs :=
  f_X6_lay_J70 σ x1 y0
def f_X6_lay (σ : Sg) (p0 : Int32) : Rs :=
  q_bnd (f_X6_isMatch σ p0) fun s1 r2 =>
  if r2 = 0 then
    some (s1, (-1 : Int32))
  else
    q_bnd (f_X6_isFirst s1 p0) fun s4 r5 =>
    if r5 = 0 then
      q_bnd (f_X6_from s4 p0 (0 : Int32)) fun s7 r8 =>
      if q_oob r8 15 then none else
      q_let (s7 45 r8.toNatClampNeg) fun v9 =>
      q_bnd (f_X6_from s7 p0 (1 : Int32)) fun s10 r11 =>
      if q_oob r11 15 then none else
      q_let (s10 45 r11.toNatClampNeg) fun v12 =>
      if v9 < 0 then
        some (s10, (-2 : Int32))
      else
        if 0 ≤ v12 then
          if v9 ≤ v12 then
            f_X6_lay_J69 s10 p0 (v12 + (1 : Int32))
          else
            f_X6_lay_J69 s10 p0 (v9 + (1 : Int32))
        else
          some (s10, (-2 : Int32))
    else
      f_X6_lay_J70 s4 p0 (0 : Int32)
def f_X6_hour (σ : Sg) (p0 : Int32) : Rs :=
  q_bnd (f_X6_isMatch σ p0) fun s1 r2 =>
  if r2 = 0 then
    some (s1, (-1 : Int32))
  else
    if q_oob p0 15 then none else
    if 0 ≤ (s1 45 p0.toNatClampNeg) then
      if q_oob p0 15 then none else
      some (s1, s1 45 p0.toNatClampNeg)
    else
      some (s1, (-4 : Int32))
def s_X6_clear_L7 (rec : Sg → Int32 → Int32 → Rs) (σ : Sg) (x1 : Int32) (x2 : Int32) : Rs :=
  if (15 : Int32) ≤ x2 then
    some (σ, x1)
  else
    if q_oob x2 15 then none else
    q_lets (q_wr σ 45 x2.toNatClampNeg (-1 : Int32)) fun s4 =>
    q_let (x2 + (1 : Int32)) fun v5 =>
    rec s4 x1 v5
def f_X6_clear_L7 (qn : Nat) : Sg → Int32 → Int32 → Rs := Nat.rec (fun _ _ _ => none) (fun _ rec => s_X6_clear_L7 rec) qn
def f_X6_clear (σ : Sg) : Rs :=
  q_bnd (f_X6_laid σ) fun s1 r2 =>
  f_X6_clear_L7 1000 s1 r2 (0 : Int32)
def s_L_law_L18 (N : Nat) (rec : Sg → Int32 → Rs) (σ : Sg) (x3 : Int32) : Rs :=
  if ((Int32.ofNat N) - (4 : Int32)) < x3 then
    some (σ, (1 : Int32))
  else
    if q_oob x3 N then none else
    q_let ((σ 105 x3.toNatClampNeg) &&& (31 : Int32)) fun v8 =>
    if v8 < (0 : Int32) then
      q_let (x3 + (4 : Int32)) fun v10 =>
      rec σ v10
    else
    if (19 : Int32) < v8 then
      q_let (x3 + (4 : Int32)) fun v12 =>
      rec σ v12
    else
    if v8 = (0 : Int32) then
      if q_oob (x3 + (1 : Int32)) N then none else
      if q_oob (x3 + (2 : Int32)) N then none else
      q_bnd (f_X5_game σ (σ 105 (x3 + (1 : Int32)).toNatClampNeg) (σ 105 (x3 + (2 : Int32)).toNatClampNeg)) fun s14 r15 =>
      if q_oob (x3 + (1 : Int32)) N then none else
      if q_oob (x3 + (2 : Int32)) N then none else
      q_bnd (f_X6_game s14 (s14 105 (x3 + (1 : Int32)).toNatClampNeg) (s14 105 (x3 + (2 : Int32)).toNatClampNeg)) fun s16 r17 =>
      if r15 = r17 then
        q_let (x3 + (4 : Int32)) fun v19 =>
        rec s16 v19
      else
        some (s16, (0 : Int32))
    else
    if v8 = (1 : Int32) then
      if q_oob (x3 + (1 : Int32)) N then none else
      if q_oob (x3 + (2 : Int32)) N then none else
      q_bnd (f_X5_stroke σ (σ 105 (x3 + (1 : Int32)).toNatClampNeg) (σ 105 (x3 + (2 : Int32)).toNatClampNeg)) fun s21 r22 =>
      if q_oob (x3 + (1 : Int32)) N then none else
      if q_oob (x3 + (2 : Int32)) N then none else
      q_bnd (f_X6_stroke s21 (s21 105 (x3 + (1 : Int32)).toNatClampNeg) (s21 105 (x3 + (2 : Int32)).toNatClampNeg)) fun s23 r24 =>
      if r22 = r24 then
        q_let (x3 + (4 : Int32)) fun v26 =>
        rec s23 v26
      else
        some (s23, (0 : Int32))
    else
    if v8 = (2 : Int32) then
      if q_oob (x3 + (1 : Int32)) N then none else
      if q_oob (x3 + (2 : Int32)) N then none else
      q_bnd (f_X5_told σ (σ 105 (x3 + (1 : Int32)).toNatClampNeg) (σ 105 (x3 + (2 : Int32)).toNatClampNeg)) fun s28 r29 =>
      if q_oob (x3 + (1 : Int32)) N then none else
      if q_oob (x3 + (2 : Int32)) N then none else
      q_bnd (f_X6_told s28 (s28 105 (x3 + (1 : Int32)).toNatClampNeg) (s28 105 (x3 + (2 : Int32)).toNatClampNeg)) fun s30 r31 =>
      if r29 = r31 then
        q_let (x3 + (4 : Int32)) fun v33 =>
        rec s30 v33
      else
        some (s30, (0 : Int32))
    else
    if v8 = (3 : Int32) then
      if q_oob (x3 + (1 : Int32)) N then none else
      q_bnd (f_X5_hit σ (σ 105 (x3 + (1 : Int32)).toNatClampNeg)) fun s35 r36 =>
      if q_oob (x3 + (1 : Int32)) N then none else
      q_bnd (f_X6_hit s35 (s35 105 (x3 + (1 : Int32)).toNatClampNeg)) fun s37 r38 =>
      if r36 = r38 then
        q_let (x3 + (4 : Int32)) fun v40 =>
        rec s37 v40
      else
        some (s37, (0 : Int32))
    else
    if v8 = (4 : Int32) then
      if q_oob (x3 + (1 : Int32)) N then none else
      if q_oob (x3 + (2 : Int32)) N then none else
      q_bnd (f_X5_state σ (σ 105 (x3 + (1 : Int32)).toNatClampNeg) (σ 105 (x3 + (2 : Int32)).toNatClampNeg)) fun s42 r43 =>
      if q_oob (x3 + (1 : Int32)) N then none else
      if q_oob (x3 + (2 : Int32)) N then none else
      q_bnd (f_X6_state s42 (s42 105 (x3 + (1 : Int32)).toNatClampNeg) (s42 105 (x3 + (2 : Int32)).toNatClampNeg)) fun s44 r45 =>
      if r43 = r45 then
        q_let (x3 + (4 : Int32)) fun v47 =>
        rec s44 v47
      else
        some (s44, (0 : Int32))
    else
    if v8 = (5 : Int32) then
      if q_oob (x3 + (1 : Int32)) N then none else
      q_bnd (f_X5_found σ (σ 105 (x3 + (1 : Int32)).toNatClampNeg)) fun s49 r50 =>
      if q_oob (x3 + (1 : Int32)) N then none else
      q_bnd (f_X6_found s49 (s49 105 (x3 + (1 : Int32)).toNatClampNeg)) fun s51 r52 =>
      if r50 = r52 then
        q_let (x3 + (4 : Int32)) fun v54 =>
        rec s51 v54
      else
        some (s51, (0 : Int32))
    else
    if v8 = (6 : Int32) then
      if q_oob (x3 + (1 : Int32)) N then none else
      if q_oob (x3 + (2 : Int32)) N then none else
      if q_oob (x3 + (3 : Int32)) N then none else
      q_bnd (f_X5_type σ ((((σ 105 (x3 + (1 : Int32)).toNatClampNeg).toInt64) <<< ((32 : Int32).toInt64 &&& 63)) ||| (((σ 105 (x3 + (2 : Int32)).toNatClampNeg).toInt64) &&& (4294967295 : Int64))) (σ 105 (x3 + (3 : Int32)).toNatClampNeg)) fun s56 r57 =>
      if q_oob (x3 + (1 : Int32)) N then none else
      if q_oob (x3 + (2 : Int32)) N then none else
      if q_oob (x3 + (3 : Int32)) N then none else
      q_bnd (f_X6_type s56 ((((s56 105 (x3 + (1 : Int32)).toNatClampNeg).toInt64) <<< ((32 : Int32).toInt64 &&& 63)) ||| (((s56 105 (x3 + (2 : Int32)).toNatClampNeg).toInt64) &&& (4294967295 : Int64))) (s56 105 (x3 + (3 : Int32)).toNatClampNeg)) fun s58 r59 =>
      if r57 = r59 then
        q_let (x3 + (4 : Int32)) fun v61 =>
        rec s58 v61
      else
        some (s58, (0 : Int32))
    else
    if v8 = (7 : Int32) then
      q_bnd (f_X5_laws σ) fun s63 r64 =>
      q_bnd (f_X6_laws s63) fun s65 r66 =>
      if r64 = r66 then
        q_let (x3 + (4 : Int32)) fun v68 =>
        rec s65 v68
      else
        some (s65, (0 : Int32))
    else
    if v8 = (8 : Int32) then
      if q_oob (x3 + (1 : Int32)) N then none else
      q_bnd (f_X5_count σ (σ 105 (x3 + (1 : Int32)).toNatClampNeg)) fun s70 r71 =>
      if q_oob (x3 + (1 : Int32)) N then none else
      q_bnd (f_X6_count s70 (s70 105 (x3 + (1 : Int32)).toNatClampNeg)) fun s72 r73 =>
      if r71 = r73 then
        q_let (x3 + (4 : Int32)) fun v75 =>
        rec s72 v75
      else
        some (s72, (0 : Int32))
    else
    if v8 = (9 : Int32) then
      if q_oob (x3 + (1 : Int32)) N then none else
      if q_oob (x3 + (2 : Int32)) N then none else
      q_bnd (f_X5_index σ (σ 105 (x3 + (1 : Int32)).toNatClampNeg) (σ 105 (x3 + (2 : Int32)).toNatClampNeg)) fun s77 r78 =>
      if q_oob (x3 + (1 : Int32)) N then none else
      if q_oob (x3 + (2 : Int32)) N then none else
      q_bnd (f_X6_index s77 (s77 105 (x3 + (1 : Int32)).toNatClampNeg) (s77 105 (x3 + (2 : Int32)).toNatClampNeg)) fun s79 r80 =>
      if r78 = r80 then
        q_let (x3 + (4 : Int32)) fun v82 =>
        rec s79 v82
      else
        some (s79, (0 : Int32))
    else
    if v8 = (10 : Int32) then
      if q_oob (x3 + (1 : Int32)) N then none else
      q_bnd (f_X5_handicap σ (σ 105 (x3 + (1 : Int32)).toNatClampNeg)) fun s84 r85 =>
      if q_oob (x3 + (1 : Int32)) N then none else
      q_bnd (f_X6_handicap s84 (s84 105 (x3 + (1 : Int32)).toNatClampNeg)) fun s86 r87 =>
      if r85 = r87 then
        q_let (x3 + (4 : Int32)) fun v89 =>
        rec s86 v89
      else
        some (s86, (0 : Int32))
    else
    if v8 = (11 : Int32) then
      q_bnd (f_X5_settle σ) fun s91 r92 =>
      q_bnd (f_X6_settle s91) fun s93 r94 =>
      if r92 = r94 then
        q_let (x3 + (4 : Int32)) fun v96 =>
        rec s93 v96
      else
        some (s93, (0 : Int32))
    else
    if v8 = (12 : Int32) then
      if q_oob (x3 + (1 : Int32)) N then none else
      if q_oob (x3 + (2 : Int32)) N then none else
      q_bnd (f_X5_match σ (σ 105 (x3 + (1 : Int32)).toNatClampNeg) (σ 105 (x3 + (2 : Int32)).toNatClampNeg)) fun s98 r99 =>
      if q_oob (x3 + (1 : Int32)) N then none else
      if q_oob (x3 + (2 : Int32)) N then none else
      q_bnd (f_X6_match s98 (s98 105 (x3 + (1 : Int32)).toNatClampNeg) (s98 105 (x3 + (2 : Int32)).toNatClampNeg)) fun s100 r101 =>
      if r99 = r101 then
        q_let (x3 + (4 : Int32)) fun v103 =>
        rec s100 v103
      else
        some (s100, (0 : Int32))
    else
    if v8 = (13 : Int32) then
      if q_oob (x3 + (1 : Int32)) N then none else
      if q_oob (x3 + (2 : Int32)) N then none else
      q_bnd (f_X5_win σ (σ 105 (x3 + (1 : Int32)).toNatClampNeg) (σ 105 (x3 + (2 : Int32)).toNatClampNeg)) fun s105 r106 =>
      if q_oob (x3 + (1 : Int32)) N then none else
      if q_oob (x3 + (2 : Int32)) N then none else
      q_bnd (f_X6_win s105 (s105 105 (x3 + (1 : Int32)).toNatClampNeg) (s105 105 (x3 + (2 : Int32)).toNatClampNeg)) fun s107 r108 =>
      if r106 = r108 then
        q_let (x3 + (4 : Int32)) fun v110 =>
        rec s107 v110
      else
        some (s107, (0 : Int32))
    else
    if v8 = (14 : Int32) then
      if q_oob (x3 + (1 : Int32)) N then none else
      q_bnd (f_X5_unwin σ (σ 105 (x3 + (1 : Int32)).toNatClampNeg)) fun s112 r113 =>
      if q_oob (x3 + (1 : Int32)) N then none else
      q_bnd (f_X6_unwin s112 (s112 105 (x3 + (1 : Int32)).toNatClampNeg)) fun s114 r115 =>
      if r113 = r115 then
        q_let (x3 + (4 : Int32)) fun v117 =>
        rec s114 v117
      else
        some (s114, (0 : Int32))
    else
    if v8 = (15 : Int32) then
      q_bnd (f_X5_champion σ) fun s119 r120 =>
      q_bnd (f_X6_champion s119) fun s121 r122 =>
      if r120 = r122 then
        q_let (x3 + (4 : Int32)) fun v124 =>
        rec s121 v124
      else
        some (s121, (0 : Int32))
    else
    if v8 = (16 : Int32) then
      if q_oob (x3 + (1 : Int32)) N then none else
      q_bnd (f_X5_lawns σ (σ 105 (x3 + (1 : Int32)).toNatClampNeg)) fun s126 r127 =>
      if q_oob (x3 + (1 : Int32)) N then none else
      q_bnd (f_X6_lawns s126 (s126 105 (x3 + (1 : Int32)).toNatClampNeg)) fun s128 r129 =>
      if r127 = r129 then
        q_let (x3 + (4 : Int32)) fun v131 =>
        rec s128 v131
      else
        some (s128, (0 : Int32))
    else
    if v8 = (17 : Int32) then
      if q_oob (x3 + (1 : Int32)) N then none else
      q_bnd (f_X5_lay σ (σ 105 (x3 + (1 : Int32)).toNatClampNeg)) fun s133 r134 =>
      if q_oob (x3 + (1 : Int32)) N then none else
      q_bnd (f_X6_lay s133 (s133 105 (x3 + (1 : Int32)).toNatClampNeg)) fun s135 r136 =>
      if r134 = r136 then
        q_let (x3 + (4 : Int32)) fun v138 =>
        rec s135 v138
      else
        some (s135, (0 : Int32))
    else
    if v8 = (18 : Int32) then
      if q_oob (x3 + (1 : Int32)) N then none else
      q_bnd (f_X5_hour σ (σ 105 (x3 + (1 : Int32)).toNatClampNeg)) fun s140 r141 =>
      if q_oob (x3 + (1 : Int32)) N then none else
      q_bnd (f_X6_hour s140 (s140 105 (x3 + (1 : Int32)).toNatClampNeg)) fun s142 r143 =>
      if r141 = r143 then
        q_let (x3 + (4 : Int32)) fun v145 =>
        rec s142 v145
      else
        some (s142, (0 : Int32))
    else
    if v8 = (19 : Int32) then
      q_bnd (f_X5_clear σ) fun s147 r148 =>
      q_bnd (f_X6_clear s147) fun s149 r150 =>
      if r148 = r150 then
        q_let (x3 + (4 : Int32)) fun v152 =>
        rec s149 v152
      else
        some (s149, (0 : Int32))
    else
    none
def f_L_law_L18 (N : Nat) (qn : Nat) : Sg → Int32 → Rs := Nat.rec (fun _ _ => none) (fun _ rec => s_L_law_L18 N rec) qn
def f_L_law (N : Nat) (σ : Sg) : Rs :=
  q_lets (q_clr σ 0) fun s1 =>
  q_bnd (f_X5_init_0 s1) fun s2 _ =>
  q_lets (q_clr s2 26) fun s4 =>
  q_bnd (f_X6_init_26 s4) fun s5 _ =>
  f_L_law_L18 N 1000 s5 (0 : Int32)
end
end
section
section QL
variable {X : q_Cx} {M : q_Mt} {Q : q_Fin} {ph ph' : q_Lay × Nat × Nat} {σ : Sg} {pc pc' : Nat} {l l' : List (Nat × Value)} {st rest : List Value} {E : Rs}
theorem gq_let {x : Int32} {f : Int32 → Rs} (k : ∀ y, q_G X M Q ph σ pc l (.int y :: st) (f y)) : q_G X M Q ph σ pc l (.int x :: st) (q_let x f) := k x
theorem gq_lets {f : Sg → Rs} (k : ∀ τ, q_G X M Q ph τ pc l st (f τ)) : q_G X M Q ph σ pc l st (q_lets σ f) := k σ
theorem gq_ph (h : ph = ph') (k : q_G X M Q ph' σ pc l st E) : q_G X M Q ph σ pc l st E := h ▸ k
theorem gq_iincl {i j : Nat} {n : Int} {x v : Int32} {f : Int32 → Rs} (d : decode M.2.1 pc = .ok (.iinc i n, 3)) (hp : pc + 3 = pc') (hk : l[j]? = some (i, .int x)) (hn : i < M.2.2.1) (hv : Int32.ofInt n = v) (kk : ∀ y, q_G X M Q ph σ pc' ((i, Value.int y) :: l.filter (fun q => !(q.1 == i) && !(q.1 + 1 == i && q.2.category == 2))) st (f y)) : q_G X M Q ph σ pc l st (q_let (x + v) f) := by
  subst hv
  exact gq_iinc d hp hk rfl hn rfl (kk _)
end QL
def q_LM (own : String) (idx : Nat) (y : MethodName) (b : ByteArray) (n : Nat) : Prop := Cond.methodLink own idx y ∈ lw_gd ∧ Cond.static y ∈ lw_gd ∧ Cond.initialized "java/lang/Math" ∈ lw_gd ∧ Cond.code y b n (some .int) ∈ lw_gd
section QM
variable {X : q_Cx} {M : q_Mt} {Q : q_Fin} {Λ : q_Lay} {cs ns idx : Nat} {σ : Sg} {pc pc' : Nat} {l : List (Nat × Value)} {st : List Value} {E : Rs} {x y : Int32}
theorem gq_mmax (d : decode M.2.1 pc = .ok (.invokestatic idx, 3)) (hp : pc + 3 = pc') (lk : q_LM M.1.cls idx Lib.Math.max.name Lib.Math.max.code 2) (hf : 1 ≤ M.2.2.2.2.frames) (hl : (st.map fun v => v.category).sum + 13 ≤ M.2.2.2.2.locals) (hc : cs ≤ M.2.2.2.2.cells) (hn : ns ≤ M.2.2.2.2.slots) (kk : q_G X M Q (Λ, cs, ns) σ pc' l (.int (if x < y then y else x) :: st) E) : q_G X M Q (Λ, cs, ns) σ pc l (.int y :: .int x :: st) E := by
  subst hp
  intro hE p e s m args below meth c H locs ls V hP hz h6 hT hS h
  exact va_mmax V.1 V.2.1 (V.2.2.2.1.trans h.1.symm) V.2.2.2.2.1 (V.2.2.2.2.2.1 _ lk.1) (V.2.2.2.2.2.1 _ lk.2.1) (V.2.2.2.2.2.1 _ lk.2.2.1) (V.2.2.2.2.2.1 _ lk.2.2.2) hf hl hc hn d (kk hE p e s m args below meth c H locs ls V hP hz h6 hT hS h)
theorem gq_mmin (d : decode M.2.1 pc = .ok (.invokestatic idx, 3)) (hp : pc + 3 = pc') (lk : q_LM M.1.cls idx Lib.Math.min.name Lib.Math.min.code 2) (hf : 1 ≤ M.2.2.2.2.frames) (hl : (st.map fun v => v.category).sum + 13 ≤ M.2.2.2.2.locals) (hc : cs ≤ M.2.2.2.2.cells) (hn : ns ≤ M.2.2.2.2.slots) (kk : q_G X M Q (Λ, cs, ns) σ pc' l (.int (if y < x then y else x) :: st) E) : q_G X M Q (Λ, cs, ns) σ pc l (.int y :: .int x :: st) E := by
  subst hp
  intro hE p e s m args below meth c H locs ls V hP hz h6 hT hS h
  exact va_mmin V.1 V.2.1 (V.2.2.2.1.trans h.1.symm) V.2.2.2.2.1 (V.2.2.2.2.2.1 _ lk.1) (V.2.2.2.2.2.1 _ lk.2.1) (V.2.2.2.2.2.1 _ lk.2.2.1) (V.2.2.2.2.2.1 _ lk.2.2.2) hf hl hc hn d (kk hE p e s m args below meth c H locs ls V hP hz h6 hT hS h)
theorem gq_mabs (d : decode M.2.1 pc = .ok (.invokestatic idx, 3)) (hp : pc + 3 = pc') (lk : q_LM M.1.cls idx Lib.Math.abs.name Lib.Math.abs.code 1) (hf : 1 ≤ M.2.2.2.2.frames) (hl : (st.map fun v => v.category).sum + 13 ≤ M.2.2.2.2.locals) (hc : cs ≤ M.2.2.2.2.cells) (hn : ns ≤ M.2.2.2.2.slots) (kk : q_G X M Q (Λ, cs, ns) σ pc' l (.int (if 0 ≤ x then x else 0 - x) :: st) E) : q_G X M Q (Λ, cs, ns) σ pc l (.int x :: st) E := by
  subst hp
  intro hE p e s m args below meth c H locs ls V hP hz h6 hT hS h
  exact va_mabs V.1 V.2.1 (V.2.2.2.1.trans h.1.symm) V.2.2.2.2.1 (V.2.2.2.2.2.1 _ lk.1) (V.2.2.2.2.2.1 _ lk.2.1) (V.2.2.2.2.2.1 _ lk.2.2.1) (V.2.2.2.2.2.1 _ lk.2.2.2) hf hl hc hn d (kk hE p e s m args below meth c H locs ls V hP hz h6 hT hS h)
end QM
end
section
-- GENERATED by wip/gen/gen.py: rooms, links, fields
def mX0_byteOf : q_Mt := (yX0_byteOf, cX0_byteOf, 3, some .int, { frames := 0, cells := 0, slots := 0, locals := 0 })
def mX5_within : q_Mt := (yX5_within, cX5_within, 3, some .boolean, { frames := 0, cells := 0, slots := 0, locals := 0 })
def mX1_isMatch : q_Mt := (yX1_isMatch, cX1_isMatch, 1, some .boolean, { frames := 1, cells := 0, slots := 0, locals := 22 })
def mX2_begins : q_Mt := (yX2_begins, cX2_begins, 1, some .boolean, { frames := 0, cells := 0, slots := 0, locals := 0 })
def mX4_held : q_Mt := (yX4_held, cX4_held, 3, some .int, { frames := 1, cells := 0, slots := 0, locals := 21 })
def mX5_isPlayer : q_Mt := (yX5_isPlayer, cX5_isPlayer, 1, some .boolean, { frames := 1, cells := 0, slots := 0, locals := 22 })
def mX5_at : q_Mt := (yX5_at, cX5_at, 2, some .int, { frames := 0, cells := 0, slots := 0, locals := 0 })
def mX5_set : q_Mt := (yX5_set, cX5_set, 3, none, { frames := 0, cells := 0, slots := 0, locals := 0 })
def mX6_in : q_Mt := (yX6_in, cX6_in, 3, some .boolean, { frames := 0, cells := 0, slots := 0, locals := 0 })
def mX6_isPlayer : q_Mt := (yX6_isPlayer, cX6_isPlayer, 1, some .boolean, { frames := 1, cells := 0, slots := 0, locals := 22 })
def mX6_held : q_Mt := (yX6_held, cX6_held, 3, some .int, { frames := 0, cells := 0, slots := 0, locals := 0 })
def mX6_isMatch : q_Mt := (yX6_isMatch, cX6_isMatch, 1, some .boolean, { frames := 1, cells := 0, slots := 0, locals := 22 })
def mX6_isFirst : q_Mt := (yX6_isFirst, cX6_isFirst, 1, some .boolean, { frames := 0, cells := 0, slots := 0, locals := 0 })
def mX6_from : q_Mt := (yX6_from, cX6_from, 3, some .int, { frames := 0, cells := 0, slots := 0, locals := 0 })
def mJ7_fill_53178 : q_Mt := (yJ7_fill_53178, cJ7_fill_53178, 4, none, { frames := 0, cells := 0, slots := 0, locals := 0 })
def mX3_init : q_Mt := (yX3_init, cX3_init, 1, none, { frames := 1, cells := 2, slots := 6, locals := 20 })
def mX2_init : q_Mt := (yX2_init, cX2_init, 1, none, { frames := 2, cells := 13, slots := 931, locals := 40 })
def mX0_init : q_Mt := (yX0_init, cX0_init, 1, none, { frames := 1, cells := 5, slots := 38, locals := 22 })
def mX4_init : q_Mt := (yX4_init, cX4_init, 1, none, { frames := 1, cells := 1, slots := 8, locals := 23 })
def mX1_init : q_Mt := (yX1_init, cX1_init, 1, none, { frames := 1, cells := 2, slots := 30, locals := 23 })
def mX5_init : q_Mt := (yX5_init, cX5_init, 1, none, { frames := 3, cells := 25, slots := 1031, locals := 60 })
def mX6_init : q_Mt := (yX6_init, cX6_init, 2, none, { frames := 1, cells := 19, slots := 1138, locals := 20 })
def mX0_letterFor : q_Mt := (yX0_letterFor, cX0_letterFor, 4, some .int, { frames := 1, cells := 0, slots := 0, locals := 21 })
def mX0_append : q_Mt := (yX0_append, cX0_append, 5, some .int, { frames := 1, cells := 0, slots := 0, locals := 22 })
def mX0_here : q_Mt := (yX0_here, cX0_here, 1, some .int, { frames := 1, cells := 0, slots := 0, locals := 21 })
def mX0_skipBlanks : q_Mt := (yX0_skipBlanks, cX0_skipBlanks, 1, none, { frames := 2, cells := 0, slots := 0, locals := 41 })
def mX0_atEnd : q_Mt := (yX0_atEnd, cX0_atEnd, 1, some .boolean, { frames := 3, cells := 0, slots := 0, locals := 61 })
def mX0_readNumber : q_Mt := (yX0_readNumber, cX0_readNumber, 3, some .int, { frames := 2, cells := 0, slots := 0, locals := 41 })
def mX0_readClause : q_Mt := (yX0_readClause, cX0_readClause, 4, some .boolean, { frames := 3, cells := 0, slots := 0, locals := 63 })
def mX0_read : q_Mt := (yX0_read, cX0_read, 1, some .int, { frames := 4, cells := 0, slots := 0, locals := 86 })
def mX0_adoptDraft : q_Mt := (yX0_adoptDraft, cX0_adoptDraft, 2, none, { frames := 1, cells := 0, slots := 0, locals := 22 })
def mX0_takeTape : q_Mt := (yX0_takeTape, cX0_takeTape, 2, some .int, { frames := 5, cells := 0, slots := 0, locals := 106 })
def mX1_hasTwoWinners : q_Mt := (yX1_hasTwoWinners, cX1_hasTwoWinners, 3, some .boolean, { frames := 1, cells := 0, slots := 0, locals := 21 })
def mX1_who : q_Mt := (yX1_who, cX1_who, 4, some .int, { frames := 2, cells := 0, slots := 0, locals := 43 })
def mX1_give : q_Mt := (yX1_give, cX1_give, 5, some .int, { frames := 3, cells := 0, slots := 0, locals := 66 })
def mX1_takeBack : q_Mt := (yX1_takeBack, cX1_takeBack, 5, some .int, { frames := 1, cells := 0, slots := 0, locals := 22 })
def mX1_best : q_Mt := (yX1_best, cX1_best, 2, some .int, { frames := 1, cells := 0, slots := 0, locals := 21 })
def mX1_laid : q_Mt := (yX1_laid, cX1_laid, 3, some .int, { frames := 1, cells := 0, slots := 0, locals := 21 })
def mX1_setLawns : q_Mt := (yX1_setLawns, cX1_setLawns, 3, some .int, { frames := 2, cells := 0, slots := 0, locals := 43 })
def mX1_hourOf : q_Mt := (yX1_hourOf, cX1_hourOf, 2, some .int, { frames := 1, cells := 0, slots := 0, locals := 21 })
def mX1_plays : q_Mt := (yX1_plays, cX1_plays, 3, some .boolean, { frames := 3, cells := 0, slots := 0, locals := 66 })
def mX1_isFree : q_Mt := (yX1_isFree, cX1_isFree, 5, some .boolean, { frames := 4, cells := 0, slots := 0, locals := 88 })
def mX1_place : q_Mt := (yX1_place, cX1_place, 6, some .int, { frames := 5, cells := 0, slots := 0, locals := 112 })
def mX1_liftAll : q_Mt := (yX1_liftAll, cX1_liftAll, 2, some .int, { frames := 2, cells := 0, slots := 0, locals := 43 })
def mX3_stopFor : q_Mt := (yX3_stopFor, cX3_stopFor, 2, none, { frames := 0, cells := 0, slots := 0, locals := 0 })
def mX3_begin : q_Mt := (yX3_begin, cX3_begin, 3, none, { frames := 1, cells := 0, slots := 0, locals := 23 })
def mX2_begin : q_Mt := (yX2_begin, cX2_begin, 5, none, { frames := 2, cells := 0, slots := 0, locals := 45 })
def mX2_end : q_Mt := (yX2_end, cX2_end, 1, none, { frames := 0, cells := 0, slots := 0, locals := 0 })
def mX3_isOut : q_Mt := (yX3_isOut, cX3_isOut, 2, some .boolean, { frames := 1, cells := 0, slots := 0, locals := 21 })
def mX3_winner : q_Mt := (yX3_winner, cX3_winner, 1, some .int, { frames := 2, cells := 0, slots := 0, locals := 42 })
def mX2_winner : q_Mt := (yX2_winner, cX2_winner, 1, some .int, { frames := 3, cells := 0, slots := 0, locals := 62 })
def mX2_playerOf : q_Mt := (yX2_playerOf, cX2_playerOf, 2, some .int, { frames := 1, cells := 0, slots := 0, locals := 21 })
def mX3_allowsFree : q_Mt := (yX3_allowsFree, cX3_allowsFree, 1, some .boolean, { frames := 2, cells := 0, slots := 0, locals := 42 })
def mX3_allowsFresh : q_Mt := (yX3_allowsFresh, cX3_allowsFresh, 3, some .boolean, { frames := 2, cells := 0, slots := 0, locals := 42 })
def mX3_allows : q_Mt := (yX3_allows, cX3_allows, 3, some .boolean, { frames := 3, cells := 0, slots := 0, locals := 64 })
def mX3_isWrong : q_Mt := (yX3_isWrong, cX3_isWrong, 3, some .boolean, { frames := 0, cells := 0, slots := 0, locals := 0 })
def mX3_inPlay : q_Mt := (yX3_inPlay, cX3_inPlay, 1, some .int, { frames := 0, cells := 0, slots := 0, locals := 0 })
def mX3_side : q_Mt := (yX3_side, cX3_side, 1, some .int, { frames := 0, cells := 0, slots := 0, locals := 0 })
def mX2_noteStriker : q_Mt := (yX2_noteStriker, cX2_noteStriker, 2, none, { frames := 1, cells := 0, slots := 0, locals := 22 })
def mX3_bringIn : q_Mt := (yX3_bringIn, cX3_bringIn, 3, none, { frames := 1, cells := 0, slots := 0, locals := 21 })
def mX3_endTurn : q_Mt := (yX3_endTurn, cX3_endTurn, 2, none, { frames := 1, cells := 0, slots := 0, locals := 21 })
def mX3_roquet : q_Mt := (yX3_roquet, cX3_roquet, 2, none, { frames := 0, cells := 0, slots := 0, locals := 0 })
def mX3_croquet : q_Mt := (yX3_croquet, cX3_croquet, 1, none, { frames := 0, cells := 0, slots := 0, locals := 0 })
def mX3_spendFree : q_Mt := (yX3_spendFree, cX3_spendFree, 1, none, { frames := 1, cells := 0, slots := 0, locals := 22 })
def mX3_lead : q_Mt := (yX3_lead, cX3_lead, 3, none, { frames := 2, cells := 0, slots := 0, locals := 43 })
def mX2_take : q_Mt := (yX2_take, cX2_take, 4, some .int, { frames := 4, cells := 0, slots := 0, locals := 86 })
def mX2_has : q_Mt := (yX2_has, cX2_has, 2, some .boolean, { frames := 0, cells := 0, slots := 0, locals := 0 })
def mX2_tell : q_Mt := (yX2_tell, cX2_tell, 3, some .int, { frames := 1, cells := 0, slots := 0, locals := 21 })
def mX2_roqueted : q_Mt := (yX2_roqueted, cX2_roqueted, 2, some .int, { frames := 1, cells := 0, slots := 0, locals := 21 })
def mX2_obey : q_Mt := (yX2_obey, cX2_obey, 2, none, { frames := 2, cells := 0, slots := 0, locals := 42 })
def mX2_leadTo : q_Mt := (yX2_leadTo, cX2_leadTo, 4, none, { frames := 3, cells := 0, slots := 0, locals := 65 })
def mX3_tell : q_Mt := (yX3_tell, cX3_tell, 2, some .int, { frames := 3, cells := 0, slots := 0, locals := 62 })
def mX2_asOf : q_Mt := (yX2_asOf, cX2_asOf, 3, some .int, { frames := 4, cells := 0, slots := 0, locals := 88 })
def mX2_takeAway : q_Mt := (yX2_takeAway, cX2_takeAway, 2, some .int, { frames := 4, cells := 0, slots := 0, locals := 88 })
def mX2_stopTurn : q_Mt := (yX2_stopTurn, cX2_stopTurn, 2, some .int, { frames := 2, cells := 0, slots := 0, locals := 42 })
def mX2_find : q_Mt := (yX2_find, cX2_find, 4, some .int, { frames := 5, cells := 0, slots := 0, locals := 109 })
def mX2_counts : q_Mt := (yX2_counts, cX2_counts, 3, some .boolean, { frames := 1, cells := 0, slots := 0, locals := 21 })
def mX2_total : q_Mt := (yX2_total, cX2_total, 4, some .int, { frames := 2, cells := 0, slots := 0, locals := 43 })
def mX4_put : q_Mt := (yX4_put, cX4_put, 4, some .int, { frames := 1, cells := 0, slots := 0, locals := 22 })
def mX4_handicapOf : q_Mt := (yX4_handicapOf, cX4_handicapOf, 2, some .int, { frames := 1, cells := 0, slots := 0, locals := 21 })
def mX4_freeTurnsOfOther : q_Mt := (yX4_freeTurnsOfOther, cX4_freeTurnsOfOther, 5, some .int, { frames := 2, cells := 0, slots := 0, locals := 42 })
def mX4_move : q_Mt := (yX4_move, cX4_move, 6, some .int, { frames := 2, cells := 0, slots := 0, locals := 43 })
def mX5_game : q_Mt := (yX5_game, cX5_game, 4, some .int, { frames := 3, cells := 0, slots := 0, locals := 69 })
def mX5_stroke : q_Mt := (yX5_stroke, cX5_stroke, 4, some .int, { frames := 5, cells := 0, slots := 0, locals := 109 })
def mX5_told : q_Mt := (yX5_told, cX5_told, 3, some .int, { frames := 2, cells := 0, slots := 0, locals := 43 })
def mX5_hit : q_Mt := (yX5_hit, cX5_hit, 2, some .int, { frames := 2, cells := 0, slots := 0, locals := 42 })
def mX5_state : q_Mt := (yX5_state, cX5_state, 3, some .int, { frames := 5, cells := 0, slots := 0, locals := 110 })
def mX5_found : q_Mt := (yX5_found, cX5_found, 2, some .int, { frames := 6, cells := 0, slots := 0, locals := 132 })
def mX5_type : q_Mt := (yX5_type, cX5_type, 4, some .int, { frames := 2, cells := 0, slots := 0, locals := 46 })
def mX5_laws : q_Mt := (yX5_laws, cX5_laws, 1, some .int, { frames := 6, cells := 0, slots := 0, locals := 127 })
def mX5_count : q_Mt := (yX5_count, cX5_count, 2, some .int, { frames := 3, cells := 0, slots := 0, locals := 66 })
def mX5_index : q_Mt := (yX5_index, cX5_index, 3, some .int, { frames := 2, cells := 0, slots := 0, locals := 45 })
def mX5_handicap : q_Mt := (yX5_handicap, cX5_handicap, 2, some .int, { frames := 2, cells := 0, slots := 0, locals := 42 })
def mX5_settle : q_Mt := (yX5_settle, cX5_settle, 3, some .int, { frames := 4, cells := 0, slots := 0, locals := 82 })
def mX5_match : q_Mt := (yX5_match, cX5_match, 3, some .int, { frames := 3, cells := 0, slots := 0, locals := 66 })
def mX5_win : q_Mt := (yX5_win, cX5_win, 3, some .int, { frames := 4, cells := 0, slots := 0, locals := 90 })
def mX5_unwin : q_Mt := (yX5_unwin, cX5_unwin, 2, some .int, { frames := 2, cells := 0, slots := 0, locals := 46 })
def mX5_champion : q_Mt := (yX5_champion, cX5_champion, 1, some .int, { frames := 2, cells := 0, slots := 0, locals := 42 })
def mX5_lawns : q_Mt := (yX5_lawns, cX5_lawns, 2, some .int, { frames := 3, cells := 0, slots := 0, locals := 65 })
def mX5_lay : q_Mt := (yX5_lay, cX5_lay, 2, some .int, { frames := 6, cells := 0, slots := 0, locals := 137 })
def mX5_hour : q_Mt := (yX5_hour, cX5_hour, 2, some .int, { frames := 2, cells := 0, slots := 0, locals := 42 })
def mX5_clear : q_Mt := (yX5_clear, cX5_clear, 1, some .int, { frames := 3, cells := 0, slots := 0, locals := 64 })
def mX6_index : q_Mt := (yX6_index, cX6_index, 4, some .int, { frames := 2, cells := 0, slots := 0, locals := 42 })
def mX6_handicapOf : q_Mt := (yX6_handicapOf, cX6_handicapOf, 2, some .int, { frames := 0, cells := 0, slots := 0, locals := 0 })
def mX6_handicap : q_Mt := (yX6_handicap, cX6_handicap, 2, some .int, { frames := 2, cells := 0, slots := 0, locals := 42 })
def mX6_forget : q_Mt := (yX6_forget, cX6_forget, 3, none, { frames := 0, cells := 0, slots := 0, locals := 0 })
def mX6_game : q_Mt := (yX6_game, cX6_game, 4, some .int, { frames := 2, cells := 0, slots := 0, locals := 42 })
def mX6_others : q_Mt := (yX6_others, cX6_others, 3, some .int, { frames := 0, cells := 0, slots := 0, locals := 0 })
def mX6_begin : q_Mt := (yX6_begin, cX6_begin, 3, none, { frames := 1, cells := 0, slots := 0, locals := 22 })
def mX6_endTurn : q_Mt := (yX6_endTurn, cX6_endTurn, 1, none, { frames := 0, cells := 0, slots := 0, locals := 0 })
def mX6_turnTo : q_Mt := (yX6_turnTo, cX6_turnTo, 2, none, { frames := 0, cells := 0, slots := 0, locals := 0 })
def mX6_won : q_Mt := (yX6_won, cX6_won, 1, some .int, { frames := 0, cells := 0, slots := 0, locals := 0 })
def mX6_canDo : q_Mt := (yX6_canDo, cX6_canDo, 4, some .boolean, { frames := 0, cells := 0, slots := 0, locals := 0 })
def mX6_isWrong : q_Mt := (yX6_isWrong, cX6_isWrong, 3, some .boolean, { frames := 0, cells := 0, slots := 0, locals := 0 })
def mX6_make : q_Mt := (yX6_make, cX6_make, 3, none, { frames := 2, cells := 0, slots := 0, locals := 44 })
def mX6_goTo : q_Mt := (yX6_goTo, cX6_goTo, 3, none, { frames := 3, cells := 0, slots := 0, locals := 66 })
def mX6_stroke : q_Mt := (yX6_stroke, cX6_stroke, 5, some .int, { frames := 4, cells := 0, slots := 0, locals := 88 })
def mX6_isStroke : q_Mt := (yX6_isStroke, cX6_isStroke, 2, some .boolean, { frames := 1, cells := 0, slots := 0, locals := 22 })
def mX6_told : q_Mt := (yX6_told, cX6_told, 3, some .int, { frames := 2, cells := 0, slots := 0, locals := 43 })
def mX6_hit : q_Mt := (yX6_hit, cX6_hit, 2, some .int, { frames := 2, cells := 0, slots := 0, locals := 43 })
def mX6_state : q_Mt := (yX6_state, cX6_state, 3, some .int, { frames := 4, cells := 0, slots := 0, locals := 88 })
def mX6_count : q_Mt := (yX6_count, cX6_count, 5, some .int, { frames := 1, cells := 0, slots := 0, locals := 22 })
def mX6_found : q_Mt := (yX6_found, cX6_found, 3, some .int, { frames := 4, cells := 0, slots := 0, locals := 88 })
def mX6_type : q_Mt := (yX6_type, cX6_type, 5, some .int, { frames := 1, cells := 0, slots := 0, locals := 22 })
def mX6_next : q_Mt := (yX6_next, cX6_next, 1, some .int, { frames := 0, cells := 0, slots := 0, locals := 0 })
def mX6_readClause : q_Mt := (yX6_readClause, cX6_readClause, 5, some .boolean, { frames := 1, cells := 0, slots := 0, locals := 22 })
def mX6_readLaws : q_Mt := (yX6_readLaws, cX6_readLaws, 4, some .int, { frames := 2, cells := 0, slots := 0, locals := 46 })
def mX6_laws : q_Mt := (yX6_laws, cX6_laws, 3, some .int, { frames := 3, cells := 0, slots := 0, locals := 69 })
def mX6_settle : q_Mt := (yX6_settle, cX6_settle, 5, some .int, { frames := 4, cells := 0, slots := 0, locals := 88 })
def mX6_playerOf : q_Mt := (yX6_playerOf, cX6_playerOf, 4, some .int, { frames := 1, cells := 0, slots := 0, locals := 22 })
def mX6_match : q_Mt := (yX6_match, cX6_match, 4, some .int, { frames := 2, cells := 0, slots := 0, locals := 45 })
def mX6_win : q_Mt := (yX6_win, cX6_win, 5, some .int, { frames := 2, cells := 0, slots := 0, locals := 45 })
def mX6_unwin : q_Mt := (yX6_unwin, cX6_unwin, 4, some .int, { frames := 2, cells := 0, slots := 0, locals := 45 })
def mX6_champion : q_Mt := (yX6_champion, cX6_champion, 3, some .int, { frames := 0, cells := 0, slots := 0, locals := 0 })
def mX6_laid : q_Mt := (yX6_laid, cX6_laid, 3, some .int, { frames := 0, cells := 0, slots := 0, locals := 0 })
def mX6_lawns : q_Mt := (yX6_lawns, cX6_lawns, 3, some .int, { frames := 1, cells := 0, slots := 0, locals := 22 })
def mX6_isIn : q_Mt := (yX6_isIn, cX6_isIn, 3, some .boolean, { frames := 2, cells := 0, slots := 0, locals := 45 })
def mX6_isFree : q_Mt := (yX6_isFree, cX6_isFree, 6, some .boolean, { frames := 3, cells := 0, slots := 0, locals := 67 })
def mX6_lay : q_Mt := (yX6_lay, cX6_lay, 5, some .int, { frames := 4, cells := 0, slots := 0, locals := 92 })
def mX6_hour : q_Mt := (yX6_hour, cX6_hour, 2, some .int, { frames := 2, cells := 0, slots := 0, locals := 42 })
def mX6_clear : q_Mt := (yX6_clear, cX6_clear, 3, some .int, { frames := 1, cells := 0, slots := 0, locals := 22 })
def mL_law : q_Mt := (yL_law, cL_law, 4, some .boolean, room_1)
theorem mfX0_byteOf : q_MF mX0_byteOf 2 := ⟨by decide +kernel, ⟨by decide +kernel, by decide +kernel, by decide +kernel⟩, (List.mem_filter.mpr ⟨List.mem_of_getElem? (i := 46) (by decide +kernel), by decide +kernel⟩), (List.mem_filter.mpr ⟨List.mem_of_getElem? (i := 400) (by decide +kernel), by decide +kernel⟩)⟩
theorem mfX5_within : q_MF mX5_within 3 := ⟨by decide +kernel, ⟨by decide +kernel, by decide +kernel, by decide +kernel⟩, (List.mem_filter.mpr ⟨List.mem_of_getElem? (i := 43) (by decide +kernel), by decide +kernel⟩), (List.mem_filter.mpr ⟨List.mem_of_getElem? (i := 221) (by decide +kernel), by decide +kernel⟩)⟩
theorem lkX1_28 : q_LSN RX1 28 yX5_within := ⟨by decide +kernel, (List.mem_filter.mpr ⟨List.mem_of_getElem? (i := 220) (by decide +kernel), by decide +kernel⟩)⟩
theorem mfX1_isMatch : q_MF mX1_isMatch 1 := ⟨by decide +kernel, ⟨by decide +kernel, by decide +kernel, by decide +kernel⟩, (List.mem_filter.mpr ⟨List.mem_of_getElem? (i := 49) (by decide +kernel), by decide +kernel⟩), (List.mem_filter.mpr ⟨List.mem_of_getElem? (i := 500) (by decide +kernel), by decide +kernel⟩)⟩
theorem mfX2_begins : q_MF mX2_begins 1 := ⟨by decide +kernel, ⟨by decide +kernel, by decide +kernel, by decide +kernel⟩, (List.mem_filter.mpr ⟨List.mem_of_getElem? (i := 44) (by decide +kernel), by decide +kernel⟩), (List.mem_filter.mpr ⟨List.mem_of_getElem? (i := 289) (by decide +kernel), by decide +kernel⟩)⟩
theorem lkX4_42 : q_LM RX4 42 Lib.Math.min.name Lib.Math.min.code 2 := ⟨(List.mem_filter.mpr ⟨List.mem_of_getElem? (i := 488) (by decide +kernel), by decide +kernel⟩), (List.mem_filter.mpr ⟨List.mem_of_getElem? (i := 436) (by decide +kernel), by decide +kernel⟩), (List.mem_filter.mpr ⟨List.mem_of_getElem? (i := 51) (by decide +kernel), by decide +kernel⟩), (List.mem_filter.mpr ⟨List.mem_of_getElem? (i := 437) (by decide +kernel), by decide +kernel⟩)⟩
theorem lkX4_46 : q_LM RX4 46 Lib.Math.max.name Lib.Math.max.code 2 := ⟨(List.mem_filter.mpr ⟨List.mem_of_getElem? (i := 489) (by decide +kernel), by decide +kernel⟩), (List.mem_filter.mpr ⟨List.mem_of_getElem? (i := 237) (by decide +kernel), by decide +kernel⟩), (List.mem_filter.mpr ⟨List.mem_of_getElem? (i := 51) (by decide +kernel), by decide +kernel⟩), (List.mem_filter.mpr ⟨List.mem_of_getElem? (i := 238) (by decide +kernel), by decide +kernel⟩)⟩
theorem mfX4_held : q_MF mX4_held 3 := ⟨by decide +kernel, ⟨by decide +kernel, by decide +kernel, by decide +kernel⟩, (List.mem_filter.mpr ⟨List.mem_of_getElem? (i := 47) (by decide +kernel), by decide +kernel⟩), (List.mem_filter.mpr ⟨List.mem_of_getElem? (i := 487) (by decide +kernel), by decide +kernel⟩)⟩
theorem lkX5_54 : q_LS RX5 54 yX5_within := ⟨(List.mem_filter.mpr ⟨List.mem_of_getElem? (i := 219) (by decide +kernel), by decide +kernel⟩), (List.mem_filter.mpr ⟨List.mem_of_getElem? (i := 220) (by decide +kernel), by decide +kernel⟩)⟩
theorem mfX5_isPlayer : q_MF mX5_isPlayer 1 := ⟨by decide +kernel, ⟨by decide +kernel, by decide +kernel, by decide +kernel⟩, (List.mem_filter.mpr ⟨List.mem_of_getElem? (i := 43) (by decide +kernel), by decide +kernel⟩), (List.mem_filter.mpr ⟨List.mem_of_getElem? (i := 218) (by decide +kernel), by decide +kernel⟩)⟩
theorem mfX5_at : q_MF mX5_at 2 := ⟨by decide +kernel, ⟨by decide +kernel, by decide +kernel, by decide +kernel⟩, (List.mem_filter.mpr ⟨List.mem_of_getElem? (i := 43) (by decide +kernel), by decide +kernel⟩), (List.mem_filter.mpr ⟨List.mem_of_getElem? (i := 232) (by decide +kernel), by decide +kernel⟩)⟩
theorem mfX5_set : q_MF mX5_set 3 := ⟨by decide +kernel, ⟨by decide +kernel, by decide +kernel, by decide +kernel⟩, (List.mem_filter.mpr ⟨List.mem_of_getElem? (i := 43) (by decide +kernel), by decide +kernel⟩), (List.mem_filter.mpr ⟨List.mem_of_getElem? (i := 146) (by decide +kernel), by decide +kernel⟩)⟩
theorem mfX6_in : q_MF mX6_in 3 := ⟨by decide +kernel, ⟨by decide +kernel, by decide +kernel, by decide +kernel⟩, (List.mem_filter.mpr ⟨List.mem_of_getElem? (i := 50) (by decide +kernel), by decide +kernel⟩), (List.mem_filter.mpr ⟨List.mem_of_getElem? (i := 705) (by decide +kernel), by decide +kernel⟩)⟩
theorem lkX6_72 : q_LS RX6 72 yX6_in := ⟨(List.mem_filter.mpr ⟨List.mem_of_getElem? (i := 703) (by decide +kernel), by decide +kernel⟩), (List.mem_filter.mpr ⟨List.mem_of_getElem? (i := 704) (by decide +kernel), by decide +kernel⟩)⟩
theorem mfX6_isPlayer : q_MF mX6_isPlayer 1 := ⟨by decide +kernel, ⟨by decide +kernel, by decide +kernel, by decide +kernel⟩, (List.mem_filter.mpr ⟨List.mem_of_getElem? (i := 50) (by decide +kernel), by decide +kernel⟩), (List.mem_filter.mpr ⟨List.mem_of_getElem? (i := 702) (by decide +kernel), by decide +kernel⟩)⟩
theorem mfX6_held : q_MF mX6_held 3 := ⟨by decide +kernel, ⟨by decide +kernel, by decide +kernel, by decide +kernel⟩, (List.mem_filter.mpr ⟨List.mem_of_getElem? (i := 50) (by decide +kernel), by decide +kernel⟩), (List.mem_filter.mpr ⟨List.mem_of_getElem? (i := 813) (by decide +kernel), by decide +kernel⟩)⟩
theorem mfX6_isMatch : q_MF mX6_isMatch 1 := ⟨by decide +kernel, ⟨by decide +kernel, by decide +kernel, by decide +kernel⟩, (List.mem_filter.mpr ⟨List.mem_of_getElem? (i := 50) (by decide +kernel), by decide +kernel⟩), (List.mem_filter.mpr ⟨List.mem_of_getElem? (i := 820) (by decide +kernel), by decide +kernel⟩)⟩
theorem mfX6_isFirst : q_MF mX6_isFirst 1 := ⟨by decide +kernel, ⟨by decide +kernel, by decide +kernel, by decide +kernel⟩, (List.mem_filter.mpr ⟨List.mem_of_getElem? (i := 50) (by decide +kernel), by decide +kernel⟩), (List.mem_filter.mpr ⟨List.mem_of_getElem? (i := 827) (by decide +kernel), by decide +kernel⟩)⟩
theorem mfX6_from : q_MF mX6_from 2 := ⟨by decide +kernel, ⟨by decide +kernel, by decide +kernel, by decide +kernel⟩, (List.mem_filter.mpr ⟨List.mem_of_getElem? (i := 50) (by decide +kernel), by decide +kernel⟩), (List.mem_filter.mpr ⟨List.mem_of_getElem? (i := 830) (by decide +kernel), by decide +kernel⟩)⟩
theorem mfJ7_fill_53178 : q_MF mJ7_fill_53178 2 := ⟨by decide +kernel, ⟨by decide +kernel, by decide +kernel, by decide +kernel⟩, (List.mem_filter.mpr ⟨List.mem_of_getElem? (i := 48) (by decide +kernel), by decide +kernel⟩), (List.mem_filter.mpr ⟨List.mem_of_getElem? (i := 177) (by decide +kernel), by decide +kernel⟩)⟩
theorem iwX2 : ∀ w ∈ u_ws RX2 TX2 13, w ∈ lw_gd := by decide +kernel
theorem lkX5_11 : q_LIN RX5 11 yX2_init := ⟨by decide +kernel, (List.mem_filter.mpr ⟨List.mem_of_getElem? (i := 63) (by decide +kernel), by decide +kernel⟩), rfl⟩
theorem mfX2_init : q_MF mX2_init 0 := ⟨by decide +kernel, ⟨by decide +kernel, by decide +kernel, by decide +kernel⟩, (List.mem_filter.mpr ⟨List.mem_of_getElem? (i := 44) (by decide +kernel), by decide +kernel⟩), (List.mem_filter.mpr ⟨List.mem_of_getElem? (i := 64) (by decide +kernel), by decide +kernel⟩)⟩
theorem flX2_9 : q_FL RX2 9 2 RX2 TX2 13 0 := ⟨(List.mem_filter.mpr ⟨List.mem_of_getElem? (i := 98) (by decide +kernel), by decide +kernel⟩), by decide, rfl, iwX2⟩
theorem plX2_0 : q_PL RX2 TX2 13 0 (.array .int) true := ⟨rfl, by decide +kernel, ⟨tyX2, tyX2_ok⟩, nmX2⟩
theorem flX2_15 : q_FL RX2 15 2 RX2 TX2 13 1 := ⟨(List.mem_filter.mpr ⟨List.mem_of_getElem? (i := 99) (by decide +kernel), by decide +kernel⟩), by decide, rfl, iwX2⟩
theorem plX2_1 : q_PL RX2 TX2 13 1 (.array .int) true := ⟨rfl, by decide +kernel, ⟨tyX2, tyX2_ok⟩, nmX2⟩
theorem flX2_18 : q_FL RX2 18 2 RX2 TX2 13 2 := ⟨(List.mem_filter.mpr ⟨List.mem_of_getElem? (i := 100) (by decide +kernel), by decide +kernel⟩), by decide, rfl, iwX2⟩
theorem plX2_2 : q_PL RX2 TX2 13 2 (.array .int) true := ⟨rfl, by decide +kernel, ⟨tyX2, tyX2_ok⟩, nmX2⟩
theorem flX2_21 : q_FL RX2 21 2 RX2 TX2 13 3 := ⟨(List.mem_filter.mpr ⟨List.mem_of_getElem? (i := 101) (by decide +kernel), by decide +kernel⟩), by decide, rfl, iwX2⟩
theorem plX2_3 : q_PL RX2 TX2 13 3 (.array .int) true := ⟨rfl, by decide +kernel, ⟨tyX2, tyX2_ok⟩, nmX2⟩
theorem flX2_24 : q_FL RX2 24 2 RX2 TX2 13 4 := ⟨(List.mem_filter.mpr ⟨List.mem_of_getElem? (i := 102) (by decide +kernel), by decide +kernel⟩), by decide, rfl, iwX2⟩
theorem plX2_4 : q_PL RX2 TX2 13 4 (.array .int) true := ⟨rfl, by decide +kernel, ⟨tyX2, tyX2_ok⟩, nmX2⟩
theorem flX2_27 : q_FL RX2 27 2 RX2 TX2 13 5 := ⟨(List.mem_filter.mpr ⟨List.mem_of_getElem? (i := 103) (by decide +kernel), by decide +kernel⟩), by decide, rfl, iwX2⟩
theorem plX2_5 : q_PL RX2 TX2 13 5 (.array .int) true := ⟨rfl, by decide +kernel, ⟨tyX2, tyX2_ok⟩, nmX2⟩
theorem flX2_30 : q_FL RX2 30 2 RX2 TX2 13 6 := ⟨(List.mem_filter.mpr ⟨List.mem_of_getElem? (i := 104) (by decide +kernel), by decide +kernel⟩), by decide, rfl, iwX2⟩
theorem plX2_6 : q_PL RX2 TX2 13 6 (.array .int) true := ⟨rfl, by decide +kernel, ⟨tyX2, tyX2_ok⟩, nmX2⟩
theorem iwX3 : ∀ w ∈ u_ws RX3 TX3 8, w ∈ lw_gd := by decide +kernel
theorem lkX2_35 : q_LIN RX2 35 yX3_init := ⟨by decide +kernel, (List.mem_filter.mpr ⟨List.mem_of_getElem? (i := 69) (by decide +kernel), by decide +kernel⟩), rfl⟩
theorem mfX3_init : q_MF mX3_init 0 := ⟨by decide +kernel, ⟨by decide +kernel, by decide +kernel, by decide +kernel⟩, (List.mem_filter.mpr ⟨List.mem_of_getElem? (i := 45) (by decide +kernel), by decide +kernel⟩), (List.mem_filter.mpr ⟨List.mem_of_getElem? (i := 70) (by decide +kernel), by decide +kernel⟩)⟩
theorem flX3_9 : q_FL RX3 9 3 RX3 TX3 8 0 := ⟨(List.mem_filter.mpr ⟨List.mem_of_getElem? (i := 72) (by decide +kernel), by decide +kernel⟩), by decide, rfl, iwX3⟩
theorem plX3_0 : q_PL RX3 TX3 8 0 (.array .int) true := ⟨rfl, by decide +kernel, ⟨tyX3, tyX3_ok⟩, nmX3⟩
theorem flX3_15 : q_FL RX3 15 3 RX3 TX3 8 1 := ⟨(List.mem_filter.mpr ⟨List.mem_of_getElem? (i := 73) (by decide +kernel), by decide +kernel⟩), by decide, rfl, iwX3⟩
theorem plX3_1 : q_PL RX3 TX3 8 1 (.array .int) true := ⟨rfl, by decide +kernel, ⟨tyX3, tyX3_ok⟩, nmX3⟩
theorem flX2_36 : q_FL RX2 36 2 RX2 TX2 13 7 := ⟨(List.mem_filter.mpr ⟨List.mem_of_getElem? (i := 105) (by decide +kernel), by decide +kernel⟩), by decide, rfl, iwX2⟩
theorem plX2_7 : q_PL RX2 TX2 13 7 (.object "CroquetLawn$Position") true := ⟨rfl, by decide +kernel, ⟨tyX2, tyX2_ok⟩, nmX2⟩
theorem flX2_40 : q_FL RX2 40 2 RX2 TX2 13 8 := ⟨(List.mem_filter.mpr ⟨List.mem_of_getElem? (i := 106) (by decide +kernel), by decide +kernel⟩), by decide, rfl, iwX2⟩
theorem plX2_8 : q_PL RX2 TX2 13 8 (.object "CroquetLawn$Position") true := ⟨rfl, by decide +kernel, ⟨tyX2, tyX2_ok⟩, nmX2⟩
theorem iwX5 : ∀ w ∈ u_ws RX5 TX5 4, w ∈ lw_gd := by decide +kernel
theorem flX5_12 : q_FL RX5 12 5 RX5 TX5 4 0 := ⟨(List.mem_filter.mpr ⟨List.mem_of_getElem? (i := 199) (by decide +kernel), by decide +kernel⟩), by decide, rfl, iwX5⟩
theorem plX5_0 : q_PL RX5 TX5 4 0 (.object "CroquetLawn$Play") true := ⟨rfl, by decide +kernel, ⟨tyX5, tyX5_ok⟩, nmX5⟩
theorem iwX0 : ∀ w ∈ u_ws RX0 TX0 7, w ∈ lw_gd := by decide +kernel
theorem lkX5_18 : q_LI RX5 18 yX0_init := ⟨(List.mem_filter.mpr ⟨List.mem_of_getElem? (i := 140) (by decide +kernel), by decide +kernel⟩), (List.mem_filter.mpr ⟨List.mem_of_getElem? (i := 141) (by decide +kernel), by decide +kernel⟩), rfl⟩
theorem mfX0_init : q_MF mX0_init 0 := ⟨by decide +kernel, ⟨by decide +kernel, by decide +kernel, by decide +kernel⟩, (List.mem_filter.mpr ⟨List.mem_of_getElem? (i := 46) (by decide +kernel), by decide +kernel⟩), (List.mem_filter.mpr ⟨List.mem_of_getElem? (i := 142) (by decide +kernel), by decide +kernel⟩)⟩
theorem flX0_11 : q_FL RX0 11 0 RX0 TX0 7 0 := ⟨(List.mem_filter.mpr ⟨List.mem_of_getElem? (i := 147) (by decide +kernel), by decide +kernel⟩), by decide, rfl, iwX0⟩
theorem plX0_0 : q_PL RX0 TX0 7 0 (.array .int) true := ⟨rfl, by decide +kernel, ⟨tyX0, tyX0_ok⟩, nmX0⟩
theorem flX0_15 : q_FL RX0 15 0 RX0 TX0 7 3 := ⟨(List.mem_filter.mpr ⟨List.mem_of_getElem? (i := 150) (by decide +kernel), by decide +kernel⟩), by decide, rfl, iwX0⟩
theorem plX0_3 : q_PL RX0 TX0 7 3 (.array .int) true := ⟨rfl, by decide +kernel, ⟨tyX0, tyX0_ok⟩, nmX0⟩
theorem flX0_18 : q_FL RX0 18 0 RX0 TX0 7 4 := ⟨(List.mem_filter.mpr ⟨List.mem_of_getElem? (i := 151) (by decide +kernel), by decide +kernel⟩), by decide, rfl, iwX0⟩
theorem plX0_4 : q_PL RX0 TX0 7 4 (.array .int) true := ⟨rfl, by decide +kernel, ⟨tyX0, tyX0_ok⟩, nmX0⟩
theorem flX0_21 : q_FL RX0 21 0 RX0 TX0 7 5 := ⟨(List.mem_filter.mpr ⟨List.mem_of_getElem? (i := 152) (by decide +kernel), by decide +kernel⟩), by decide, rfl, iwX0⟩
theorem plX0_5 : q_PL RX0 TX0 7 5 (.array .int) true := ⟨rfl, by decide +kernel, ⟨tyX0, tyX0_ok⟩, nmX0⟩
theorem flX0_24 : q_FL RX0 24 0 RX0 TX0 7 6 := ⟨(List.mem_filter.mpr ⟨List.mem_of_getElem? (i := 153) (by decide +kernel), by decide +kernel⟩), by decide, rfl, iwX0⟩
theorem plX0_6 : q_PL RX0 TX0 7 6 (.array .int) true := ⟨rfl, by decide +kernel, ⟨tyX0, tyX0_ok⟩, nmX0⟩
theorem lkX0_27 : q_LSN RX0 27 yX5_set := ⟨by decide +kernel, (List.mem_filter.mpr ⟨List.mem_of_getElem? (i := 145) (by decide +kernel), by decide +kernel⟩)⟩
theorem flX5_19 : q_FL RX5 19 5 RX5 TX5 4 1 := ⟨(List.mem_filter.mpr ⟨List.mem_of_getElem? (i := 200) (by decide +kernel), by decide +kernel⟩), by decide, rfl, iwX5⟩
theorem plX5_1 : q_PL RX5 TX5 4 1 (.object "CroquetLawn$Laws") true := ⟨rfl, by decide +kernel, ⟨tyX5, tyX5_ok⟩, nmX5⟩
theorem iwX4 : ∀ w ∈ u_ws RX4 TX4 1, w ∈ lw_gd := by decide +kernel
theorem lkX5_25 : q_LI RX5 25 yX4_init := ⟨(List.mem_filter.mpr ⟨List.mem_of_getElem? (i := 171) (by decide +kernel), by decide +kernel⟩), (List.mem_filter.mpr ⟨List.mem_of_getElem? (i := 172) (by decide +kernel), by decide +kernel⟩), rfl⟩
theorem mfX4_init : q_MF mX4_init 0 := ⟨by decide +kernel, ⟨by decide +kernel, by decide +kernel, by decide +kernel⟩, (List.mem_filter.mpr ⟨List.mem_of_getElem? (i := 47) (by decide +kernel), by decide +kernel⟩), (List.mem_filter.mpr ⟨List.mem_of_getElem? (i := 173) (by decide +kernel), by decide +kernel⟩)⟩
theorem flX4_9 : q_FL RX4 9 4 RX4 TX4 1 0 := ⟨(List.mem_filter.mpr ⟨List.mem_of_getElem? (i := 178) (by decide +kernel), by decide +kernel⟩), by decide, rfl, iwX4⟩
theorem plX4_0 : q_PL RX4 TX4 1 0 (.array .int) true := ⟨rfl, by decide +kernel, ⟨tyX4, tyX4_ok⟩, nmX4⟩
theorem lkX4_15 : q_LS RX4 15 yJ7_fill_53178 := ⟨(List.mem_filter.mpr ⟨List.mem_of_getElem? (i := 175) (by decide +kernel), by decide +kernel⟩), (List.mem_filter.mpr ⟨List.mem_of_getElem? (i := 176) (by decide +kernel), by decide +kernel⟩)⟩
theorem flX5_26 : q_FL RX5 26 5 RX5 TX5 4 2 := ⟨(List.mem_filter.mpr ⟨List.mem_of_getElem? (i := 201) (by decide +kernel), by decide +kernel⟩), by decide, rfl, iwX5⟩
theorem plX5_2 : q_PL RX5 TX5 4 2 (.object "CroquetLawn$Roster") true := ⟨rfl, by decide +kernel, ⟨tyX5, tyX5_ok⟩, nmX5⟩
theorem iwX1 : ∀ w ∈ u_ws RX1 TX1 3, w ∈ lw_gd := by decide +kernel
theorem lkX5_32 : q_LI RX5 32 yX1_init := ⟨(List.mem_filter.mpr ⟨List.mem_of_getElem? (i := 184) (by decide +kernel), by decide +kernel⟩), (List.mem_filter.mpr ⟨List.mem_of_getElem? (i := 185) (by decide +kernel), by decide +kernel⟩), rfl⟩
theorem mfX1_init : q_MF mX1_init 0 := ⟨by decide +kernel, ⟨by decide +kernel, by decide +kernel, by decide +kernel⟩, (List.mem_filter.mpr ⟨List.mem_of_getElem? (i := 49) (by decide +kernel), by decide +kernel⟩), (List.mem_filter.mpr ⟨List.mem_of_getElem? (i := 186) (by decide +kernel), by decide +kernel⟩)⟩
theorem flX1_11 : q_FL RX1 11 1 RX1 TX1 3 0 := ⟨(List.mem_filter.mpr ⟨List.mem_of_getElem? (i := 189) (by decide +kernel), by decide +kernel⟩), by decide, rfl, iwX1⟩
theorem plX1_0 : q_PL RX1 TX1 3 0 (.array .int) true := ⟨rfl, by decide +kernel, ⟨tyX1, tyX1_ok⟩, nmX1⟩
theorem flX1_15 : q_FL RX1 15 1 RX1 TX1 3 1 := ⟨(List.mem_filter.mpr ⟨List.mem_of_getElem? (i := 190) (by decide +kernel), by decide +kernel⟩), by decide, rfl, iwX1⟩
theorem plX1_1 : q_PL RX1 TX1 3 1 (.array .int) true := ⟨rfl, by decide +kernel, ⟨tyX1, tyX1_ok⟩, nmX1⟩
theorem flX1_18 : q_FL RX1 18 1 RX1 TX1 3 2 := ⟨(List.mem_filter.mpr ⟨List.mem_of_getElem? (i := 191) (by decide +kernel), by decide +kernel⟩), by decide, rfl, iwX1⟩
theorem plX1_2 : q_PL RX1 TX1 3 2 .int false := ⟨rfl, by decide +kernel, ⟨tyX1, tyX1_ok⟩, nmX1⟩
theorem lkX1_22 : q_LS RX1 22 yJ7_fill_53178 := ⟨(List.mem_filter.mpr ⟨List.mem_of_getElem? (i := 188) (by decide +kernel), by decide +kernel⟩), (List.mem_filter.mpr ⟨List.mem_of_getElem? (i := 176) (by decide +kernel), by decide +kernel⟩)⟩
theorem flX5_33 : q_FL RX5 33 5 RX5 TX5 4 3 := ⟨(List.mem_filter.mpr ⟨List.mem_of_getElem? (i := 202) (by decide +kernel), by decide +kernel⟩), by decide, rfl, iwX5⟩
theorem plX5_3 : q_PL RX5 TX5 4 3 (.object "CroquetLawn$Meeting") true := ⟨rfl, by decide +kernel, ⟨tyX5, tyX5_ok⟩, nmX5⟩
theorem mfX5_init : q_MF mX5_init 0 := ⟨by decide +kernel, ⟨by decide +kernel, by decide +kernel, by decide +kernel⟩, (List.mem_filter.mpr ⟨List.mem_of_getElem? (i := 43) (by decide +kernel), by decide +kernel⟩), (List.mem_filter.mpr ⟨List.mem_of_getElem? (i := 56) (by decide +kernel), by decide +kernel⟩)⟩
theorem iwX6 : ∀ w ∈ u_ws RX6 TX6 32, w ∈ lw_gd := by decide +kernel
theorem flX6_7 : q_FL RX6 7 6 RX6 TX6 32 0 := ⟨(List.mem_filter.mpr ⟨List.mem_of_getElem? (i := 598) (by decide +kernel), by decide +kernel⟩), by decide, rfl, iwX6⟩
theorem plX6_0 : q_PL RX6 TX6 32 0 (.array .int) true := ⟨rfl, by decide +kernel, ⟨tyX6, tyX6_ok⟩, nmX6⟩
theorem flX6_13 : q_FL RX6 13 6 RX6 TX6 32 2 := ⟨(List.mem_filter.mpr ⟨List.mem_of_getElem? (i := 600) (by decide +kernel), by decide +kernel⟩), by decide, rfl, iwX6⟩
theorem plX6_2 : q_PL RX6 TX6 32 2 (.array .int) true := ⟨rfl, by decide +kernel, ⟨tyX6, tyX6_ok⟩, nmX6⟩
theorem flX6_16 : q_FL RX6 16 6 RX6 TX6 32 3 := ⟨(List.mem_filter.mpr ⟨List.mem_of_getElem? (i := 601) (by decide +kernel), by decide +kernel⟩), by decide, rfl, iwX6⟩
theorem plX6_3 : q_PL RX6 TX6 32 3 (.array .int) true := ⟨rfl, by decide +kernel, ⟨tyX6, tyX6_ok⟩, nmX6⟩
theorem flX6_19 : q_FL RX6 19 6 RX6 TX6 32 5 := ⟨(List.mem_filter.mpr ⟨List.mem_of_getElem? (i := 603) (by decide +kernel), by decide +kernel⟩), by decide, rfl, iwX6⟩
theorem plX6_5 : q_PL RX6 TX6 32 5 (.array .int) true := ⟨rfl, by decide +kernel, ⟨tyX6, tyX6_ok⟩, nmX6⟩
theorem flX6_22 : q_FL RX6 22 6 RX6 TX6 32 6 := ⟨(List.mem_filter.mpr ⟨List.mem_of_getElem? (i := 604) (by decide +kernel), by decide +kernel⟩), by decide, rfl, iwX6⟩
theorem plX6_6 : q_PL RX6 TX6 32 6 (.array .int) true := ⟨rfl, by decide +kernel, ⟨tyX6, tyX6_ok⟩, nmX6⟩
theorem flX6_25 : q_FL RX6 25 6 RX6 TX6 32 7 := ⟨(List.mem_filter.mpr ⟨List.mem_of_getElem? (i := 605) (by decide +kernel), by decide +kernel⟩), by decide, rfl, iwX6⟩
theorem plX6_7 : q_PL RX6 TX6 32 7 (.array .int) true := ⟨rfl, by decide +kernel, ⟨tyX6, tyX6_ok⟩, nmX6⟩
theorem flX6_28 : q_FL RX6 28 6 RX6 TX6 32 8 := ⟨(List.mem_filter.mpr ⟨List.mem_of_getElem? (i := 606) (by decide +kernel), by decide +kernel⟩), by decide, rfl, iwX6⟩
theorem plX6_8 : q_PL RX6 TX6 32 8 (.array .int) true := ⟨rfl, by decide +kernel, ⟨tyX6, tyX6_ok⟩, nmX6⟩
theorem flX6_31 : q_FL RX6 31 6 RX6 TX6 32 9 := ⟨(List.mem_filter.mpr ⟨List.mem_of_getElem? (i := 607) (by decide +kernel), by decide +kernel⟩), by decide, rfl, iwX6⟩
theorem plX6_9 : q_PL RX6 TX6 32 9 (.array .boolean) true := ⟨rfl, by decide +kernel, ⟨tyX6, tyX6_ok⟩, nmX6⟩
theorem flX6_35 : q_FL RX6 35 6 RX6 TX6 32 10 := ⟨(List.mem_filter.mpr ⟨List.mem_of_getElem? (i := 608) (by decide +kernel), by decide +kernel⟩), by decide, rfl, iwX6⟩
theorem plX6_10 : q_PL RX6 TX6 32 10 (.array .int) true := ⟨rfl, by decide +kernel, ⟨tyX6, tyX6_ok⟩, nmX6⟩
theorem flX6_38 : q_FL RX6 38 6 RX6 TX6 32 11 := ⟨(List.mem_filter.mpr ⟨List.mem_of_getElem? (i := 609) (by decide +kernel), by decide +kernel⟩), by decide, rfl, iwX6⟩
theorem plX6_11 : q_PL RX6 TX6 32 11 (.array .boolean) true := ⟨rfl, by decide +kernel, ⟨tyX6, tyX6_ok⟩, nmX6⟩
theorem flX6_41 : q_FL RX6 41 6 RX6 TX6 32 12 := ⟨(List.mem_filter.mpr ⟨List.mem_of_getElem? (i := 610) (by decide +kernel), by decide +kernel⟩), by decide, rfl, iwX6⟩
theorem plX6_12 : q_PL RX6 TX6 32 12 (.array .int) true := ⟨rfl, by decide +kernel, ⟨tyX6, tyX6_ok⟩, nmX6⟩
theorem flX6_44 : q_FL RX6 44 6 RX6 TX6 32 13 := ⟨(List.mem_filter.mpr ⟨List.mem_of_getElem? (i := 611) (by decide +kernel), by decide +kernel⟩), by decide, rfl, iwX6⟩
theorem plX6_13 : q_PL RX6 TX6 32 13 (.array .int) true := ⟨rfl, by decide +kernel, ⟨tyX6, tyX6_ok⟩, nmX6⟩
theorem flX6_47 : q_FL RX6 47 6 RX6 TX6 32 22 := ⟨(List.mem_filter.mpr ⟨List.mem_of_getElem? (i := 620) (by decide +kernel), by decide +kernel⟩), by decide, rfl, iwX6⟩
theorem plX6_22 : q_PL RX6 TX6 32 22 (.array .int) true := ⟨rfl, by decide +kernel, ⟨tyX6, tyX6_ok⟩, nmX6⟩
theorem flX6_50 : q_FL RX6 50 6 RX6 TX6 32 23 := ⟨(List.mem_filter.mpr ⟨List.mem_of_getElem? (i := 621) (by decide +kernel), by decide +kernel⟩), by decide, rfl, iwX6⟩
theorem plX6_23 : q_PL RX6 TX6 32 23 (.array .int) true := ⟨rfl, by decide +kernel, ⟨tyX6, tyX6_ok⟩, nmX6⟩
theorem flX6_53 : q_FL RX6 53 6 RX6 TX6 32 24 := ⟨(List.mem_filter.mpr ⟨List.mem_of_getElem? (i := 622) (by decide +kernel), by decide +kernel⟩), by decide, rfl, iwX6⟩
theorem plX6_24 : q_PL RX6 TX6 32 24 (.array .int) true := ⟨rfl, by decide +kernel, ⟨tyX6, tyX6_ok⟩, nmX6⟩
theorem flX6_56 : q_FL RX6 56 6 RX6 TX6 32 25 := ⟨(List.mem_filter.mpr ⟨List.mem_of_getElem? (i := 623) (by decide +kernel), by decide +kernel⟩), by decide, rfl, iwX6⟩
theorem plX6_25 : q_PL RX6 TX6 32 25 (.array .int) true := ⟨rfl, by decide +kernel, ⟨tyX6, tyX6_ok⟩, nmX6⟩
theorem flX6_59 : q_FL RX6 59 6 RX6 TX6 32 26 := ⟨(List.mem_filter.mpr ⟨List.mem_of_getElem? (i := 624) (by decide +kernel), by decide +kernel⟩), by decide, rfl, iwX6⟩
theorem plX6_26 : q_PL RX6 TX6 32 26 (.array .int) true := ⟨rfl, by decide +kernel, ⟨tyX6, tyX6_ok⟩, nmX6⟩
theorem flX6_62 : q_FL RX6 62 6 RX6 TX6 32 29 := ⟨(List.mem_filter.mpr ⟨List.mem_of_getElem? (i := 627) (by decide +kernel), by decide +kernel⟩), by decide, rfl, iwX6⟩
theorem plX6_29 : q_PL RX6 TX6 32 29 (.array .int) true := ⟨rfl, by decide +kernel, ⟨tyX6, tyX6_ok⟩, nmX6⟩
theorem flX6_65 : q_FL RX6 65 6 RX6 TX6 32 30 := ⟨(List.mem_filter.mpr ⟨List.mem_of_getElem? (i := 628) (by decide +kernel), by decide +kernel⟩), by decide, rfl, iwX6⟩
theorem plX6_30 : q_PL RX6 TX6 32 30 (.array .int) true := ⟨rfl, by decide +kernel, ⟨tyX6, tyX6_ok⟩, nmX6⟩
theorem flX6_68 : q_FL RX6 68 6 RX6 TX6 32 31 := ⟨(List.mem_filter.mpr ⟨List.mem_of_getElem? (i := 629) (by decide +kernel), by decide +kernel⟩), by decide, rfl, iwX6⟩
theorem plX6_31 : q_PL RX6 TX6 32 31 .int false := ⟨rfl, by decide +kernel, ⟨tyX6, tyX6_ok⟩, nmX6⟩
theorem mfX6_init : q_MF mX6_init 0 := ⟨by decide +kernel, ⟨by decide +kernel, by decide +kernel, by decide +kernel⟩, (List.mem_filter.mpr ⟨List.mem_of_getElem? (i := 50) (by decide +kernel), by decide +kernel⟩), (List.mem_filter.mpr ⟨List.mem_of_getElem? (i := 596) (by decide +kernel), by decide +kernel⟩)⟩
theorem lkX0_31 : q_LSN RX0 31 yX5_at := ⟨by decide +kernel, (List.mem_filter.mpr ⟨List.mem_of_getElem? (i := 231) (by decide +kernel), by decide +kernel⟩)⟩
theorem mfX0_letterFor : q_MF mX0_letterFor 2 := ⟨by decide +kernel, ⟨by decide +kernel, by decide +kernel, by decide +kernel⟩, (List.mem_filter.mpr ⟨List.mem_of_getElem? (i := 46) (by decide +kernel), by decide +kernel⟩), (List.mem_filter.mpr ⟨List.mem_of_getElem? (i := 379) (by decide +kernel), by decide +kernel⟩)⟩
theorem lkX0_35 : q_LSN RX0 35 yX5_within := ⟨by decide +kernel, (List.mem_filter.mpr ⟨List.mem_of_getElem? (i := 220) (by decide +kernel), by decide +kernel⟩)⟩
theorem flX0_43 : q_FL RX0 43 0 RX0 TX0 7 1 := ⟨(List.mem_filter.mpr ⟨List.mem_of_getElem? (i := 148) (by decide +kernel), by decide +kernel⟩), by decide, rfl, iwX0⟩
theorem lkX0_39 : q_LS RX0 39 yX0_byteOf := ⟨(List.mem_filter.mpr ⟨List.mem_of_getElem? (i := 398) (by decide +kernel), by decide +kernel⟩), (List.mem_filter.mpr ⟨List.mem_of_getElem? (i := 399) (by decide +kernel), by decide +kernel⟩)⟩
theorem plX0_1 : q_PL RX0 TX0 7 1 .int false := ⟨rfl, by decide +kernel, ⟨tyX0, tyX0_ok⟩, nmX0⟩
theorem mfX0_append : q_MF mX0_append 2 := ⟨by decide +kernel, ⟨by decide +kernel, by decide +kernel, by decide +kernel⟩, (List.mem_filter.mpr ⟨List.mem_of_getElem? (i := 46) (by decide +kernel), by decide +kernel⟩), (List.mem_filter.mpr ⟨List.mem_of_getElem? (i := 396) (by decide +kernel), by decide +kernel⟩)⟩
theorem flX0_49 : q_FL RX0 49 0 RX0 TX0 7 2 := ⟨(List.mem_filter.mpr ⟨List.mem_of_getElem? (i := 149) (by decide +kernel), by decide +kernel⟩), by decide, rfl, iwX0⟩
theorem mfX0_here : q_MF mX0_here 0 := ⟨by decide +kernel, ⟨by decide +kernel, by decide +kernel, by decide +kernel⟩, (List.mem_filter.mpr ⟨List.mem_of_getElem? (i := 46) (by decide +kernel), by decide +kernel⟩), (List.mem_filter.mpr ⟨List.mem_of_getElem? (i := 426) (by decide +kernel), by decide +kernel⟩)⟩
theorem lkX0_72 : q_LV RX0 72 yX0_here := ⟨(List.mem_filter.mpr ⟨List.mem_of_getElem? (i := 423) (by decide +kernel), by decide +kernel⟩), (List.mem_filter.mpr ⟨List.mem_of_getElem? (i := 425) (by decide +kernel), by decide +kernel⟩), (List.mem_filter.mpr ⟨List.mem_of_getElem? (i := 14) (by decide +kernel), by decide +kernel⟩)⟩
theorem plX0_2 : q_PL RX0 TX0 7 2 .int false := ⟨rfl, by decide +kernel, ⟨tyX0, tyX0_ok⟩, nmX0⟩
theorem mfX0_skipBlanks : q_MF mX0_skipBlanks 0 := ⟨by decide +kernel, ⟨by decide +kernel, by decide +kernel, by decide +kernel⟩, (List.mem_filter.mpr ⟨List.mem_of_getElem? (i := 46) (by decide +kernel), by decide +kernel⟩), (List.mem_filter.mpr ⟨List.mem_of_getElem? (i := 422) (by decide +kernel), by decide +kernel⟩)⟩
theorem lkX0_75 : q_LV RX0 75 yX0_skipBlanks := ⟨(List.mem_filter.mpr ⟨List.mem_of_getElem? (i := 419) (by decide +kernel), by decide +kernel⟩), (List.mem_filter.mpr ⟨List.mem_of_getElem? (i := 421) (by decide +kernel), by decide +kernel⟩), (List.mem_filter.mpr ⟨List.mem_of_getElem? (i := 13) (by decide +kernel), by decide +kernel⟩)⟩
theorem mfX0_atEnd : q_MF mX0_atEnd 0 := ⟨by decide +kernel, ⟨by decide +kernel, by decide +kernel, by decide +kernel⟩, (List.mem_filter.mpr ⟨List.mem_of_getElem? (i := 46) (by decide +kernel), by decide +kernel⟩), (List.mem_filter.mpr ⟨List.mem_of_getElem? (i := 418) (by decide +kernel), by decide +kernel⟩)⟩
theorem lkX0_81 : q_LM RX0 81 Lib.Math.min.name Lib.Math.min.code 2 := ⟨(List.mem_filter.mpr ⟨List.mem_of_getElem? (i := 435) (by decide +kernel), by decide +kernel⟩), (List.mem_filter.mpr ⟨List.mem_of_getElem? (i := 436) (by decide +kernel), by decide +kernel⟩), (List.mem_filter.mpr ⟨List.mem_of_getElem? (i := 51) (by decide +kernel), by decide +kernel⟩), (List.mem_filter.mpr ⟨List.mem_of_getElem? (i := 437) (by decide +kernel), by decide +kernel⟩)⟩
theorem mfX0_readNumber : q_MF mX0_readNumber 0 := ⟨by decide +kernel, ⟨by decide +kernel, by decide +kernel, by decide +kernel⟩, (List.mem_filter.mpr ⟨List.mem_of_getElem? (i := 46) (by decide +kernel), by decide +kernel⟩), (List.mem_filter.mpr ⟨List.mem_of_getElem? (i := 434) (by decide +kernel), by decide +kernel⟩)⟩
theorem lkX0_78 : q_LV RX0 78 yX0_readNumber := ⟨(List.mem_filter.mpr ⟨List.mem_of_getElem? (i := 431) (by decide +kernel), by decide +kernel⟩), (List.mem_filter.mpr ⟨List.mem_of_getElem? (i := 433) (by decide +kernel), by decide +kernel⟩), (List.mem_filter.mpr ⟨List.mem_of_getElem? (i := 16) (by decide +kernel), by decide +kernel⟩)⟩
theorem mfX0_readClause : q_MF mX0_readClause 0 := ⟨by decide +kernel, ⟨by decide +kernel, by decide +kernel, by decide +kernel⟩, (List.mem_filter.mpr ⟨List.mem_of_getElem? (i := 46) (by decide +kernel), by decide +kernel⟩), (List.mem_filter.mpr ⟨List.mem_of_getElem? (i := 430) (by decide +kernel), by decide +kernel⟩)⟩
theorem lkX0_65 : q_LV RX0 65 yX0_atEnd := ⟨(List.mem_filter.mpr ⟨List.mem_of_getElem? (i := 415) (by decide +kernel), by decide +kernel⟩), (List.mem_filter.mpr ⟨List.mem_of_getElem? (i := 417) (by decide +kernel), by decide +kernel⟩), (List.mem_filter.mpr ⟨List.mem_of_getElem? (i := 12) (by decide +kernel), by decide +kernel⟩)⟩
theorem lkX0_69 : q_LV RX0 69 yX0_readClause := ⟨(List.mem_filter.mpr ⟨List.mem_of_getElem? (i := 427) (by decide +kernel), by decide +kernel⟩), (List.mem_filter.mpr ⟨List.mem_of_getElem? (i := 429) (by decide +kernel), by decide +kernel⟩), (List.mem_filter.mpr ⟨List.mem_of_getElem? (i := 15) (by decide +kernel), by decide +kernel⟩)⟩
theorem mfX0_read : q_MF mX0_read 0 := ⟨by decide +kernel, ⟨by decide +kernel, by decide +kernel, by decide +kernel⟩, (List.mem_filter.mpr ⟨List.mem_of_getElem? (i := 46) (by decide +kernel), by decide +kernel⟩), (List.mem_filter.mpr ⟨List.mem_of_getElem? (i := 414) (by decide +kernel), by decide +kernel⟩)⟩
theorem mfX0_adoptDraft : q_MF mX0_adoptDraft 0 := ⟨by decide +kernel, ⟨by decide +kernel, by decide +kernel, by decide +kernel⟩, (List.mem_filter.mpr ⟨List.mem_of_getElem? (i := 46) (by decide +kernel), by decide +kernel⟩), (List.mem_filter.mpr ⟨List.mem_of_getElem? (i := 441) (by decide +kernel), by decide +kernel⟩)⟩
theorem lkX0_52 : q_LS RX0 52 yJ7_fill_53178 := ⟨(List.mem_filter.mpr ⟨List.mem_of_getElem? (i := 410) (by decide +kernel), by decide +kernel⟩), (List.mem_filter.mpr ⟨List.mem_of_getElem? (i := 176) (by decide +kernel), by decide +kernel⟩)⟩
theorem lkX0_58 : q_LV RX0 58 yX0_read := ⟨(List.mem_filter.mpr ⟨List.mem_of_getElem? (i := 411) (by decide +kernel), by decide +kernel⟩), (List.mem_filter.mpr ⟨List.mem_of_getElem? (i := 413) (by decide +kernel), by decide +kernel⟩), (List.mem_filter.mpr ⟨List.mem_of_getElem? (i := 11) (by decide +kernel), by decide +kernel⟩)⟩
theorem lkX0_62 : q_LV RX0 62 yX0_adoptDraft := ⟨(List.mem_filter.mpr ⟨List.mem_of_getElem? (i := 438) (by decide +kernel), by decide +kernel⟩), (List.mem_filter.mpr ⟨List.mem_of_getElem? (i := 440) (by decide +kernel), by decide +kernel⟩), (List.mem_filter.mpr ⟨List.mem_of_getElem? (i := 17) (by decide +kernel), by decide +kernel⟩)⟩
theorem mfX0_takeTape : q_MF mX0_takeTape 0 := ⟨by decide +kernel, ⟨by decide +kernel, by decide +kernel, by decide +kernel⟩, (List.mem_filter.mpr ⟨List.mem_of_getElem? (i := 46) (by decide +kernel), by decide +kernel⟩), (List.mem_filter.mpr ⟨List.mem_of_getElem? (i := 409) (by decide +kernel), by decide +kernel⟩)⟩
theorem lkX1_32 : q_LSN RX1 32 yX5_at := ⟨by decide +kernel, (List.mem_filter.mpr ⟨List.mem_of_getElem? (i := 231) (by decide +kernel), by decide +kernel⟩)⟩
theorem mfX1_hasTwoWinners : q_MF mX1_hasTwoWinners 0 := ⟨by decide +kernel, ⟨by decide +kernel, by decide +kernel, by decide +kernel⟩, (List.mem_filter.mpr ⟨List.mem_of_getElem? (i := 49) (by decide +kernel), by decide +kernel⟩), (List.mem_filter.mpr ⟨List.mem_of_getElem? (i := 510) (by decide +kernel), by decide +kernel⟩)⟩
theorem lkX1_36 : q_LV RX1 36 yX1_hasTwoWinners := ⟨(List.mem_filter.mpr ⟨List.mem_of_getElem? (i := 507) (by decide +kernel), by decide +kernel⟩), (List.mem_filter.mpr ⟨List.mem_of_getElem? (i := 509) (by decide +kernel), by decide +kernel⟩), (List.mem_filter.mpr ⟨List.mem_of_getElem? (i := 19) (by decide +kernel), by decide +kernel⟩)⟩
theorem mfX1_who : q_MF mX1_who 2 := ⟨by decide +kernel, ⟨by decide +kernel, by decide +kernel, by decide +kernel⟩, (List.mem_filter.mpr ⟨List.mem_of_getElem? (i := 49) (by decide +kernel), by decide +kernel⟩), (List.mem_filter.mpr ⟨List.mem_of_getElem? (i := 505) (by decide +kernel), by decide +kernel⟩)⟩
theorem lkX1_52 : q_LV RX1 52 yX1_who := ⟨(List.mem_filter.mpr ⟨List.mem_of_getElem? (i := 527) (by decide +kernel), by decide +kernel⟩), (List.mem_filter.mpr ⟨List.mem_of_getElem? (i := 503) (by decide +kernel), by decide +kernel⟩), (List.mem_filter.mpr ⟨List.mem_of_getElem? (i := 504) (by decide +kernel), by decide +kernel⟩)⟩
theorem lkX1_56 : q_LSN RX1 56 yX5_set := ⟨by decide +kernel, (List.mem_filter.mpr ⟨List.mem_of_getElem? (i := 145) (by decide +kernel), by decide +kernel⟩)⟩
theorem mfX1_give : q_MF mX1_give 2 := ⟨by decide +kernel, ⟨by decide +kernel, by decide +kernel, by decide +kernel⟩, (List.mem_filter.mpr ⟨List.mem_of_getElem? (i := 49) (by decide +kernel), by decide +kernel⟩), (List.mem_filter.mpr ⟨List.mem_of_getElem? (i := 526) (by decide +kernel), by decide +kernel⟩)⟩
theorem mfX1_takeBack : q_MF mX1_takeBack 1 := ⟨by decide +kernel, ⟨by decide +kernel, by decide +kernel, by decide +kernel⟩, (List.mem_filter.mpr ⟨List.mem_of_getElem? (i := 49) (by decide +kernel), by decide +kernel⟩), (List.mem_filter.mpr ⟨List.mem_of_getElem? (i := 536) (by decide +kernel), by decide +kernel⟩)⟩
theorem mfX1_best : q_MF mX1_best 0 := ⟨by decide +kernel, ⟨by decide +kernel, by decide +kernel, by decide +kernel⟩, (List.mem_filter.mpr ⟨List.mem_of_getElem? (i := 49) (by decide +kernel), by decide +kernel⟩), (List.mem_filter.mpr ⟨List.mem_of_getElem? (i := 546) (by decide +kernel), by decide +kernel⟩)⟩
theorem mfX1_laid : q_MF mX1_laid 0 := ⟨by decide +kernel, ⟨by decide +kernel, by decide +kernel, by decide +kernel⟩, (List.mem_filter.mpr ⟨List.mem_of_getElem? (i := 49) (by decide +kernel), by decide +kernel⟩), (List.mem_filter.mpr ⟨List.mem_of_getElem? (i := 558) (by decide +kernel), by decide +kernel⟩)⟩
theorem lkX1_63 : q_LV RX1 63 yX1_laid := ⟨(List.mem_filter.mpr ⟨List.mem_of_getElem? (i := 555) (by decide +kernel), by decide +kernel⟩), (List.mem_filter.mpr ⟨List.mem_of_getElem? (i := 557) (by decide +kernel), by decide +kernel⟩), (List.mem_filter.mpr ⟨List.mem_of_getElem? (i := 20) (by decide +kernel), by decide +kernel⟩)⟩
theorem mfX1_setLawns : q_MF mX1_setLawns 1 := ⟨by decide +kernel, ⟨by decide +kernel, by decide +kernel, by decide +kernel⟩, (List.mem_filter.mpr ⟨List.mem_of_getElem? (i := 49) (by decide +kernel), by decide +kernel⟩), (List.mem_filter.mpr ⟨List.mem_of_getElem? (i := 554) (by decide +kernel), by decide +kernel⟩)⟩
theorem mfX1_hourOf : q_MF mX1_hourOf 1 := ⟨by decide +kernel, ⟨by decide +kernel, by decide +kernel, by decide +kernel⟩, (List.mem_filter.mpr ⟨List.mem_of_getElem? (i := 49) (by decide +kernel), by decide +kernel⟩), (List.mem_filter.mpr ⟨List.mem_of_getElem? (i := 583) (by decide +kernel), by decide +kernel⟩)⟩
theorem mfX1_plays : q_MF mX1_plays 2 := ⟨by decide +kernel, ⟨by decide +kernel, by decide +kernel, by decide +kernel⟩, (List.mem_filter.mpr ⟨List.mem_of_getElem? (i := 49) (by decide +kernel), by decide +kernel⟩), (List.mem_filter.mpr ⟨List.mem_of_getElem? (i := 575) (by decide +kernel), by decide +kernel⟩)⟩
theorem lkX1_76 : q_LV RX1 76 yX1_plays := ⟨(List.mem_filter.mpr ⟨List.mem_of_getElem? (i := 572) (by decide +kernel), by decide +kernel⟩), (List.mem_filter.mpr ⟨List.mem_of_getElem? (i := 574) (by decide +kernel), by decide +kernel⟩), (List.mem_filter.mpr ⟨List.mem_of_getElem? (i := 22) (by decide +kernel), by decide +kernel⟩)⟩
theorem mfX1_isFree : q_MF mX1_isFree 2 := ⟨by decide +kernel, ⟨by decide +kernel, by decide +kernel, by decide +kernel⟩, (List.mem_filter.mpr ⟨List.mem_of_getElem? (i := 49) (by decide +kernel), by decide +kernel⟩), (List.mem_filter.mpr ⟨List.mem_of_getElem? (i := 571) (by decide +kernel), by decide +kernel⟩)⟩
theorem lkX1_72 : q_LV RX1 72 yX1_isFree := ⟨(List.mem_filter.mpr ⟨List.mem_of_getElem? (i := 568) (by decide +kernel), by decide +kernel⟩), (List.mem_filter.mpr ⟨List.mem_of_getElem? (i := 570) (by decide +kernel), by decide +kernel⟩), (List.mem_filter.mpr ⟨List.mem_of_getElem? (i := 21) (by decide +kernel), by decide +kernel⟩)⟩
theorem lkX1_67 : q_LM RX1 67 Lib.Math.max.name Lib.Math.max.code 2 := ⟨(List.mem_filter.mpr ⟨List.mem_of_getElem? (i := 567) (by decide +kernel), by decide +kernel⟩), (List.mem_filter.mpr ⟨List.mem_of_getElem? (i := 237) (by decide +kernel), by decide +kernel⟩), (List.mem_filter.mpr ⟨List.mem_of_getElem? (i := 51) (by decide +kernel), by decide +kernel⟩), (List.mem_filter.mpr ⟨List.mem_of_getElem? (i := 238) (by decide +kernel), by decide +kernel⟩)⟩
theorem mfX1_place : q_MF mX1_place 1 := ⟨by decide +kernel, ⟨by decide +kernel, by decide +kernel, by decide +kernel⟩, (List.mem_filter.mpr ⟨List.mem_of_getElem? (i := 49) (by decide +kernel), by decide +kernel⟩), (List.mem_filter.mpr ⟨List.mem_of_getElem? (i := 566) (by decide +kernel), by decide +kernel⟩)⟩
theorem mfX1_liftAll : q_MF mX1_liftAll 0 := ⟨by decide +kernel, ⟨by decide +kernel, by decide +kernel, by decide +kernel⟩, (List.mem_filter.mpr ⟨List.mem_of_getElem? (i := 49) (by decide +kernel), by decide +kernel⟩), (List.mem_filter.mpr ⟨List.mem_of_getElem? (i := 591) (by decide +kernel), by decide +kernel⟩)⟩
theorem flX3_58 : q_FL RX3 58 3 RX3 TX3 8 2 := ⟨(List.mem_filter.mpr ⟨List.mem_of_getElem? (i := 74) (by decide +kernel), by decide +kernel⟩), by decide, rfl, iwX3⟩
theorem plX3_2 : q_PL RX3 TX3 8 2 .int false := ⟨rfl, by decide +kernel, ⟨tyX3, tyX3_ok⟩, nmX3⟩
theorem flX3_36 : q_FL RX3 36 3 RX3 TX3 8 3 := ⟨(List.mem_filter.mpr ⟨List.mem_of_getElem? (i := 75) (by decide +kernel), by decide +kernel⟩), by decide, rfl, iwX3⟩
theorem plX3_3 : q_PL RX3 TX3 8 3 .int false := ⟨rfl, by decide +kernel, ⟨tyX3, tyX3_ok⟩, nmX3⟩
theorem flX3_83 : q_FL RX3 83 3 RX3 TX3 8 4 := ⟨(List.mem_filter.mpr ⟨List.mem_of_getElem? (i := 76) (by decide +kernel), by decide +kernel⟩), by decide, rfl, iwX3⟩
theorem plX3_4 : q_PL RX3 TX3 8 4 .int false := ⟨rfl, by decide +kernel, ⟨tyX3, tyX3_ok⟩, nmX3⟩
theorem flX3_65 : q_FL RX3 65 3 RX3 TX3 8 5 := ⟨(List.mem_filter.mpr ⟨List.mem_of_getElem? (i := 77) (by decide +kernel), by decide +kernel⟩), by decide, rfl, iwX3⟩
theorem plX3_5 : q_PL RX3 TX3 8 5 .int false := ⟨rfl, by decide +kernel, ⟨tyX3, tyX3_ok⟩, nmX3⟩
theorem flX3_48 : q_FL RX3 48 3 RX3 TX3 8 6 := ⟨(List.mem_filter.mpr ⟨List.mem_of_getElem? (i := 78) (by decide +kernel), by decide +kernel⟩), by decide, rfl, iwX3⟩
theorem plX3_6 : q_PL RX3 TX3 8 6 .int false := ⟨rfl, by decide +kernel, ⟨tyX3, tyX3_ok⟩, nmX3⟩
theorem flX3_55 : q_FL RX3 55 3 RX3 TX3 8 7 := ⟨(List.mem_filter.mpr ⟨List.mem_of_getElem? (i := 79) (by decide +kernel), by decide +kernel⟩), by decide, rfl, iwX3⟩
theorem plX3_7 : q_PL RX3 TX3 8 7 .int false := ⟨rfl, by decide +kernel, ⟨tyX3, tyX3_ok⟩, nmX3⟩
theorem mfX3_stopFor : q_MF mX3_stopFor 1 := ⟨by decide +kernel, ⟨by decide +kernel, by decide +kernel, by decide +kernel⟩, (List.mem_filter.mpr ⟨List.mem_of_getElem? (i := 45) (by decide +kernel), by decide +kernel⟩), (List.mem_filter.mpr ⟨List.mem_of_getElem? (i := 253) (by decide +kernel), by decide +kernel⟩)⟩
theorem lkX3_18 : q_LS RX3 18 yJ7_fill_53178 := ⟨(List.mem_filter.mpr ⟨List.mem_of_getElem? (i := 248) (by decide +kernel), by decide +kernel⟩), (List.mem_filter.mpr ⟨List.mem_of_getElem? (i := 176) (by decide +kernel), by decide +kernel⟩)⟩
theorem lkX3_24 : q_LSN RX3 24 yX5_set := ⟨by decide +kernel, (List.mem_filter.mpr ⟨List.mem_of_getElem? (i := 145) (by decide +kernel), by decide +kernel⟩)⟩
theorem lkX3_28 : q_LV RX3 28 yX3_stopFor := ⟨(List.mem_filter.mpr ⟨List.mem_of_getElem? (i := 250) (by decide +kernel), by decide +kernel⟩), (List.mem_filter.mpr ⟨List.mem_of_getElem? (i := 251) (by decide +kernel), by decide +kernel⟩), (List.mem_filter.mpr ⟨List.mem_of_getElem? (i := 252) (by decide +kernel), by decide +kernel⟩)⟩
theorem mfX3_begin : q_MF mX3_begin 2 := ⟨by decide +kernel, ⟨by decide +kernel, by decide +kernel, by decide +kernel⟩, (List.mem_filter.mpr ⟨List.mem_of_getElem? (i := 45) (by decide +kernel), by decide +kernel⟩), (List.mem_filter.mpr ⟨List.mem_of_getElem? (i := 247) (by decide +kernel), by decide +kernel⟩)⟩
theorem lkX2_43 : q_LSN RX2 43 yX5_set := ⟨by decide +kernel, (List.mem_filter.mpr ⟨List.mem_of_getElem? (i := 145) (by decide +kernel), by decide +kernel⟩)⟩
theorem flX2_47 : q_FL RX2 47 2 RX2 TX2 13 11 := ⟨(List.mem_filter.mpr ⟨List.mem_of_getElem? (i := 109) (by decide +kernel), by decide +kernel⟩), by decide, rfl, iwX2⟩
theorem plX2_11 : q_PL RX2 TX2 13 11 .int false := ⟨rfl, by decide +kernel, ⟨tyX2, tyX2_ok⟩, nmX2⟩
theorem flX2_51 : q_FL RX2 51 2 RX2 TX2 13 12 := ⟨(List.mem_filter.mpr ⟨List.mem_of_getElem? (i := 110) (by decide +kernel), by decide +kernel⟩), by decide, rfl, iwX2⟩
theorem plX2_12 : q_PL RX2 TX2 13 12 .int false := ⟨rfl, by decide +kernel, ⟨tyX2, tyX2_ok⟩, nmX2⟩
theorem flX2_54 : q_FL RX2 54 2 RX2 TX2 13 9 := ⟨(List.mem_filter.mpr ⟨List.mem_of_getElem? (i := 107) (by decide +kernel), by decide +kernel⟩), by decide, rfl, iwX2⟩
theorem plX2_9 : q_PL RX2 TX2 13 9 .boolean false := ⟨rfl, by decide +kernel, ⟨tyX2, tyX2_ok⟩, nmX2⟩
theorem flX2_58 : q_FL RX2 58 2 RX2 TX2 13 10 := ⟨(List.mem_filter.mpr ⟨List.mem_of_getElem? (i := 108) (by decide +kernel), by decide +kernel⟩), by decide, rfl, iwX2⟩
theorem plX2_10 : q_PL RX2 TX2 13 10 .int false := ⟨rfl, by decide +kernel, ⟨tyX2, tyX2_ok⟩, nmX2⟩
theorem lkX2_61 : q_LV RX2 61 yX3_begin := ⟨(List.mem_filter.mpr ⟨List.mem_of_getElem? (i := 244) (by decide +kernel), by decide +kernel⟩), (List.mem_filter.mpr ⟨List.mem_of_getElem? (i := 245) (by decide +kernel), by decide +kernel⟩), (List.mem_filter.mpr ⟨List.mem_of_getElem? (i := 246) (by decide +kernel), by decide +kernel⟩)⟩
theorem mfX2_begin : q_MF mX2_begin 4 := ⟨by decide +kernel, ⟨by decide +kernel, by decide +kernel, by decide +kernel⟩, (List.mem_filter.mpr ⟨List.mem_of_getElem? (i := 44) (by decide +kernel), by decide +kernel⟩), (List.mem_filter.mpr ⟨List.mem_of_getElem? (i := 242) (by decide +kernel), by decide +kernel⟩)⟩
theorem mfX2_end : q_MF mX2_end 0 := ⟨by decide +kernel, ⟨by decide +kernel, by decide +kernel, by decide +kernel⟩, (List.mem_filter.mpr ⟨List.mem_of_getElem? (i := 44) (by decide +kernel), by decide +kernel⟩), (List.mem_filter.mpr ⟨List.mem_of_getElem? (i := 493) (by decide +kernel), by decide +kernel⟩)⟩
theorem lkX3_61 : q_LSN RX3 61 yX5_at := ⟨by decide +kernel, (List.mem_filter.mpr ⟨List.mem_of_getElem? (i := 231) (by decide +kernel), by decide +kernel⟩)⟩
theorem mfX3_isOut : q_MF mX3_isOut 1 := ⟨by decide +kernel, ⟨by decide +kernel, by decide +kernel, by decide +kernel⟩, (List.mem_filter.mpr ⟨List.mem_of_getElem? (i := 45) (by decide +kernel), by decide +kernel⟩), (List.mem_filter.mpr ⟨List.mem_of_getElem? (i := 273) (by decide +kernel), by decide +kernel⟩)⟩
theorem lkX3_40 : q_LV RX3 40 yX3_isOut := ⟨(List.mem_filter.mpr ⟨List.mem_of_getElem? (i := 270) (by decide +kernel), by decide +kernel⟩), (List.mem_filter.mpr ⟨List.mem_of_getElem? (i := 271) (by decide +kernel), by decide +kernel⟩), (List.mem_filter.mpr ⟨List.mem_of_getElem? (i := 272) (by decide +kernel), by decide +kernel⟩)⟩
theorem mfX3_winner : q_MF mX3_winner 0 := ⟨by decide +kernel, ⟨by decide +kernel, by decide +kernel, by decide +kernel⟩, (List.mem_filter.mpr ⟨List.mem_of_getElem? (i := 45) (by decide +kernel), by decide +kernel⟩), (List.mem_filter.mpr ⟨List.mem_of_getElem? (i := 269) (by decide +kernel), by decide +kernel⟩)⟩
theorem lkX2_65 : q_LV RX2 65 yX3_winner := ⟨(List.mem_filter.mpr ⟨List.mem_of_getElem? (i := 476) (by decide +kernel), by decide +kernel⟩), (List.mem_filter.mpr ⟨List.mem_of_getElem? (i := 267) (by decide +kernel), by decide +kernel⟩), (List.mem_filter.mpr ⟨List.mem_of_getElem? (i := 268) (by decide +kernel), by decide +kernel⟩)⟩
theorem mfX2_winner : q_MF mX2_winner 0 := ⟨by decide +kernel, ⟨by decide +kernel, by decide +kernel, by decide +kernel⟩, (List.mem_filter.mpr ⟨List.mem_of_getElem? (i := 44) (by decide +kernel), by decide +kernel⟩), (List.mem_filter.mpr ⟨List.mem_of_getElem? (i := 475) (by decide +kernel), by decide +kernel⟩)⟩
theorem lkX2_69 : q_LSN RX2 69 yX5_at := ⟨by decide +kernel, (List.mem_filter.mpr ⟨List.mem_of_getElem? (i := 231) (by decide +kernel), by decide +kernel⟩)⟩
theorem mfX2_playerOf : q_MF mX2_playerOf 1 := ⟨by decide +kernel, ⟨by decide +kernel, by decide +kernel, by decide +kernel⟩, (List.mem_filter.mpr ⟨List.mem_of_getElem? (i := 44) (by decide +kernel), by decide +kernel⟩), (List.mem_filter.mpr ⟨List.mem_of_getElem? (i := 480) (by decide +kernel), by decide +kernel⟩)⟩
theorem mfX3_allowsFree : q_MF mX3_allowsFree 0 := ⟨by decide +kernel, ⟨by decide +kernel, by decide +kernel, by decide +kernel⟩, (List.mem_filter.mpr ⟨List.mem_of_getElem? (i := 45) (by decide +kernel), by decide +kernel⟩), (List.mem_filter.mpr ⟨List.mem_of_getElem? (i := 278) (by decide +kernel), by decide +kernel⟩)⟩
theorem mfX3_allowsFresh : q_MF mX3_allowsFresh 2 := ⟨by decide +kernel, ⟨by decide +kernel, by decide +kernel, by decide +kernel⟩, (List.mem_filter.mpr ⟨List.mem_of_getElem? (i := 45) (by decide +kernel), by decide +kernel⟩), (List.mem_filter.mpr ⟨List.mem_of_getElem? (i := 282) (by decide +kernel), by decide +kernel⟩)⟩
theorem lkX3_32 : q_LV RX3 32 yX3_winner := ⟨(List.mem_filter.mpr ⟨List.mem_of_getElem? (i := 266) (by decide +kernel), by decide +kernel⟩), (List.mem_filter.mpr ⟨List.mem_of_getElem? (i := 267) (by decide +kernel), by decide +kernel⟩), (List.mem_filter.mpr ⟨List.mem_of_getElem? (i := 268) (by decide +kernel), by decide +kernel⟩)⟩
theorem lkX3_44 : q_LV RX3 44 yX3_allowsFree := ⟨(List.mem_filter.mpr ⟨List.mem_of_getElem? (i := 275) (by decide +kernel), by decide +kernel⟩), (List.mem_filter.mpr ⟨List.mem_of_getElem? (i := 277) (by decide +kernel), by decide +kernel⟩), (List.mem_filter.mpr ⟨List.mem_of_getElem? (i := 0) (by decide +kernel), by decide +kernel⟩)⟩
theorem lkX3_51 : q_LV RX3 51 yX3_allowsFresh := ⟨(List.mem_filter.mpr ⟨List.mem_of_getElem? (i := 279) (by decide +kernel), by decide +kernel⟩), (List.mem_filter.mpr ⟨List.mem_of_getElem? (i := 281) (by decide +kernel), by decide +kernel⟩), (List.mem_filter.mpr ⟨List.mem_of_getElem? (i := 1) (by decide +kernel), by decide +kernel⟩)⟩
theorem mfX3_allows : q_MF mX3_allows 2 := ⟨by decide +kernel, ⟨by decide +kernel, by decide +kernel, by decide +kernel⟩, (List.mem_filter.mpr ⟨List.mem_of_getElem? (i := 45) (by decide +kernel), by decide +kernel⟩), (List.mem_filter.mpr ⟨List.mem_of_getElem? (i := 265) (by decide +kernel), by decide +kernel⟩)⟩
theorem mfX3_isWrong : q_MF mX3_isWrong 2 := ⟨by decide +kernel, ⟨by decide +kernel, by decide +kernel, by decide +kernel⟩, (List.mem_filter.mpr ⟨List.mem_of_getElem? (i := 45) (by decide +kernel), by decide +kernel⟩), (List.mem_filter.mpr ⟨List.mem_of_getElem? (i := 286) (by decide +kernel), by decide +kernel⟩)⟩
theorem mfX3_inPlay : q_MF mX3_inPlay 0 := ⟨by decide +kernel, ⟨by decide +kernel, by decide +kernel, by decide +kernel⟩, (List.mem_filter.mpr ⟨List.mem_of_getElem? (i := 45) (by decide +kernel), by decide +kernel⟩), (List.mem_filter.mpr ⟨List.mem_of_getElem? (i := 297) (by decide +kernel), by decide +kernel⟩)⟩
theorem mfX3_side : q_MF mX3_side 0 := ⟨by decide +kernel, ⟨by decide +kernel, by decide +kernel, by decide +kernel⟩, (List.mem_filter.mpr ⟨List.mem_of_getElem? (i := 45) (by decide +kernel), by decide +kernel⟩), (List.mem_filter.mpr ⟨List.mem_of_getElem? (i := 301) (by decide +kernel), by decide +kernel⟩)⟩
theorem lkX2_91 : q_LV RX2 91 yX3_inPlay := ⟨(List.mem_filter.mpr ⟨List.mem_of_getElem? (i := 294) (by decide +kernel), by decide +kernel⟩), (List.mem_filter.mpr ⟨List.mem_of_getElem? (i := 295) (by decide +kernel), by decide +kernel⟩), (List.mem_filter.mpr ⟨List.mem_of_getElem? (i := 296) (by decide +kernel), by decide +kernel⟩)⟩
theorem lkX2_94 : q_LV RX2 94 yX3_side := ⟨(List.mem_filter.mpr ⟨List.mem_of_getElem? (i := 298) (by decide +kernel), by decide +kernel⟩), (List.mem_filter.mpr ⟨List.mem_of_getElem? (i := 299) (by decide +kernel), by decide +kernel⟩), (List.mem_filter.mpr ⟨List.mem_of_getElem? (i := 300) (by decide +kernel), by decide +kernel⟩)⟩
theorem mfX2_noteStriker : q_MF mX2_noteStriker 1 := ⟨by decide +kernel, ⟨by decide +kernel, by decide +kernel, by decide +kernel⟩, (List.mem_filter.mpr ⟨List.mem_of_getElem? (i := 44) (by decide +kernel), by decide +kernel⟩), (List.mem_filter.mpr ⟨List.mem_of_getElem? (i := 293) (by decide +kernel), by decide +kernel⟩)⟩
theorem mfX3_bringIn : q_MF mX3_bringIn 1 := ⟨by decide +kernel, ⟨by decide +kernel, by decide +kernel, by decide +kernel⟩, (List.mem_filter.mpr ⟨List.mem_of_getElem? (i := 45) (by decide +kernel), by decide +kernel⟩), (List.mem_filter.mpr ⟨List.mem_of_getElem? (i := 309) (by decide +kernel), by decide +kernel⟩)⟩
theorem mfX3_endTurn : q_MF mX3_endTurn 0 := ⟨by decide +kernel, ⟨by decide +kernel, by decide +kernel, by decide +kernel⟩, (List.mem_filter.mpr ⟨List.mem_of_getElem? (i := 45) (by decide +kernel), by decide +kernel⟩), (List.mem_filter.mpr ⟨List.mem_of_getElem? (i := 313) (by decide +kernel), by decide +kernel⟩)⟩
theorem mfX3_roquet : q_MF mX3_roquet 1 := ⟨by decide +kernel, ⟨by decide +kernel, by decide +kernel, by decide +kernel⟩, (List.mem_filter.mpr ⟨List.mem_of_getElem? (i := 45) (by decide +kernel), by decide +kernel⟩), (List.mem_filter.mpr ⟨List.mem_of_getElem? (i := 317) (by decide +kernel), by decide +kernel⟩)⟩
theorem mfX3_croquet : q_MF mX3_croquet 0 := ⟨by decide +kernel, ⟨by decide +kernel, by decide +kernel, by decide +kernel⟩, (List.mem_filter.mpr ⟨List.mem_of_getElem? (i := 45) (by decide +kernel), by decide +kernel⟩), (List.mem_filter.mpr ⟨List.mem_of_getElem? (i := 321) (by decide +kernel), by decide +kernel⟩)⟩
theorem mfX3_spendFree : q_MF mX3_spendFree 0 := ⟨by decide +kernel, ⟨by decide +kernel, by decide +kernel, by decide +kernel⟩, (List.mem_filter.mpr ⟨List.mem_of_getElem? (i := 45) (by decide +kernel), by decide +kernel⟩), (List.mem_filter.mpr ⟨List.mem_of_getElem? (i := 325) (by decide +kernel), by decide +kernel⟩)⟩
theorem lkX3_80 : q_LV RX3 80 yX3_spendFree := ⟨(List.mem_filter.mpr ⟨List.mem_of_getElem? (i := 322) (by decide +kernel), by decide +kernel⟩), (List.mem_filter.mpr ⟨List.mem_of_getElem? (i := 324) (by decide +kernel), by decide +kernel⟩), (List.mem_filter.mpr ⟨List.mem_of_getElem? (i := 6) (by decide +kernel), by decide +kernel⟩)⟩
theorem lkX3_68 : q_LV RX3 68 yX3_bringIn := ⟨(List.mem_filter.mpr ⟨List.mem_of_getElem? (i := 306) (by decide +kernel), by decide +kernel⟩), (List.mem_filter.mpr ⟨List.mem_of_getElem? (i := 308) (by decide +kernel), by decide +kernel⟩), (List.mem_filter.mpr ⟨List.mem_of_getElem? (i := 3) (by decide +kernel), by decide +kernel⟩)⟩
theorem lkX3_71 : q_LV RX3 71 yX3_endTurn := ⟨(List.mem_filter.mpr ⟨List.mem_of_getElem? (i := 310) (by decide +kernel), by decide +kernel⟩), (List.mem_filter.mpr ⟨List.mem_of_getElem? (i := 311) (by decide +kernel), by decide +kernel⟩), (List.mem_filter.mpr ⟨List.mem_of_getElem? (i := 312) (by decide +kernel), by decide +kernel⟩)⟩
theorem lkX3_74 : q_LV RX3 74 yX3_roquet := ⟨(List.mem_filter.mpr ⟨List.mem_of_getElem? (i := 314) (by decide +kernel), by decide +kernel⟩), (List.mem_filter.mpr ⟨List.mem_of_getElem? (i := 316) (by decide +kernel), by decide +kernel⟩), (List.mem_filter.mpr ⟨List.mem_of_getElem? (i := 4) (by decide +kernel), by decide +kernel⟩)⟩
theorem lkX3_77 : q_LV RX3 77 yX3_croquet := ⟨(List.mem_filter.mpr ⟨List.mem_of_getElem? (i := 318) (by decide +kernel), by decide +kernel⟩), (List.mem_filter.mpr ⟨List.mem_of_getElem? (i := 320) (by decide +kernel), by decide +kernel⟩), (List.mem_filter.mpr ⟨List.mem_of_getElem? (i := 5) (by decide +kernel), by decide +kernel⟩)⟩
theorem mfX3_lead : q_MF mX3_lead 2 := ⟨by decide +kernel, ⟨by decide +kernel, by decide +kernel, by decide +kernel⟩, (List.mem_filter.mpr ⟨List.mem_of_getElem? (i := 45) (by decide +kernel), by decide +kernel⟩), (List.mem_filter.mpr ⟨List.mem_of_getElem? (i := 305) (by decide +kernel), by decide +kernel⟩)⟩
theorem lkX2_73 : q_LV RX2 73 yX3_allows := ⟨(List.mem_filter.mpr ⟨List.mem_of_getElem? (i := 262) (by decide +kernel), by decide +kernel⟩), (List.mem_filter.mpr ⟨List.mem_of_getElem? (i := 263) (by decide +kernel), by decide +kernel⟩), (List.mem_filter.mpr ⟨List.mem_of_getElem? (i := 264) (by decide +kernel), by decide +kernel⟩)⟩
theorem lkX2_77 : q_LV RX2 77 yX3_isWrong := ⟨(List.mem_filter.mpr ⟨List.mem_of_getElem? (i := 283) (by decide +kernel), by decide +kernel⟩), (List.mem_filter.mpr ⟨List.mem_of_getElem? (i := 284) (by decide +kernel), by decide +kernel⟩), (List.mem_filter.mpr ⟨List.mem_of_getElem? (i := 285) (by decide +kernel), by decide +kernel⟩)⟩
theorem lkX2_80 : q_LS RX2 80 yX2_begins := ⟨(List.mem_filter.mpr ⟨List.mem_of_getElem? (i := 287) (by decide +kernel), by decide +kernel⟩), (List.mem_filter.mpr ⟨List.mem_of_getElem? (i := 288) (by decide +kernel), by decide +kernel⟩)⟩
theorem lkX2_84 : q_LV RX2 84 yX2_noteStriker := ⟨(List.mem_filter.mpr ⟨List.mem_of_getElem? (i := 290) (by decide +kernel), by decide +kernel⟩), (List.mem_filter.mpr ⟨List.mem_of_getElem? (i := 292) (by decide +kernel), by decide +kernel⟩), (List.mem_filter.mpr ⟨List.mem_of_getElem? (i := 2) (by decide +kernel), by decide +kernel⟩)⟩
theorem lkX2_88 : q_LV RX2 88 yX3_lead := ⟨(List.mem_filter.mpr ⟨List.mem_of_getElem? (i := 302) (by decide +kernel), by decide +kernel⟩), (List.mem_filter.mpr ⟨List.mem_of_getElem? (i := 303) (by decide +kernel), by decide +kernel⟩), (List.mem_filter.mpr ⟨List.mem_of_getElem? (i := 304) (by decide +kernel), by decide +kernel⟩)⟩
theorem mfX2_take : q_MF mX2_take 2 := ⟨by decide +kernel, ⟨by decide +kernel, by decide +kernel, by decide +kernel⟩, (List.mem_filter.mpr ⟨List.mem_of_getElem? (i := 44) (by decide +kernel), by decide +kernel⟩), (List.mem_filter.mpr ⟨List.mem_of_getElem? (i := 261) (by decide +kernel), by decide +kernel⟩)⟩
theorem mfX2_has : q_MF mX2_has 1 := ⟨by decide +kernel, ⟨by decide +kernel, by decide +kernel, by decide +kernel⟩, (List.mem_filter.mpr ⟨List.mem_of_getElem? (i := 44) (by decide +kernel), by decide +kernel⟩), (List.mem_filter.mpr ⟨List.mem_of_getElem? (i := 337) (by decide +kernel), by decide +kernel⟩)⟩
theorem lkX2_97 : q_LV RX2 97 yX2_has := ⟨(List.mem_filter.mpr ⟨List.mem_of_getElem? (i := 334) (by decide +kernel), by decide +kernel⟩), (List.mem_filter.mpr ⟨List.mem_of_getElem? (i := 336) (by decide +kernel), by decide +kernel⟩), (List.mem_filter.mpr ⟨List.mem_of_getElem? (i := 7) (by decide +kernel), by decide +kernel⟩)⟩
theorem mfX2_tell : q_MF mX2_tell 2 := ⟨by decide +kernel, ⟨by decide +kernel, by decide +kernel, by decide +kernel⟩, (List.mem_filter.mpr ⟨List.mem_of_getElem? (i := 44) (by decide +kernel), by decide +kernel⟩), (List.mem_filter.mpr ⟨List.mem_of_getElem? (i := 333) (by decide +kernel), by decide +kernel⟩)⟩
theorem mfX2_roqueted : q_MF mX2_roqueted 1 := ⟨by decide +kernel, ⟨by decide +kernel, by decide +kernel, by decide +kernel⟩, (List.mem_filter.mpr ⟨List.mem_of_getElem? (i := 44) (by decide +kernel), by decide +kernel⟩), (List.mem_filter.mpr ⟨List.mem_of_getElem? (i := 346) (by decide +kernel), by decide +kernel⟩)⟩
theorem lkX2_111 : q_LV RX2 111 yX3_endTurn := ⟨(List.mem_filter.mpr ⟨List.mem_of_getElem? (i := 362) (by decide +kernel), by decide +kernel⟩), (List.mem_filter.mpr ⟨List.mem_of_getElem? (i := 311) (by decide +kernel), by decide +kernel⟩), (List.mem_filter.mpr ⟨List.mem_of_getElem? (i := 312) (by decide +kernel), by decide +kernel⟩)⟩
theorem lkX2_114 : q_LV RX2 114 yX3_stopFor := ⟨(List.mem_filter.mpr ⟨List.mem_of_getElem? (i := 363) (by decide +kernel), by decide +kernel⟩), (List.mem_filter.mpr ⟨List.mem_of_getElem? (i := 251) (by decide +kernel), by decide +kernel⟩), (List.mem_filter.mpr ⟨List.mem_of_getElem? (i := 252) (by decide +kernel), by decide +kernel⟩)⟩
theorem mfX2_obey : q_MF mX2_obey 2 := ⟨by decide +kernel, ⟨by decide +kernel, by decide +kernel, by decide +kernel⟩, (List.mem_filter.mpr ⟨List.mem_of_getElem? (i := 44) (by decide +kernel), by decide +kernel⟩), (List.mem_filter.mpr ⟨List.mem_of_getElem? (i := 361) (by decide +kernel), by decide +kernel⟩)⟩
theorem lkX2_108 : q_LS RX2 108 yX2_obey := ⟨(List.mem_filter.mpr ⟨List.mem_of_getElem? (i := 359) (by decide +kernel), by decide +kernel⟩), (List.mem_filter.mpr ⟨List.mem_of_getElem? (i := 360) (by decide +kernel), by decide +kernel⟩)⟩
theorem mfX2_leadTo : q_MF mX2_leadTo 2 := ⟨by decide +kernel, ⟨by decide +kernel, by decide +kernel, by decide +kernel⟩, (List.mem_filter.mpr ⟨List.mem_of_getElem? (i := 44) (by decide +kernel), by decide +kernel⟩), (List.mem_filter.mpr ⟨List.mem_of_getElem? (i := 358) (by decide +kernel), by decide +kernel⟩)⟩
theorem mfX3_tell : q_MF mX3_tell 1 := ⟨by decide +kernel, ⟨by decide +kernel, by decide +kernel, by decide +kernel⟩, (List.mem_filter.mpr ⟨List.mem_of_getElem? (i := 45) (by decide +kernel), by decide +kernel⟩), (List.mem_filter.mpr ⟨List.mem_of_getElem? (i := 367) (by decide +kernel), by decide +kernel⟩)⟩
theorem lkX2_100 : q_LV RX2 100 yX2_leadTo := ⟨(List.mem_filter.mpr ⟨List.mem_of_getElem? (i := 355) (by decide +kernel), by decide +kernel⟩), (List.mem_filter.mpr ⟨List.mem_of_getElem? (i := 357) (by decide +kernel), by decide +kernel⟩), (List.mem_filter.mpr ⟨List.mem_of_getElem? (i := 8) (by decide +kernel), by decide +kernel⟩)⟩
theorem lkX2_104 : q_LV RX2 104 yX3_tell := ⟨(List.mem_filter.mpr ⟨List.mem_of_getElem? (i := 364) (by decide +kernel), by decide +kernel⟩), (List.mem_filter.mpr ⟨List.mem_of_getElem? (i := 365) (by decide +kernel), by decide +kernel⟩), (List.mem_filter.mpr ⟨List.mem_of_getElem? (i := 366) (by decide +kernel), by decide +kernel⟩)⟩
theorem mfX2_asOf : q_MF mX2_asOf 2 := ⟨by decide +kernel, ⟨by decide +kernel, by decide +kernel, by decide +kernel⟩, (List.mem_filter.mpr ⟨List.mem_of_getElem? (i := 44) (by decide +kernel), by decide +kernel⟩), (List.mem_filter.mpr ⟨List.mem_of_getElem? (i := 354) (by decide +kernel), by decide +kernel⟩)⟩
theorem mfX2_takeAway : q_MF mX2_takeAway 1 := ⟨by decide +kernel, ⟨by decide +kernel, by decide +kernel, by decide +kernel⟩, (List.mem_filter.mpr ⟨List.mem_of_getElem? (i := 44) (by decide +kernel), by decide +kernel⟩), (List.mem_filter.mpr ⟨List.mem_of_getElem? (i := 384) (by decide +kernel), by decide +kernel⟩)⟩
theorem mfX2_stopTurn : q_MF mX2_stopTurn 1 := ⟨by decide +kernel, ⟨by decide +kernel, by decide +kernel, by decide +kernel⟩, (List.mem_filter.mpr ⟨List.mem_of_getElem? (i := 44) (by decide +kernel), by decide +kernel⟩), (List.mem_filter.mpr ⟨List.mem_of_getElem? (i := 388) (by decide +kernel), by decide +kernel⟩)⟩
theorem lkX2_117 : q_LV RX2 117 yX0_letterFor := ⟨(List.mem_filter.mpr ⟨List.mem_of_getElem? (i := 376) (by decide +kernel), by decide +kernel⟩), (List.mem_filter.mpr ⟨List.mem_of_getElem? (i := 377) (by decide +kernel), by decide +kernel⟩), (List.mem_filter.mpr ⟨List.mem_of_getElem? (i := 378) (by decide +kernel), by decide +kernel⟩)⟩
theorem lkX2_123 : q_LV RX2 123 yX2_takeAway := ⟨(List.mem_filter.mpr ⟨List.mem_of_getElem? (i := 381) (by decide +kernel), by decide +kernel⟩), (List.mem_filter.mpr ⟨List.mem_of_getElem? (i := 383) (by decide +kernel), by decide +kernel⟩), (List.mem_filter.mpr ⟨List.mem_of_getElem? (i := 9) (by decide +kernel), by decide +kernel⟩)⟩
theorem lkX2_126 : q_LV RX2 126 yX2_stopTurn := ⟨(List.mem_filter.mpr ⟨List.mem_of_getElem? (i := 385) (by decide +kernel), by decide +kernel⟩), (List.mem_filter.mpr ⟨List.mem_of_getElem? (i := 387) (by decide +kernel), by decide +kernel⟩), (List.mem_filter.mpr ⟨List.mem_of_getElem? (i := 10) (by decide +kernel), by decide +kernel⟩)⟩
theorem mfX2_find : q_MF mX2_find 2 := ⟨by decide +kernel, ⟨by decide +kernel, by decide +kernel, by decide +kernel⟩, (List.mem_filter.mpr ⟨List.mem_of_getElem? (i := 44) (by decide +kernel), by decide +kernel⟩), (List.mem_filter.mpr ⟨List.mem_of_getElem? (i := 375) (by decide +kernel), by decide +kernel⟩)⟩
theorem mfX2_counts : q_MF mX2_counts 2 := ⟨by decide +kernel, ⟨by decide +kernel, by decide +kernel, by decide +kernel⟩, (List.mem_filter.mpr ⟨List.mem_of_getElem? (i := 44) (by decide +kernel), by decide +kernel⟩), (List.mem_filter.mpr ⟨List.mem_of_getElem? (i := 453) (by decide +kernel), by decide +kernel⟩)⟩
theorem lkX2_129 : q_LV RX2 129 yX2_counts := ⟨(List.mem_filter.mpr ⟨List.mem_of_getElem? (i := 450) (by decide +kernel), by decide +kernel⟩), (List.mem_filter.mpr ⟨List.mem_of_getElem? (i := 452) (by decide +kernel), by decide +kernel⟩), (List.mem_filter.mpr ⟨List.mem_of_getElem? (i := 18) (by decide +kernel), by decide +kernel⟩)⟩
theorem mfX2_total : q_MF mX2_total 1 := ⟨by decide +kernel, ⟨by decide +kernel, by decide +kernel, by decide +kernel⟩, (List.mem_filter.mpr ⟨List.mem_of_getElem? (i := 44) (by decide +kernel), by decide +kernel⟩), (List.mem_filter.mpr ⟨List.mem_of_getElem? (i := 449) (by decide +kernel), by decide +kernel⟩)⟩
theorem lkX4_21 : q_LSN RX4 21 yX5_at := ⟨by decide +kernel, (List.mem_filter.mpr ⟨List.mem_of_getElem? (i := 231) (by decide +kernel), by decide +kernel⟩)⟩
theorem lkX4_25 : q_LSN RX4 25 yX5_set := ⟨by decide +kernel, (List.mem_filter.mpr ⟨List.mem_of_getElem? (i := 145) (by decide +kernel), by decide +kernel⟩)⟩
theorem mfX4_put : q_MF mX4_put 2 := ⟨by decide +kernel, ⟨by decide +kernel, by decide +kernel, by decide +kernel⟩, (List.mem_filter.mpr ⟨List.mem_of_getElem? (i := 47) (by decide +kernel), by decide +kernel⟩), (List.mem_filter.mpr ⟨List.mem_of_getElem? (i := 461) (by decide +kernel), by decide +kernel⟩)⟩
theorem mfX4_handicapOf : q_MF mX4_handicapOf 1 := ⟨by decide +kernel, ⟨by decide +kernel, by decide +kernel, by decide +kernel⟩, (List.mem_filter.mpr ⟨List.mem_of_getElem? (i := 47) (by decide +kernel), by decide +kernel⟩), (List.mem_filter.mpr ⟨List.mem_of_getElem? (i := 229) (by decide +kernel), by decide +kernel⟩)⟩
theorem lkX4_29 : q_LV RX4 29 yX4_handicapOf := ⟨(List.mem_filter.mpr ⟨List.mem_of_getElem? (i := 226) (by decide +kernel), by decide +kernel⟩), (List.mem_filter.mpr ⟨List.mem_of_getElem? (i := 227) (by decide +kernel), by decide +kernel⟩), (List.mem_filter.mpr ⟨List.mem_of_getElem? (i := 228) (by decide +kernel), by decide +kernel⟩)⟩
theorem lkX4_33 : q_LM RX4 33 Lib.Math.abs.name Lib.Math.abs.code 1 := ⟨(List.mem_filter.mpr ⟨List.mem_of_getElem? (i := 233) (by decide +kernel), by decide +kernel⟩), (List.mem_filter.mpr ⟨List.mem_of_getElem? (i := 234) (by decide +kernel), by decide +kernel⟩), (List.mem_filter.mpr ⟨List.mem_of_getElem? (i := 51) (by decide +kernel), by decide +kernel⟩), (List.mem_filter.mpr ⟨List.mem_of_getElem? (i := 235) (by decide +kernel), by decide +kernel⟩)⟩
theorem mfX4_freeTurnsOfOther : q_MF mX4_freeTurnsOfOther 2 := ⟨by decide +kernel, ⟨by decide +kernel, by decide +kernel, by decide +kernel⟩, (List.mem_filter.mpr ⟨List.mem_of_getElem? (i := 47) (by decide +kernel), by decide +kernel⟩), (List.mem_filter.mpr ⟨List.mem_of_getElem? (i := 225) (by decide +kernel), by decide +kernel⟩)⟩
theorem lkX4_38 : q_LS RX4 38 yX4_held := ⟨(List.mem_filter.mpr ⟨List.mem_of_getElem? (i := 485) (by decide +kernel), by decide +kernel⟩), (List.mem_filter.mpr ⟨List.mem_of_getElem? (i := 486) (by decide +kernel), by decide +kernel⟩)⟩
theorem mfX4_move : q_MF mX4_move 2 := ⟨by decide +kernel, ⟨by decide +kernel, by decide +kernel, by decide +kernel⟩, (List.mem_filter.mpr ⟨List.mem_of_getElem? (i := 47) (by decide +kernel), by decide +kernel⟩), (List.mem_filter.mpr ⟨List.mem_of_getElem? (i := 484) (by decide +kernel), by decide +kernel⟩)⟩
theorem lkX5_37 : q_LS RX5 37 yX5_isPlayer := ⟨(List.mem_filter.mpr ⟨List.mem_of_getElem? (i := 216) (by decide +kernel), by decide +kernel⟩), (List.mem_filter.mpr ⟨List.mem_of_getElem? (i := 217) (by decide +kernel), by decide +kernel⟩)⟩
theorem lkX5_41 : q_LV RX5 41 yX4_freeTurnsOfOther := ⟨(List.mem_filter.mpr ⟨List.mem_of_getElem? (i := 222) (by decide +kernel), by decide +kernel⟩), (List.mem_filter.mpr ⟨List.mem_of_getElem? (i := 223) (by decide +kernel), by decide +kernel⟩), (List.mem_filter.mpr ⟨List.mem_of_getElem? (i := 224) (by decide +kernel), by decide +kernel⟩)⟩
theorem lkX5_45 : q_LM RX5 45 Lib.Math.max.name Lib.Math.max.code 2 := ⟨(List.mem_filter.mpr ⟨List.mem_of_getElem? (i := 236) (by decide +kernel), by decide +kernel⟩), (List.mem_filter.mpr ⟨List.mem_of_getElem? (i := 237) (by decide +kernel), by decide +kernel⟩), (List.mem_filter.mpr ⟨List.mem_of_getElem? (i := 51) (by decide +kernel), by decide +kernel⟩), (List.mem_filter.mpr ⟨List.mem_of_getElem? (i := 238) (by decide +kernel), by decide +kernel⟩)⟩
theorem lkX5_50 : q_LV RX5 50 yX2_begin := ⟨(List.mem_filter.mpr ⟨List.mem_of_getElem? (i := 239) (by decide +kernel), by decide +kernel⟩), (List.mem_filter.mpr ⟨List.mem_of_getElem? (i := 240) (by decide +kernel), by decide +kernel⟩), (List.mem_filter.mpr ⟨List.mem_of_getElem? (i := 241) (by decide +kernel), by decide +kernel⟩)⟩
theorem mfX5_game : q_MF mX5_game 2 := ⟨by decide +kernel, ⟨by decide +kernel, by decide +kernel, by decide +kernel⟩, (List.mem_filter.mpr ⟨List.mem_of_getElem? (i := 43) (by decide +kernel), by decide +kernel⟩), (List.mem_filter.mpr ⟨List.mem_of_getElem? (i := 215) (by decide +kernel), by decide +kernel⟩)⟩
theorem lkX5_58 : q_LV RX5 58 yX2_take := ⟨(List.mem_filter.mpr ⟨List.mem_of_getElem? (i := 258) (by decide +kernel), by decide +kernel⟩), (List.mem_filter.mpr ⟨List.mem_of_getElem? (i := 259) (by decide +kernel), by decide +kernel⟩), (List.mem_filter.mpr ⟨List.mem_of_getElem? (i := 260) (by decide +kernel), by decide +kernel⟩)⟩
theorem mfX5_stroke : q_MF mX5_stroke 2 := ⟨by decide +kernel, ⟨by decide +kernel, by decide +kernel, by decide +kernel⟩, (List.mem_filter.mpr ⟨List.mem_of_getElem? (i := 43) (by decide +kernel), by decide +kernel⟩), (List.mem_filter.mpr ⟨List.mem_of_getElem? (i := 257) (by decide +kernel), by decide +kernel⟩)⟩
theorem lkX5_61 : q_LV RX5 61 yX2_tell := ⟨(List.mem_filter.mpr ⟨List.mem_of_getElem? (i := 330) (by decide +kernel), by decide +kernel⟩), (List.mem_filter.mpr ⟨List.mem_of_getElem? (i := 331) (by decide +kernel), by decide +kernel⟩), (List.mem_filter.mpr ⟨List.mem_of_getElem? (i := 332) (by decide +kernel), by decide +kernel⟩)⟩
theorem mfX5_told : q_MF mX5_told 2 := ⟨by decide +kernel, ⟨by decide +kernel, by decide +kernel, by decide +kernel⟩, (List.mem_filter.mpr ⟨List.mem_of_getElem? (i := 43) (by decide +kernel), by decide +kernel⟩), (List.mem_filter.mpr ⟨List.mem_of_getElem? (i := 329) (by decide +kernel), by decide +kernel⟩)⟩
theorem lkX5_64 : q_LV RX5 64 yX2_roqueted := ⟨(List.mem_filter.mpr ⟨List.mem_of_getElem? (i := 343) (by decide +kernel), by decide +kernel⟩), (List.mem_filter.mpr ⟨List.mem_of_getElem? (i := 344) (by decide +kernel), by decide +kernel⟩), (List.mem_filter.mpr ⟨List.mem_of_getElem? (i := 345) (by decide +kernel), by decide +kernel⟩)⟩
theorem mfX5_hit : q_MF mX5_hit 1 := ⟨by decide +kernel, ⟨by decide +kernel, by decide +kernel, by decide +kernel⟩, (List.mem_filter.mpr ⟨List.mem_of_getElem? (i := 43) (by decide +kernel), by decide +kernel⟩), (List.mem_filter.mpr ⟨List.mem_of_getElem? (i := 342) (by decide +kernel), by decide +kernel⟩)⟩
theorem lkX5_68 : q_LV RX5 68 yX2_asOf := ⟨(List.mem_filter.mpr ⟨List.mem_of_getElem? (i := 351) (by decide +kernel), by decide +kernel⟩), (List.mem_filter.mpr ⟨List.mem_of_getElem? (i := 352) (by decide +kernel), by decide +kernel⟩), (List.mem_filter.mpr ⟨List.mem_of_getElem? (i := 353) (by decide +kernel), by decide +kernel⟩)⟩
theorem mfX5_state : q_MF mX5_state 2 := ⟨by decide +kernel, ⟨by decide +kernel, by decide +kernel, by decide +kernel⟩, (List.mem_filter.mpr ⟨List.mem_of_getElem? (i := 43) (by decide +kernel), by decide +kernel⟩), (List.mem_filter.mpr ⟨List.mem_of_getElem? (i := 350) (by decide +kernel), by decide +kernel⟩)⟩
theorem lkX5_71 : q_LV RX5 71 yX2_find := ⟨(List.mem_filter.mpr ⟨List.mem_of_getElem? (i := 372) (by decide +kernel), by decide +kernel⟩), (List.mem_filter.mpr ⟨List.mem_of_getElem? (i := 373) (by decide +kernel), by decide +kernel⟩), (List.mem_filter.mpr ⟨List.mem_of_getElem? (i := 374) (by decide +kernel), by decide +kernel⟩)⟩
theorem mfX5_found : q_MF mX5_found 1 := ⟨by decide +kernel, ⟨by decide +kernel, by decide +kernel, by decide +kernel⟩, (List.mem_filter.mpr ⟨List.mem_of_getElem? (i := 43) (by decide +kernel), by decide +kernel⟩), (List.mem_filter.mpr ⟨List.mem_of_getElem? (i := 371) (by decide +kernel), by decide +kernel⟩)⟩
theorem lkX5_75 : q_LV RX5 75 yX0_append := ⟨(List.mem_filter.mpr ⟨List.mem_of_getElem? (i := 393) (by decide +kernel), by decide +kernel⟩), (List.mem_filter.mpr ⟨List.mem_of_getElem? (i := 394) (by decide +kernel), by decide +kernel⟩), (List.mem_filter.mpr ⟨List.mem_of_getElem? (i := 395) (by decide +kernel), by decide +kernel⟩)⟩
theorem mfX5_type : q_MF mX5_type 2 := ⟨by decide +kernel, ⟨by decide +kernel, by decide +kernel, by decide +kernel⟩, (List.mem_filter.mpr ⟨List.mem_of_getElem? (i := 43) (by decide +kernel), by decide +kernel⟩), (List.mem_filter.mpr ⟨List.mem_of_getElem? (i := 392) (by decide +kernel), by decide +kernel⟩)⟩
theorem lkX5_79 : q_LV RX5 79 yX0_takeTape := ⟨(List.mem_filter.mpr ⟨List.mem_of_getElem? (i := 406) (by decide +kernel), by decide +kernel⟩), (List.mem_filter.mpr ⟨List.mem_of_getElem? (i := 407) (by decide +kernel), by decide +kernel⟩), (List.mem_filter.mpr ⟨List.mem_of_getElem? (i := 408) (by decide +kernel), by decide +kernel⟩)⟩
theorem mfX5_laws : q_MF mX5_laws 0 := ⟨by decide +kernel, ⟨by decide +kernel, by decide +kernel, by decide +kernel⟩, (List.mem_filter.mpr ⟨List.mem_of_getElem? (i := 43) (by decide +kernel), by decide +kernel⟩), (List.mem_filter.mpr ⟨List.mem_of_getElem? (i := 405) (by decide +kernel), by decide +kernel⟩)⟩
theorem lkX5_83 : q_LV RX5 83 yX2_total := ⟨(List.mem_filter.mpr ⟨List.mem_of_getElem? (i := 446) (by decide +kernel), by decide +kernel⟩), (List.mem_filter.mpr ⟨List.mem_of_getElem? (i := 447) (by decide +kernel), by decide +kernel⟩), (List.mem_filter.mpr ⟨List.mem_of_getElem? (i := 448) (by decide +kernel), by decide +kernel⟩)⟩
theorem mfX5_count : q_MF mX5_count 1 := ⟨by decide +kernel, ⟨by decide +kernel, by decide +kernel, by decide +kernel⟩, (List.mem_filter.mpr ⟨List.mem_of_getElem? (i := 43) (by decide +kernel), by decide +kernel⟩), (List.mem_filter.mpr ⟨List.mem_of_getElem? (i := 445) (by decide +kernel), by decide +kernel⟩)⟩
theorem lkX5_86 : q_LV RX5 86 yX4_put := ⟨(List.mem_filter.mpr ⟨List.mem_of_getElem? (i := 458) (by decide +kernel), by decide +kernel⟩), (List.mem_filter.mpr ⟨List.mem_of_getElem? (i := 459) (by decide +kernel), by decide +kernel⟩), (List.mem_filter.mpr ⟨List.mem_of_getElem? (i := 460) (by decide +kernel), by decide +kernel⟩)⟩
theorem mfX5_index : q_MF mX5_index 2 := ⟨by decide +kernel, ⟨by decide +kernel, by decide +kernel, by decide +kernel⟩, (List.mem_filter.mpr ⟨List.mem_of_getElem? (i := 43) (by decide +kernel), by decide +kernel⟩), (List.mem_filter.mpr ⟨List.mem_of_getElem? (i := 457) (by decide +kernel), by decide +kernel⟩)⟩
theorem lkX5_89 : q_LV RX5 89 yX4_handicapOf := ⟨(List.mem_filter.mpr ⟨List.mem_of_getElem? (i := 467) (by decide +kernel), by decide +kernel⟩), (List.mem_filter.mpr ⟨List.mem_of_getElem? (i := 227) (by decide +kernel), by decide +kernel⟩), (List.mem_filter.mpr ⟨List.mem_of_getElem? (i := 228) (by decide +kernel), by decide +kernel⟩)⟩
theorem mfX5_handicap : q_MF mX5_handicap 1 := ⟨by decide +kernel, ⟨by decide +kernel, by decide +kernel, by decide +kernel⟩, (List.mem_filter.mpr ⟨List.mem_of_getElem? (i := 43) (by decide +kernel), by decide +kernel⟩), (List.mem_filter.mpr ⟨List.mem_of_getElem? (i := 466) (by decide +kernel), by decide +kernel⟩)⟩
theorem lkX5_92 : q_LV RX5 92 yX2_winner := ⟨(List.mem_filter.mpr ⟨List.mem_of_getElem? (i := 472) (by decide +kernel), by decide +kernel⟩), (List.mem_filter.mpr ⟨List.mem_of_getElem? (i := 473) (by decide +kernel), by decide +kernel⟩), (List.mem_filter.mpr ⟨List.mem_of_getElem? (i := 474) (by decide +kernel), by decide +kernel⟩)⟩
theorem lkX5_95 : q_LV RX5 95 yX2_playerOf := ⟨(List.mem_filter.mpr ⟨List.mem_of_getElem? (i := 477) (by decide +kernel), by decide +kernel⟩), (List.mem_filter.mpr ⟨List.mem_of_getElem? (i := 478) (by decide +kernel), by decide +kernel⟩), (List.mem_filter.mpr ⟨List.mem_of_getElem? (i := 479) (by decide +kernel), by decide +kernel⟩)⟩
theorem lkX5_98 : q_LV RX5 98 yX4_move := ⟨(List.mem_filter.mpr ⟨List.mem_of_getElem? (i := 481) (by decide +kernel), by decide +kernel⟩), (List.mem_filter.mpr ⟨List.mem_of_getElem? (i := 482) (by decide +kernel), by decide +kernel⟩), (List.mem_filter.mpr ⟨List.mem_of_getElem? (i := 483) (by decide +kernel), by decide +kernel⟩)⟩
theorem lkX5_101 : q_LV RX5 101 yX2_end := ⟨(List.mem_filter.mpr ⟨List.mem_of_getElem? (i := 490) (by decide +kernel), by decide +kernel⟩), (List.mem_filter.mpr ⟨List.mem_of_getElem? (i := 491) (by decide +kernel), by decide +kernel⟩), (List.mem_filter.mpr ⟨List.mem_of_getElem? (i := 492) (by decide +kernel), by decide +kernel⟩)⟩
theorem mfX5_settle : q_MF mX5_settle 0 := ⟨by decide +kernel, ⟨by decide +kernel, by decide +kernel, by decide +kernel⟩, (List.mem_filter.mpr ⟨List.mem_of_getElem? (i := 43) (by decide +kernel), by decide +kernel⟩), (List.mem_filter.mpr ⟨List.mem_of_getElem? (i := 471) (by decide +kernel), by decide +kernel⟩)⟩
theorem lkX5_104 : q_LS RX5 104 yX1_isMatch := ⟨(List.mem_filter.mpr ⟨List.mem_of_getElem? (i := 498) (by decide +kernel), by decide +kernel⟩), (List.mem_filter.mpr ⟨List.mem_of_getElem? (i := 499) (by decide +kernel), by decide +kernel⟩)⟩
theorem lkX5_107 : q_LV RX5 107 yX1_who := ⟨(List.mem_filter.mpr ⟨List.mem_of_getElem? (i := 502) (by decide +kernel), by decide +kernel⟩), (List.mem_filter.mpr ⟨List.mem_of_getElem? (i := 503) (by decide +kernel), by decide +kernel⟩), (List.mem_filter.mpr ⟨List.mem_of_getElem? (i := 504) (by decide +kernel), by decide +kernel⟩)⟩
theorem mfX5_match : q_MF mX5_match 2 := ⟨by decide +kernel, ⟨by decide +kernel, by decide +kernel, by decide +kernel⟩, (List.mem_filter.mpr ⟨List.mem_of_getElem? (i := 43) (by decide +kernel), by decide +kernel⟩), (List.mem_filter.mpr ⟨List.mem_of_getElem? (i := 497) (by decide +kernel), by decide +kernel⟩)⟩
theorem lkX5_110 : q_LV RX5 110 yX1_give := ⟨(List.mem_filter.mpr ⟨List.mem_of_getElem? (i := 523) (by decide +kernel), by decide +kernel⟩), (List.mem_filter.mpr ⟨List.mem_of_getElem? (i := 524) (by decide +kernel), by decide +kernel⟩), (List.mem_filter.mpr ⟨List.mem_of_getElem? (i := 525) (by decide +kernel), by decide +kernel⟩)⟩
theorem mfX5_win : q_MF mX5_win 2 := ⟨by decide +kernel, ⟨by decide +kernel, by decide +kernel, by decide +kernel⟩, (List.mem_filter.mpr ⟨List.mem_of_getElem? (i := 43) (by decide +kernel), by decide +kernel⟩), (List.mem_filter.mpr ⟨List.mem_of_getElem? (i := 522) (by decide +kernel), by decide +kernel⟩)⟩
theorem lkX5_113 : q_LV RX5 113 yX1_takeBack := ⟨(List.mem_filter.mpr ⟨List.mem_of_getElem? (i := 533) (by decide +kernel), by decide +kernel⟩), (List.mem_filter.mpr ⟨List.mem_of_getElem? (i := 534) (by decide +kernel), by decide +kernel⟩), (List.mem_filter.mpr ⟨List.mem_of_getElem? (i := 535) (by decide +kernel), by decide +kernel⟩)⟩
theorem mfX5_unwin : q_MF mX5_unwin 1 := ⟨by decide +kernel, ⟨by decide +kernel, by decide +kernel, by decide +kernel⟩, (List.mem_filter.mpr ⟨List.mem_of_getElem? (i := 43) (by decide +kernel), by decide +kernel⟩), (List.mem_filter.mpr ⟨List.mem_of_getElem? (i := 532) (by decide +kernel), by decide +kernel⟩)⟩
theorem lkX5_116 : q_LV RX5 116 yX1_best := ⟨(List.mem_filter.mpr ⟨List.mem_of_getElem? (i := 543) (by decide +kernel), by decide +kernel⟩), (List.mem_filter.mpr ⟨List.mem_of_getElem? (i := 544) (by decide +kernel), by decide +kernel⟩), (List.mem_filter.mpr ⟨List.mem_of_getElem? (i := 545) (by decide +kernel), by decide +kernel⟩)⟩
theorem mfX5_champion : q_MF mX5_champion 0 := ⟨by decide +kernel, ⟨by decide +kernel, by decide +kernel, by decide +kernel⟩, (List.mem_filter.mpr ⟨List.mem_of_getElem? (i := 43) (by decide +kernel), by decide +kernel⟩), (List.mem_filter.mpr ⟨List.mem_of_getElem? (i := 542) (by decide +kernel), by decide +kernel⟩)⟩
theorem lkX5_119 : q_LV RX5 119 yX1_setLawns := ⟨(List.mem_filter.mpr ⟨List.mem_of_getElem? (i := 551) (by decide +kernel), by decide +kernel⟩), (List.mem_filter.mpr ⟨List.mem_of_getElem? (i := 552) (by decide +kernel), by decide +kernel⟩), (List.mem_filter.mpr ⟨List.mem_of_getElem? (i := 553) (by decide +kernel), by decide +kernel⟩)⟩
theorem mfX5_lawns : q_MF mX5_lawns 1 := ⟨by decide +kernel, ⟨by decide +kernel, by decide +kernel, by decide +kernel⟩, (List.mem_filter.mpr ⟨List.mem_of_getElem? (i := 43) (by decide +kernel), by decide +kernel⟩), (List.mem_filter.mpr ⟨List.mem_of_getElem? (i := 550) (by decide +kernel), by decide +kernel⟩)⟩
theorem lkX5_122 : q_LV RX5 122 yX1_place := ⟨(List.mem_filter.mpr ⟨List.mem_of_getElem? (i := 563) (by decide +kernel), by decide +kernel⟩), (List.mem_filter.mpr ⟨List.mem_of_getElem? (i := 564) (by decide +kernel), by decide +kernel⟩), (List.mem_filter.mpr ⟨List.mem_of_getElem? (i := 565) (by decide +kernel), by decide +kernel⟩)⟩
theorem mfX5_lay : q_MF mX5_lay 1 := ⟨by decide +kernel, ⟨by decide +kernel, by decide +kernel, by decide +kernel⟩, (List.mem_filter.mpr ⟨List.mem_of_getElem? (i := 43) (by decide +kernel), by decide +kernel⟩), (List.mem_filter.mpr ⟨List.mem_of_getElem? (i := 562) (by decide +kernel), by decide +kernel⟩)⟩
theorem lkX5_125 : q_LV RX5 125 yX1_hourOf := ⟨(List.mem_filter.mpr ⟨List.mem_of_getElem? (i := 580) (by decide +kernel), by decide +kernel⟩), (List.mem_filter.mpr ⟨List.mem_of_getElem? (i := 581) (by decide +kernel), by decide +kernel⟩), (List.mem_filter.mpr ⟨List.mem_of_getElem? (i := 582) (by decide +kernel), by decide +kernel⟩)⟩
theorem mfX5_hour : q_MF mX5_hour 1 := ⟨by decide +kernel, ⟨by decide +kernel, by decide +kernel, by decide +kernel⟩, (List.mem_filter.mpr ⟨List.mem_of_getElem? (i := 43) (by decide +kernel), by decide +kernel⟩), (List.mem_filter.mpr ⟨List.mem_of_getElem? (i := 579) (by decide +kernel), by decide +kernel⟩)⟩
theorem lkX5_128 : q_LV RX5 128 yX1_liftAll := ⟨(List.mem_filter.mpr ⟨List.mem_of_getElem? (i := 588) (by decide +kernel), by decide +kernel⟩), (List.mem_filter.mpr ⟨List.mem_of_getElem? (i := 589) (by decide +kernel), by decide +kernel⟩), (List.mem_filter.mpr ⟨List.mem_of_getElem? (i := 590) (by decide +kernel), by decide +kernel⟩)⟩
theorem mfX5_clear : q_MF mX5_clear 0 := ⟨by decide +kernel, ⟨by decide +kernel, by decide +kernel, by decide +kernel⟩, (List.mem_filter.mpr ⟨List.mem_of_getElem? (i := 43) (by decide +kernel), by decide +kernel⟩), (List.mem_filter.mpr ⟨List.mem_of_getElem? (i := 587) (by decide +kernel), by decide +kernel⟩)⟩
theorem lkX6_76 : q_LS RX6 76 yX6_isPlayer := ⟨(List.mem_filter.mpr ⟨List.mem_of_getElem? (i := 700) (by decide +kernel), by decide +kernel⟩), (List.mem_filter.mpr ⟨List.mem_of_getElem? (i := 701) (by decide +kernel), by decide +kernel⟩)⟩
theorem mfX6_index : q_MF mX6_index 2 := ⟨by decide +kernel, ⟨by decide +kernel, by decide +kernel, by decide +kernel⟩, (List.mem_filter.mpr ⟨List.mem_of_getElem? (i := 50) (by decide +kernel), by decide +kernel⟩), (List.mem_filter.mpr ⟨List.mem_of_getElem? (i := 699) (by decide +kernel), by decide +kernel⟩)⟩
theorem mfX6_handicapOf : q_MF mX6_handicapOf 1 := ⟨by decide +kernel, ⟨by decide +kernel, by decide +kernel, by decide +kernel⟩, (List.mem_filter.mpr ⟨List.mem_of_getElem? (i := 50) (by decide +kernel), by decide +kernel⟩), (List.mem_filter.mpr ⟨List.mem_of_getElem? (i := 713) (by decide +kernel), by decide +kernel⟩)⟩
theorem lkX6_80 : q_LV RX6 80 yX6_handicapOf := ⟨(List.mem_filter.mpr ⟨List.mem_of_getElem? (i := 710) (by decide +kernel), by decide +kernel⟩), (List.mem_filter.mpr ⟨List.mem_of_getElem? (i := 712) (by decide +kernel), by decide +kernel⟩), (List.mem_filter.mpr ⟨List.mem_of_getElem? (i := 23) (by decide +kernel), by decide +kernel⟩)⟩
theorem mfX6_handicap : q_MF mX6_handicap 1 := ⟨by decide +kernel, ⟨by decide +kernel, by decide +kernel, by decide +kernel⟩, (List.mem_filter.mpr ⟨List.mem_of_getElem? (i := 50) (by decide +kernel), by decide +kernel⟩), (List.mem_filter.mpr ⟨List.mem_of_getElem? (i := 709) (by decide +kernel), by decide +kernel⟩)⟩
theorem mfX6_forget : q_MF mX6_forget 1 := ⟨by decide +kernel, ⟨by decide +kernel, by decide +kernel, by decide +kernel⟩, (List.mem_filter.mpr ⟨List.mem_of_getElem? (i := 50) (by decide +kernel), by decide +kernel⟩), (List.mem_filter.mpr ⟨List.mem_of_getElem? (i := 721) (by decide +kernel), by decide +kernel⟩)⟩
theorem flX6_84 : q_FL RX6 84 6 RX6 TX6 32 1 := ⟨(List.mem_filter.mpr ⟨List.mem_of_getElem? (i := 599) (by decide +kernel), by decide +kernel⟩), by decide, rfl, iwX6⟩
theorem plX6_1 : q_PL RX6 TX6 32 1 .boolean false := ⟨rfl, by decide +kernel, ⟨tyX6, tyX6_ok⟩, nmX6⟩
theorem flX6_88 : q_FL RX6 88 6 RX6 TX6 32 4 := ⟨(List.mem_filter.mpr ⟨List.mem_of_getElem? (i := 602) (by decide +kernel), by decide +kernel⟩), by decide, rfl, iwX6⟩
theorem plX6_4 : q_PL RX6 TX6 32 4 .int false := ⟨rfl, by decide +kernel, ⟨tyX6, tyX6_ok⟩, nmX6⟩
theorem lkX6_91 : q_LV RX6 91 yX6_forget := ⟨(List.mem_filter.mpr ⟨List.mem_of_getElem? (i := 718) (by decide +kernel), by decide +kernel⟩), (List.mem_filter.mpr ⟨List.mem_of_getElem? (i := 720) (by decide +kernel), by decide +kernel⟩), (List.mem_filter.mpr ⟨List.mem_of_getElem? (i := 24) (by decide +kernel), by decide +kernel⟩)⟩
theorem mfX6_game : q_MF mX6_game 2 := ⟨by decide +kernel, ⟨by decide +kernel, by decide +kernel, by decide +kernel⟩, (List.mem_filter.mpr ⟨List.mem_of_getElem? (i := 50) (by decide +kernel), by decide +kernel⟩), (List.mem_filter.mpr ⟨List.mem_of_getElem? (i := 717) (by decide +kernel), by decide +kernel⟩)⟩
theorem flX6_95 : q_FL RX6 95 6 RX6 TX6 32 15 := ⟨(List.mem_filter.mpr ⟨List.mem_of_getElem? (i := 613) (by decide +kernel), by decide +kernel⟩), by decide, rfl, iwX6⟩
theorem mfX6_others : q_MF mX6_others 0 := ⟨by decide +kernel, ⟨by decide +kernel, by decide +kernel, by decide +kernel⟩, (List.mem_filter.mpr ⟨List.mem_of_getElem? (i := 50) (by decide +kernel), by decide +kernel⟩), (List.mem_filter.mpr ⟨List.mem_of_getElem? (i := 749) (by decide +kernel), by decide +kernel⟩)⟩
theorem plX6_15 : q_PL RX6 TX6 32 15 .int false := ⟨rfl, by decide +kernel, ⟨tyX6, tyX6_ok⟩, nmX6⟩
theorem flX6_98 : q_FL RX6 98 6 RX6 TX6 32 21 := ⟨(List.mem_filter.mpr ⟨List.mem_of_getElem? (i := 619) (by decide +kernel), by decide +kernel⟩), by decide, rfl, iwX6⟩
theorem plX6_21 : q_PL RX6 TX6 32 21 .int false := ⟨rfl, by decide +kernel, ⟨tyX6, tyX6_ok⟩, nmX6⟩
theorem flX6_101 : q_FL RX6 101 6 RX6 TX6 32 16 := ⟨(List.mem_filter.mpr ⟨List.mem_of_getElem? (i := 614) (by decide +kernel), by decide +kernel⟩), by decide, rfl, iwX6⟩
theorem plX6_16 : q_PL RX6 TX6 32 16 .int false := ⟨rfl, by decide +kernel, ⟨tyX6, tyX6_ok⟩, nmX6⟩
theorem flX6_104 : q_FL RX6 104 6 RX6 TX6 32 18 := ⟨(List.mem_filter.mpr ⟨List.mem_of_getElem? (i := 616) (by decide +kernel), by decide +kernel⟩), by decide, rfl, iwX6⟩
theorem plX6_18 : q_PL RX6 TX6 32 18 .int false := ⟨rfl, by decide +kernel, ⟨tyX6, tyX6_ok⟩, nmX6⟩
theorem lkX6_107 : q_LV RX6 107 yX6_others := ⟨(List.mem_filter.mpr ⟨List.mem_of_getElem? (i := 746) (by decide +kernel), by decide +kernel⟩), (List.mem_filter.mpr ⟨List.mem_of_getElem? (i := 748) (by decide +kernel), by decide +kernel⟩), (List.mem_filter.mpr ⟨List.mem_of_getElem? (i := 30) (by decide +kernel), by decide +kernel⟩)⟩
theorem flX6_111 : q_FL RX6 111 6 RX6 TX6 32 17 := ⟨(List.mem_filter.mpr ⟨List.mem_of_getElem? (i := 615) (by decide +kernel), by decide +kernel⟩), by decide, rfl, iwX6⟩
theorem plX6_17 : q_PL RX6 TX6 32 17 .int false := ⟨rfl, by decide +kernel, ⟨tyX6, tyX6_ok⟩, nmX6⟩
theorem mfX6_begin : q_MF mX6_begin 2 := ⟨by decide +kernel, ⟨by decide +kernel, by decide +kernel, by decide +kernel⟩, (List.mem_filter.mpr ⟨List.mem_of_getElem? (i := 50) (by decide +kernel), by decide +kernel⟩), (List.mem_filter.mpr ⟨List.mem_of_getElem? (i := 745) (by decide +kernel), by decide +kernel⟩)⟩
theorem flX6_114 : q_FL RX6 114 6 RX6 TX6 32 19 := ⟨(List.mem_filter.mpr ⟨List.mem_of_getElem? (i := 617) (by decide +kernel), by decide +kernel⟩), by decide, rfl, iwX6⟩
theorem plX6_19 : q_PL RX6 TX6 32 19 .int false := ⟨rfl, by decide +kernel, ⟨tyX6, tyX6_ok⟩, nmX6⟩
theorem flX6_117 : q_FL RX6 117 6 RX6 TX6 32 20 := ⟨(List.mem_filter.mpr ⟨List.mem_of_getElem? (i := 618) (by decide +kernel), by decide +kernel⟩), by decide, rfl, iwX6⟩
theorem plX6_20 : q_PL RX6 TX6 32 20 .int false := ⟨rfl, by decide +kernel, ⟨tyX6, tyX6_ok⟩, nmX6⟩
theorem flX6_120 : q_FL RX6 120 6 RX6 TX6 32 14 := ⟨(List.mem_filter.mpr ⟨List.mem_of_getElem? (i := 612) (by decide +kernel), by decide +kernel⟩), by decide, rfl, iwX6⟩
theorem plX6_14 : q_PL RX6 TX6 32 14 .int false := ⟨rfl, by decide +kernel, ⟨tyX6, tyX6_ok⟩, nmX6⟩
theorem mfX6_endTurn : q_MF mX6_endTurn 0 := ⟨by decide +kernel, ⟨by decide +kernel, by decide +kernel, by decide +kernel⟩, (List.mem_filter.mpr ⟨List.mem_of_getElem? (i := 50) (by decide +kernel), by decide +kernel⟩), (List.mem_filter.mpr ⟨List.mem_of_getElem? (i := 737) (by decide +kernel), by decide +kernel⟩)⟩
theorem mfX6_turnTo : q_MF mX6_turnTo 1 := ⟨by decide +kernel, ⟨by decide +kernel, by decide +kernel, by decide +kernel⟩, (List.mem_filter.mpr ⟨List.mem_of_getElem? (i := 50) (by decide +kernel), by decide +kernel⟩), (List.mem_filter.mpr ⟨List.mem_of_getElem? (i := 733) (by decide +kernel), by decide +kernel⟩)⟩
theorem mfX6_won : q_MF mX6_won 0 := ⟨by decide +kernel, ⟨by decide +kernel, by decide +kernel, by decide +kernel⟩, (List.mem_filter.mpr ⟨List.mem_of_getElem? (i := 50) (by decide +kernel), by decide +kernel⟩), (List.mem_filter.mpr ⟨List.mem_of_getElem? (i := 753) (by decide +kernel), by decide +kernel⟩)⟩
theorem mfX6_canDo : q_MF mX6_canDo 2 := ⟨by decide +kernel, ⟨by decide +kernel, by decide +kernel, by decide +kernel⟩, (List.mem_filter.mpr ⟨List.mem_of_getElem? (i := 50) (by decide +kernel), by decide +kernel⟩), (List.mem_filter.mpr ⟨List.mem_of_getElem? (i := 757) (by decide +kernel), by decide +kernel⟩)⟩
theorem mfX6_isWrong : q_MF mX6_isWrong 2 := ⟨by decide +kernel, ⟨by decide +kernel, by decide +kernel, by decide +kernel⟩, (List.mem_filter.mpr ⟨List.mem_of_getElem? (i := 50) (by decide +kernel), by decide +kernel⟩), (List.mem_filter.mpr ⟨List.mem_of_getElem? (i := 761) (by decide +kernel), by decide +kernel⟩)⟩
theorem lkX6_123 : q_LV RX6 123 yX6_begin := ⟨(List.mem_filter.mpr ⟨List.mem_of_getElem? (i := 742) (by decide +kernel), by decide +kernel⟩), (List.mem_filter.mpr ⟨List.mem_of_getElem? (i := 744) (by decide +kernel), by decide +kernel⟩), (List.mem_filter.mpr ⟨List.mem_of_getElem? (i := 29) (by decide +kernel), by decide +kernel⟩)⟩
theorem lkX6_127 : q_LV RX6 127 yX6_endTurn := ⟨(List.mem_filter.mpr ⟨List.mem_of_getElem? (i := 734) (by decide +kernel), by decide +kernel⟩), (List.mem_filter.mpr ⟨List.mem_of_getElem? (i := 736) (by decide +kernel), by decide +kernel⟩), (List.mem_filter.mpr ⟨List.mem_of_getElem? (i := 27) (by decide +kernel), by decide +kernel⟩)⟩
theorem mfX6_make : q_MF mX6_make 2 := ⟨by decide +kernel, ⟨by decide +kernel, by decide +kernel, by decide +kernel⟩, (List.mem_filter.mpr ⟨List.mem_of_getElem? (i := 50) (by decide +kernel), by decide +kernel⟩), (List.mem_filter.mpr ⟨List.mem_of_getElem? (i := 741) (by decide +kernel), by decide +kernel⟩)⟩
theorem lkX6_130 : q_LV RX6 130 yX6_turnTo := ⟨(List.mem_filter.mpr ⟨List.mem_of_getElem? (i := 730) (by decide +kernel), by decide +kernel⟩), (List.mem_filter.mpr ⟨List.mem_of_getElem? (i := 732) (by decide +kernel), by decide +kernel⟩), (List.mem_filter.mpr ⟨List.mem_of_getElem? (i := 26) (by decide +kernel), by decide +kernel⟩)⟩
theorem lkX6_133 : q_LV RX6 133 yX6_make := ⟨(List.mem_filter.mpr ⟨List.mem_of_getElem? (i := 738) (by decide +kernel), by decide +kernel⟩), (List.mem_filter.mpr ⟨List.mem_of_getElem? (i := 740) (by decide +kernel), by decide +kernel⟩), (List.mem_filter.mpr ⟨List.mem_of_getElem? (i := 28) (by decide +kernel), by decide +kernel⟩)⟩
theorem mfX6_goTo : q_MF mX6_goTo 1 := ⟨by decide +kernel, ⟨by decide +kernel, by decide +kernel, by decide +kernel⟩, (List.mem_filter.mpr ⟨List.mem_of_getElem? (i := 50) (by decide +kernel), by decide +kernel⟩), (List.mem_filter.mpr ⟨List.mem_of_getElem? (i := 729) (by decide +kernel), by decide +kernel⟩)⟩
theorem lkX6_136 : q_LV RX6 136 yX6_goTo := ⟨(List.mem_filter.mpr ⟨List.mem_of_getElem? (i := 726) (by decide +kernel), by decide +kernel⟩), (List.mem_filter.mpr ⟨List.mem_of_getElem? (i := 728) (by decide +kernel), by decide +kernel⟩), (List.mem_filter.mpr ⟨List.mem_of_getElem? (i := 25) (by decide +kernel), by decide +kernel⟩)⟩
theorem lkX6_139 : q_LV RX6 139 yX6_won := ⟨(List.mem_filter.mpr ⟨List.mem_of_getElem? (i := 750) (by decide +kernel), by decide +kernel⟩), (List.mem_filter.mpr ⟨List.mem_of_getElem? (i := 752) (by decide +kernel), by decide +kernel⟩), (List.mem_filter.mpr ⟨List.mem_of_getElem? (i := 31) (by decide +kernel), by decide +kernel⟩)⟩
theorem lkX6_142 : q_LV RX6 142 yX6_canDo := ⟨(List.mem_filter.mpr ⟨List.mem_of_getElem? (i := 754) (by decide +kernel), by decide +kernel⟩), (List.mem_filter.mpr ⟨List.mem_of_getElem? (i := 756) (by decide +kernel), by decide +kernel⟩), (List.mem_filter.mpr ⟨List.mem_of_getElem? (i := 32) (by decide +kernel), by decide +kernel⟩)⟩
theorem lkX6_146 : q_LV RX6 146 yX6_isWrong := ⟨(List.mem_filter.mpr ⟨List.mem_of_getElem? (i := 758) (by decide +kernel), by decide +kernel⟩), (List.mem_filter.mpr ⟨List.mem_of_getElem? (i := 760) (by decide +kernel), by decide +kernel⟩), (List.mem_filter.mpr ⟨List.mem_of_getElem? (i := 33) (by decide +kernel), by decide +kernel⟩)⟩
theorem mfX6_stroke : q_MF mX6_stroke 2 := ⟨by decide +kernel, ⟨by decide +kernel, by decide +kernel, by decide +kernel⟩, (List.mem_filter.mpr ⟨List.mem_of_getElem? (i := 50) (by decide +kernel), by decide +kernel⟩), (List.mem_filter.mpr ⟨List.mem_of_getElem? (i := 725) (by decide +kernel), by decide +kernel⟩)⟩
theorem mfX6_isStroke : q_MF mX6_isStroke 1 := ⟨by decide +kernel, ⟨by decide +kernel, by decide +kernel, by decide +kernel⟩, (List.mem_filter.mpr ⟨List.mem_of_getElem? (i := 50) (by decide +kernel), by decide +kernel⟩), (List.mem_filter.mpr ⟨List.mem_of_getElem? (i := 769) (by decide +kernel), by decide +kernel⟩)⟩
theorem lkX6_149 : q_LV RX6 149 yX6_isStroke := ⟨(List.mem_filter.mpr ⟨List.mem_of_getElem? (i := 766) (by decide +kernel), by decide +kernel⟩), (List.mem_filter.mpr ⟨List.mem_of_getElem? (i := 768) (by decide +kernel), by decide +kernel⟩), (List.mem_filter.mpr ⟨List.mem_of_getElem? (i := 34) (by decide +kernel), by decide +kernel⟩)⟩
theorem mfX6_told : q_MF mX6_told 2 := ⟨by decide +kernel, ⟨by decide +kernel, by decide +kernel, by decide +kernel⟩, (List.mem_filter.mpr ⟨List.mem_of_getElem? (i := 50) (by decide +kernel), by decide +kernel⟩), (List.mem_filter.mpr ⟨List.mem_of_getElem? (i := 765) (by decide +kernel), by decide +kernel⟩)⟩
theorem mfX6_hit : q_MF mX6_hit 1 := ⟨by decide +kernel, ⟨by decide +kernel, by decide +kernel, by decide +kernel⟩, (List.mem_filter.mpr ⟨List.mem_of_getElem? (i := 50) (by decide +kernel), by decide +kernel⟩), (List.mem_filter.mpr ⟨List.mem_of_getElem? (i := 773) (by decide +kernel), by decide +kernel⟩)⟩
theorem mfX6_state : q_MF mX6_state 2 := ⟨by decide +kernel, ⟨by decide +kernel, by decide +kernel, by decide +kernel⟩, (List.mem_filter.mpr ⟨List.mem_of_getElem? (i := 50) (by decide +kernel), by decide +kernel⟩), (List.mem_filter.mpr ⟨List.mem_of_getElem? (i := 777) (by decide +kernel), by decide +kernel⟩)⟩
theorem mfX6_count : q_MF mX6_count 1 := ⟨by decide +kernel, ⟨by decide +kernel, by decide +kernel, by decide +kernel⟩, (List.mem_filter.mpr ⟨List.mem_of_getElem? (i := 50) (by decide +kernel), by decide +kernel⟩), (List.mem_filter.mpr ⟨List.mem_of_getElem? (i := 781) (by decide +kernel), by decide +kernel⟩)⟩
theorem mfX6_found : q_MF mX6_found 1 := ⟨by decide +kernel, ⟨by decide +kernel, by decide +kernel, by decide +kernel⟩, (List.mem_filter.mpr ⟨List.mem_of_getElem? (i := 50) (by decide +kernel), by decide +kernel⟩), (List.mem_filter.mpr ⟨List.mem_of_getElem? (i := 785) (by decide +kernel), by decide +kernel⟩)⟩
theorem flX6_154 : q_FL RX6 154 6 RX6 TX6 32 27 := ⟨(List.mem_filter.mpr ⟨List.mem_of_getElem? (i := 625) (by decide +kernel), by decide +kernel⟩), by decide, rfl, iwX6⟩
theorem plX6_27 : q_PL RX6 TX6 32 27 .int false := ⟨rfl, by decide +kernel, ⟨tyX6, tyX6_ok⟩, nmX6⟩
theorem mfX6_type : q_MF mX6_type 2 := ⟨by decide +kernel, ⟨by decide +kernel, by decide +kernel, by decide +kernel⟩, (List.mem_filter.mpr ⟨List.mem_of_getElem? (i := 50) (by decide +kernel), by decide +kernel⟩), (List.mem_filter.mpr ⟨List.mem_of_getElem? (i := 789) (by decide +kernel), by decide +kernel⟩)⟩
theorem flX6_157 : q_FL RX6 157 6 RX6 TX6 32 28 := ⟨(List.mem_filter.mpr ⟨List.mem_of_getElem? (i := 626) (by decide +kernel), by decide +kernel⟩), by decide, rfl, iwX6⟩
theorem plX6_28 : q_PL RX6 TX6 32 28 .int false := ⟨rfl, by decide +kernel, ⟨tyX6, tyX6_ok⟩, nmX6⟩
theorem mfX6_next : q_MF mX6_next 0 := ⟨by decide +kernel, ⟨by decide +kernel, by decide +kernel, by decide +kernel⟩, (List.mem_filter.mpr ⟨List.mem_of_getElem? (i := 50) (by decide +kernel), by decide +kernel⟩), (List.mem_filter.mpr ⟨List.mem_of_getElem? (i := 802) (by decide +kernel), by decide +kernel⟩)⟩
theorem lkX6_160 : q_LV RX6 160 yX6_next := ⟨(List.mem_filter.mpr ⟨List.mem_of_getElem? (i := 799) (by decide +kernel), by decide +kernel⟩), (List.mem_filter.mpr ⟨List.mem_of_getElem? (i := 801) (by decide +kernel), by decide +kernel⟩), (List.mem_filter.mpr ⟨List.mem_of_getElem? (i := 36) (by decide +kernel), by decide +kernel⟩)⟩
theorem mfX6_readClause : q_MF mX6_readClause 0 := ⟨by decide +kernel, ⟨by decide +kernel, by decide +kernel, by decide +kernel⟩, (List.mem_filter.mpr ⟨List.mem_of_getElem? (i := 50) (by decide +kernel), by decide +kernel⟩), (List.mem_filter.mpr ⟨List.mem_of_getElem? (i := 806) (by decide +kernel), by decide +kernel⟩)⟩
theorem lkX6_163 : q_LV RX6 163 yX6_readClause := ⟨(List.mem_filter.mpr ⟨List.mem_of_getElem? (i := 803) (by decide +kernel), by decide +kernel⟩), (List.mem_filter.mpr ⟨List.mem_of_getElem? (i := 805) (by decide +kernel), by decide +kernel⟩), (List.mem_filter.mpr ⟨List.mem_of_getElem? (i := 37) (by decide +kernel), by decide +kernel⟩)⟩
theorem mfX6_readLaws : q_MF mX6_readLaws 0 := ⟨by decide +kernel, ⟨by decide +kernel, by decide +kernel, by decide +kernel⟩, (List.mem_filter.mpr ⟨List.mem_of_getElem? (i := 50) (by decide +kernel), by decide +kernel⟩), (List.mem_filter.mpr ⟨List.mem_of_getElem? (i := 798) (by decide +kernel), by decide +kernel⟩)⟩
theorem lkX6_167 : q_LV RX6 167 yX6_readLaws := ⟨(List.mem_filter.mpr ⟨List.mem_of_getElem? (i := 795) (by decide +kernel), by decide +kernel⟩), (List.mem_filter.mpr ⟨List.mem_of_getElem? (i := 797) (by decide +kernel), by decide +kernel⟩), (List.mem_filter.mpr ⟨List.mem_of_getElem? (i := 35) (by decide +kernel), by decide +kernel⟩)⟩
theorem mfX6_laws : q_MF mX6_laws 0 := ⟨by decide +kernel, ⟨by decide +kernel, by decide +kernel, by decide +kernel⟩, (List.mem_filter.mpr ⟨List.mem_of_getElem? (i := 50) (by decide +kernel), by decide +kernel⟩), (List.mem_filter.mpr ⟨List.mem_of_getElem? (i := 794) (by decide +kernel), by decide +kernel⟩)⟩
theorem lkX6_170 : q_LS RX6 170 yX6_held := ⟨(List.mem_filter.mpr ⟨List.mem_of_getElem? (i := 811) (by decide +kernel), by decide +kernel⟩), (List.mem_filter.mpr ⟨List.mem_of_getElem? (i := 812) (by decide +kernel), by decide +kernel⟩)⟩
theorem mfX6_settle : q_MF mX6_settle 0 := ⟨by decide +kernel, ⟨by decide +kernel, by decide +kernel, by decide +kernel⟩, (List.mem_filter.mpr ⟨List.mem_of_getElem? (i := 50) (by decide +kernel), by decide +kernel⟩), (List.mem_filter.mpr ⟨List.mem_of_getElem? (i := 810) (by decide +kernel), by decide +kernel⟩)⟩
theorem lkX6_174 : q_LS RX6 174 yX6_isFirst := ⟨(List.mem_filter.mpr ⟨List.mem_of_getElem? (i := 825) (by decide +kernel), by decide +kernel⟩), (List.mem_filter.mpr ⟨List.mem_of_getElem? (i := 826) (by decide +kernel), by decide +kernel⟩)⟩
theorem lkX6_177 : q_LS RX6 177 yX6_from := ⟨(List.mem_filter.mpr ⟨List.mem_of_getElem? (i := 828) (by decide +kernel), by decide +kernel⟩), (List.mem_filter.mpr ⟨List.mem_of_getElem? (i := 829) (by decide +kernel), by decide +kernel⟩)⟩
theorem mfX6_playerOf : q_MF mX6_playerOf 2 := ⟨by decide +kernel, ⟨by decide +kernel, by decide +kernel, by decide +kernel⟩, (List.mem_filter.mpr ⟨List.mem_of_getElem? (i := 50) (by decide +kernel), by decide +kernel⟩), (List.mem_filter.mpr ⟨List.mem_of_getElem? (i := 824) (by decide +kernel), by decide +kernel⟩)⟩
theorem lkX6_181 : q_LS RX6 181 yX6_isMatch := ⟨(List.mem_filter.mpr ⟨List.mem_of_getElem? (i := 818) (by decide +kernel), by decide +kernel⟩), (List.mem_filter.mpr ⟨List.mem_of_getElem? (i := 819) (by decide +kernel), by decide +kernel⟩)⟩
theorem lkX6_184 : q_LV RX6 184 yX6_playerOf := ⟨(List.mem_filter.mpr ⟨List.mem_of_getElem? (i := 821) (by decide +kernel), by decide +kernel⟩), (List.mem_filter.mpr ⟨List.mem_of_getElem? (i := 823) (by decide +kernel), by decide +kernel⟩), (List.mem_filter.mpr ⟨List.mem_of_getElem? (i := 38) (by decide +kernel), by decide +kernel⟩)⟩
theorem mfX6_match : q_MF mX6_match 2 := ⟨by decide +kernel, ⟨by decide +kernel, by decide +kernel, by decide +kernel⟩, (List.mem_filter.mpr ⟨List.mem_of_getElem? (i := 50) (by decide +kernel), by decide +kernel⟩), (List.mem_filter.mpr ⟨List.mem_of_getElem? (i := 817) (by decide +kernel), by decide +kernel⟩)⟩
theorem mfX6_win : q_MF mX6_win 2 := ⟨by decide +kernel, ⟨by decide +kernel, by decide +kernel, by decide +kernel⟩, (List.mem_filter.mpr ⟨List.mem_of_getElem? (i := 50) (by decide +kernel), by decide +kernel⟩), (List.mem_filter.mpr ⟨List.mem_of_getElem? (i := 834) (by decide +kernel), by decide +kernel⟩)⟩
theorem mfX6_unwin : q_MF mX6_unwin 1 := ⟨by decide +kernel, ⟨by decide +kernel, by decide +kernel, by decide +kernel⟩, (List.mem_filter.mpr ⟨List.mem_of_getElem? (i := 50) (by decide +kernel), by decide +kernel⟩), (List.mem_filter.mpr ⟨List.mem_of_getElem? (i := 838) (by decide +kernel), by decide +kernel⟩)⟩
theorem mfX6_champion : q_MF mX6_champion 0 := ⟨by decide +kernel, ⟨by decide +kernel, by decide +kernel, by decide +kernel⟩, (List.mem_filter.mpr ⟨List.mem_of_getElem? (i := 50) (by decide +kernel), by decide +kernel⟩), (List.mem_filter.mpr ⟨List.mem_of_getElem? (i := 842) (by decide +kernel), by decide +kernel⟩)⟩
theorem mfX6_laid : q_MF mX6_laid 0 := ⟨by decide +kernel, ⟨by decide +kernel, by decide +kernel, by decide +kernel⟩, (List.mem_filter.mpr ⟨List.mem_of_getElem? (i := 50) (by decide +kernel), by decide +kernel⟩), (List.mem_filter.mpr ⟨List.mem_of_getElem? (i := 850) (by decide +kernel), by decide +kernel⟩)⟩
theorem lkX6_187 : q_LV RX6 187 yX6_laid := ⟨(List.mem_filter.mpr ⟨List.mem_of_getElem? (i := 847) (by decide +kernel), by decide +kernel⟩), (List.mem_filter.mpr ⟨List.mem_of_getElem? (i := 849) (by decide +kernel), by decide +kernel⟩), (List.mem_filter.mpr ⟨List.mem_of_getElem? (i := 39) (by decide +kernel), by decide +kernel⟩)⟩
theorem mfX6_lawns : q_MF mX6_lawns 1 := ⟨by decide +kernel, ⟨by decide +kernel, by decide +kernel, by decide +kernel⟩, (List.mem_filter.mpr ⟨List.mem_of_getElem? (i := 50) (by decide +kernel), by decide +kernel⟩), (List.mem_filter.mpr ⟨List.mem_of_getElem? (i := 846) (by decide +kernel), by decide +kernel⟩)⟩
theorem mfX6_isIn : q_MF mX6_isIn 2 := ⟨by decide +kernel, ⟨by decide +kernel, by decide +kernel, by decide +kernel⟩, (List.mem_filter.mpr ⟨List.mem_of_getElem? (i := 50) (by decide +kernel), by decide +kernel⟩), (List.mem_filter.mpr ⟨List.mem_of_getElem? (i := 862) (by decide +kernel), by decide +kernel⟩)⟩
theorem lkX6_190 : q_LV RX6 190 yX6_isIn := ⟨(List.mem_filter.mpr ⟨List.mem_of_getElem? (i := 859) (by decide +kernel), by decide +kernel⟩), (List.mem_filter.mpr ⟨List.mem_of_getElem? (i := 861) (by decide +kernel), by decide +kernel⟩), (List.mem_filter.mpr ⟨List.mem_of_getElem? (i := 41) (by decide +kernel), by decide +kernel⟩)⟩
theorem mfX6_isFree : q_MF mX6_isFree 2 := ⟨by decide +kernel, ⟨by decide +kernel, by decide +kernel, by decide +kernel⟩, (List.mem_filter.mpr ⟨List.mem_of_getElem? (i := 50) (by decide +kernel), by decide +kernel⟩), (List.mem_filter.mpr ⟨List.mem_of_getElem? (i := 858) (by decide +kernel), by decide +kernel⟩)⟩
theorem lkX6_193 : q_LV RX6 193 yX6_isFree := ⟨(List.mem_filter.mpr ⟨List.mem_of_getElem? (i := 855) (by decide +kernel), by decide +kernel⟩), (List.mem_filter.mpr ⟨List.mem_of_getElem? (i := 857) (by decide +kernel), by decide +kernel⟩), (List.mem_filter.mpr ⟨List.mem_of_getElem? (i := 40) (by decide +kernel), by decide +kernel⟩)⟩
theorem mfX6_lay : q_MF mX6_lay 1 := ⟨by decide +kernel, ⟨by decide +kernel, by decide +kernel, by decide +kernel⟩, (List.mem_filter.mpr ⟨List.mem_of_getElem? (i := 50) (by decide +kernel), by decide +kernel⟩), (List.mem_filter.mpr ⟨List.mem_of_getElem? (i := 854) (by decide +kernel), by decide +kernel⟩)⟩
theorem mfX6_hour : q_MF mX6_hour 1 := ⟨by decide +kernel, ⟨by decide +kernel, by decide +kernel, by decide +kernel⟩, (List.mem_filter.mpr ⟨List.mem_of_getElem? (i := 50) (by decide +kernel), by decide +kernel⟩), (List.mem_filter.mpr ⟨List.mem_of_getElem? (i := 866) (by decide +kernel), by decide +kernel⟩)⟩
theorem mfX6_clear : q_MF mX6_clear 0 := ⟨by decide +kernel, ⟨by decide +kernel, by decide +kernel, by decide +kernel⟩, (List.mem_filter.mpr ⟨List.mem_of_getElem? (i := 50) (by decide +kernel), by decide +kernel⟩), (List.mem_filter.mpr ⟨List.mem_of_getElem? (i := 870) (by decide +kernel), by decide +kernel⟩)⟩
theorem lkL_9 : q_LI RL 9 yX5_init := ⟨(List.mem_filter.mpr ⟨List.mem_of_getElem? (i := 54) (by decide +kernel), by decide +kernel⟩), (List.mem_filter.mpr ⟨List.mem_of_getElem? (i := 55) (by decide +kernel), by decide +kernel⟩), rfl⟩
theorem lkL_12 : q_LI RL 12 yX6_init := ⟨(List.mem_filter.mpr ⟨List.mem_of_getElem? (i := 594) (by decide +kernel), by decide +kernel⟩), (List.mem_filter.mpr ⟨List.mem_of_getElem? (i := 595) (by decide +kernel), by decide +kernel⟩), rfl⟩
theorem lkL_13 : q_LV RL 13 yX5_game := ⟨(List.mem_filter.mpr ⟨List.mem_of_getElem? (i := 212) (by decide +kernel), by decide +kernel⟩), (List.mem_filter.mpr ⟨List.mem_of_getElem? (i := 213) (by decide +kernel), by decide +kernel⟩), (List.mem_filter.mpr ⟨List.mem_of_getElem? (i := 214) (by decide +kernel), by decide +kernel⟩)⟩
theorem lkL_17 : q_LV RL 17 yX6_game := ⟨(List.mem_filter.mpr ⟨List.mem_of_getElem? (i := 714) (by decide +kernel), by decide +kernel⟩), (List.mem_filter.mpr ⟨List.mem_of_getElem? (i := 715) (by decide +kernel), by decide +kernel⟩), (List.mem_filter.mpr ⟨List.mem_of_getElem? (i := 716) (by decide +kernel), by decide +kernel⟩)⟩
theorem lkL_18 : q_LV RL 18 yX5_stroke := ⟨(List.mem_filter.mpr ⟨List.mem_of_getElem? (i := 254) (by decide +kernel), by decide +kernel⟩), (List.mem_filter.mpr ⟨List.mem_of_getElem? (i := 255) (by decide +kernel), by decide +kernel⟩), (List.mem_filter.mpr ⟨List.mem_of_getElem? (i := 256) (by decide +kernel), by decide +kernel⟩)⟩
theorem lkL_21 : q_LV RL 21 yX6_stroke := ⟨(List.mem_filter.mpr ⟨List.mem_of_getElem? (i := 722) (by decide +kernel), by decide +kernel⟩), (List.mem_filter.mpr ⟨List.mem_of_getElem? (i := 723) (by decide +kernel), by decide +kernel⟩), (List.mem_filter.mpr ⟨List.mem_of_getElem? (i := 724) (by decide +kernel), by decide +kernel⟩)⟩
theorem lkL_22 : q_LV RL 22 yX5_told := ⟨(List.mem_filter.mpr ⟨List.mem_of_getElem? (i := 326) (by decide +kernel), by decide +kernel⟩), (List.mem_filter.mpr ⟨List.mem_of_getElem? (i := 327) (by decide +kernel), by decide +kernel⟩), (List.mem_filter.mpr ⟨List.mem_of_getElem? (i := 328) (by decide +kernel), by decide +kernel⟩)⟩
theorem lkL_25 : q_LV RL 25 yX6_told := ⟨(List.mem_filter.mpr ⟨List.mem_of_getElem? (i := 762) (by decide +kernel), by decide +kernel⟩), (List.mem_filter.mpr ⟨List.mem_of_getElem? (i := 763) (by decide +kernel), by decide +kernel⟩), (List.mem_filter.mpr ⟨List.mem_of_getElem? (i := 764) (by decide +kernel), by decide +kernel⟩)⟩
theorem lkL_26 : q_LV RL 26 yX5_hit := ⟨(List.mem_filter.mpr ⟨List.mem_of_getElem? (i := 339) (by decide +kernel), by decide +kernel⟩), (List.mem_filter.mpr ⟨List.mem_of_getElem? (i := 340) (by decide +kernel), by decide +kernel⟩), (List.mem_filter.mpr ⟨List.mem_of_getElem? (i := 341) (by decide +kernel), by decide +kernel⟩)⟩
theorem lkL_30 : q_LV RL 30 yX6_hit := ⟨(List.mem_filter.mpr ⟨List.mem_of_getElem? (i := 770) (by decide +kernel), by decide +kernel⟩), (List.mem_filter.mpr ⟨List.mem_of_getElem? (i := 771) (by decide +kernel), by decide +kernel⟩), (List.mem_filter.mpr ⟨List.mem_of_getElem? (i := 772) (by decide +kernel), by decide +kernel⟩)⟩
theorem lkL_31 : q_LV RL 31 yX5_state := ⟨(List.mem_filter.mpr ⟨List.mem_of_getElem? (i := 347) (by decide +kernel), by decide +kernel⟩), (List.mem_filter.mpr ⟨List.mem_of_getElem? (i := 348) (by decide +kernel), by decide +kernel⟩), (List.mem_filter.mpr ⟨List.mem_of_getElem? (i := 349) (by decide +kernel), by decide +kernel⟩)⟩
theorem lkL_34 : q_LV RL 34 yX6_state := ⟨(List.mem_filter.mpr ⟨List.mem_of_getElem? (i := 774) (by decide +kernel), by decide +kernel⟩), (List.mem_filter.mpr ⟨List.mem_of_getElem? (i := 775) (by decide +kernel), by decide +kernel⟩), (List.mem_filter.mpr ⟨List.mem_of_getElem? (i := 776) (by decide +kernel), by decide +kernel⟩)⟩
theorem lkL_35 : q_LV RL 35 yX5_found := ⟨(List.mem_filter.mpr ⟨List.mem_of_getElem? (i := 368) (by decide +kernel), by decide +kernel⟩), (List.mem_filter.mpr ⟨List.mem_of_getElem? (i := 369) (by decide +kernel), by decide +kernel⟩), (List.mem_filter.mpr ⟨List.mem_of_getElem? (i := 370) (by decide +kernel), by decide +kernel⟩)⟩
theorem lkL_38 : q_LV RL 38 yX6_found := ⟨(List.mem_filter.mpr ⟨List.mem_of_getElem? (i := 782) (by decide +kernel), by decide +kernel⟩), (List.mem_filter.mpr ⟨List.mem_of_getElem? (i := 783) (by decide +kernel), by decide +kernel⟩), (List.mem_filter.mpr ⟨List.mem_of_getElem? (i := 784) (by decide +kernel), by decide +kernel⟩)⟩
theorem lkL_41 : q_LV RL 41 yX5_type := ⟨(List.mem_filter.mpr ⟨List.mem_of_getElem? (i := 389) (by decide +kernel), by decide +kernel⟩), (List.mem_filter.mpr ⟨List.mem_of_getElem? (i := 390) (by decide +kernel), by decide +kernel⟩), (List.mem_filter.mpr ⟨List.mem_of_getElem? (i := 391) (by decide +kernel), by decide +kernel⟩)⟩
theorem lkL_45 : q_LV RL 45 yX6_type := ⟨(List.mem_filter.mpr ⟨List.mem_of_getElem? (i := 786) (by decide +kernel), by decide +kernel⟩), (List.mem_filter.mpr ⟨List.mem_of_getElem? (i := 787) (by decide +kernel), by decide +kernel⟩), (List.mem_filter.mpr ⟨List.mem_of_getElem? (i := 788) (by decide +kernel), by decide +kernel⟩)⟩
theorem lkL_46 : q_LV RL 46 yX5_laws := ⟨(List.mem_filter.mpr ⟨List.mem_of_getElem? (i := 402) (by decide +kernel), by decide +kernel⟩), (List.mem_filter.mpr ⟨List.mem_of_getElem? (i := 403) (by decide +kernel), by decide +kernel⟩), (List.mem_filter.mpr ⟨List.mem_of_getElem? (i := 404) (by decide +kernel), by decide +kernel⟩)⟩
theorem lkL_50 : q_LV RL 50 yX6_laws := ⟨(List.mem_filter.mpr ⟨List.mem_of_getElem? (i := 791) (by decide +kernel), by decide +kernel⟩), (List.mem_filter.mpr ⟨List.mem_of_getElem? (i := 792) (by decide +kernel), by decide +kernel⟩), (List.mem_filter.mpr ⟨List.mem_of_getElem? (i := 793) (by decide +kernel), by decide +kernel⟩)⟩
theorem lkL_51 : q_LV RL 51 yX5_count := ⟨(List.mem_filter.mpr ⟨List.mem_of_getElem? (i := 442) (by decide +kernel), by decide +kernel⟩), (List.mem_filter.mpr ⟨List.mem_of_getElem? (i := 443) (by decide +kernel), by decide +kernel⟩), (List.mem_filter.mpr ⟨List.mem_of_getElem? (i := 444) (by decide +kernel), by decide +kernel⟩)⟩
theorem lkL_54 : q_LV RL 54 yX6_count := ⟨(List.mem_filter.mpr ⟨List.mem_of_getElem? (i := 778) (by decide +kernel), by decide +kernel⟩), (List.mem_filter.mpr ⟨List.mem_of_getElem? (i := 779) (by decide +kernel), by decide +kernel⟩), (List.mem_filter.mpr ⟨List.mem_of_getElem? (i := 780) (by decide +kernel), by decide +kernel⟩)⟩
theorem lkL_55 : q_LV RL 55 yX5_index := ⟨(List.mem_filter.mpr ⟨List.mem_of_getElem? (i := 454) (by decide +kernel), by decide +kernel⟩), (List.mem_filter.mpr ⟨List.mem_of_getElem? (i := 455) (by decide +kernel), by decide +kernel⟩), (List.mem_filter.mpr ⟨List.mem_of_getElem? (i := 456) (by decide +kernel), by decide +kernel⟩)⟩
theorem lkL_58 : q_LV RL 58 yX6_index := ⟨(List.mem_filter.mpr ⟨List.mem_of_getElem? (i := 696) (by decide +kernel), by decide +kernel⟩), (List.mem_filter.mpr ⟨List.mem_of_getElem? (i := 697) (by decide +kernel), by decide +kernel⟩), (List.mem_filter.mpr ⟨List.mem_of_getElem? (i := 698) (by decide +kernel), by decide +kernel⟩)⟩
theorem lkL_59 : q_LV RL 59 yX5_handicap := ⟨(List.mem_filter.mpr ⟨List.mem_of_getElem? (i := 463) (by decide +kernel), by decide +kernel⟩), (List.mem_filter.mpr ⟨List.mem_of_getElem? (i := 464) (by decide +kernel), by decide +kernel⟩), (List.mem_filter.mpr ⟨List.mem_of_getElem? (i := 465) (by decide +kernel), by decide +kernel⟩)⟩
theorem lkL_62 : q_LV RL 62 yX6_handicap := ⟨(List.mem_filter.mpr ⟨List.mem_of_getElem? (i := 706) (by decide +kernel), by decide +kernel⟩), (List.mem_filter.mpr ⟨List.mem_of_getElem? (i := 707) (by decide +kernel), by decide +kernel⟩), (List.mem_filter.mpr ⟨List.mem_of_getElem? (i := 708) (by decide +kernel), by decide +kernel⟩)⟩
theorem lkL_63 : q_LV RL 63 yX5_settle := ⟨(List.mem_filter.mpr ⟨List.mem_of_getElem? (i := 468) (by decide +kernel), by decide +kernel⟩), (List.mem_filter.mpr ⟨List.mem_of_getElem? (i := 469) (by decide +kernel), by decide +kernel⟩), (List.mem_filter.mpr ⟨List.mem_of_getElem? (i := 470) (by decide +kernel), by decide +kernel⟩)⟩
theorem lkL_66 : q_LV RL 66 yX6_settle := ⟨(List.mem_filter.mpr ⟨List.mem_of_getElem? (i := 807) (by decide +kernel), by decide +kernel⟩), (List.mem_filter.mpr ⟨List.mem_of_getElem? (i := 808) (by decide +kernel), by decide +kernel⟩), (List.mem_filter.mpr ⟨List.mem_of_getElem? (i := 809) (by decide +kernel), by decide +kernel⟩)⟩
theorem lkL_67 : q_LV RL 67 yX5_match := ⟨(List.mem_filter.mpr ⟨List.mem_of_getElem? (i := 494) (by decide +kernel), by decide +kernel⟩), (List.mem_filter.mpr ⟨List.mem_of_getElem? (i := 495) (by decide +kernel), by decide +kernel⟩), (List.mem_filter.mpr ⟨List.mem_of_getElem? (i := 496) (by decide +kernel), by decide +kernel⟩)⟩
theorem lkL_70 : q_LV RL 70 yX6_match := ⟨(List.mem_filter.mpr ⟨List.mem_of_getElem? (i := 814) (by decide +kernel), by decide +kernel⟩), (List.mem_filter.mpr ⟨List.mem_of_getElem? (i := 815) (by decide +kernel), by decide +kernel⟩), (List.mem_filter.mpr ⟨List.mem_of_getElem? (i := 816) (by decide +kernel), by decide +kernel⟩)⟩
theorem lkL_71 : q_LV RL 71 yX5_win := ⟨(List.mem_filter.mpr ⟨List.mem_of_getElem? (i := 519) (by decide +kernel), by decide +kernel⟩), (List.mem_filter.mpr ⟨List.mem_of_getElem? (i := 520) (by decide +kernel), by decide +kernel⟩), (List.mem_filter.mpr ⟨List.mem_of_getElem? (i := 521) (by decide +kernel), by decide +kernel⟩)⟩
theorem lkL_74 : q_LV RL 74 yX6_win := ⟨(List.mem_filter.mpr ⟨List.mem_of_getElem? (i := 831) (by decide +kernel), by decide +kernel⟩), (List.mem_filter.mpr ⟨List.mem_of_getElem? (i := 832) (by decide +kernel), by decide +kernel⟩), (List.mem_filter.mpr ⟨List.mem_of_getElem? (i := 833) (by decide +kernel), by decide +kernel⟩)⟩
theorem lkL_75 : q_LV RL 75 yX5_unwin := ⟨(List.mem_filter.mpr ⟨List.mem_of_getElem? (i := 529) (by decide +kernel), by decide +kernel⟩), (List.mem_filter.mpr ⟨List.mem_of_getElem? (i := 530) (by decide +kernel), by decide +kernel⟩), (List.mem_filter.mpr ⟨List.mem_of_getElem? (i := 531) (by decide +kernel), by decide +kernel⟩)⟩
theorem lkL_78 : q_LV RL 78 yX6_unwin := ⟨(List.mem_filter.mpr ⟨List.mem_of_getElem? (i := 835) (by decide +kernel), by decide +kernel⟩), (List.mem_filter.mpr ⟨List.mem_of_getElem? (i := 836) (by decide +kernel), by decide +kernel⟩), (List.mem_filter.mpr ⟨List.mem_of_getElem? (i := 837) (by decide +kernel), by decide +kernel⟩)⟩
theorem lkL_79 : q_LV RL 79 yX5_champion := ⟨(List.mem_filter.mpr ⟨List.mem_of_getElem? (i := 539) (by decide +kernel), by decide +kernel⟩), (List.mem_filter.mpr ⟨List.mem_of_getElem? (i := 540) (by decide +kernel), by decide +kernel⟩), (List.mem_filter.mpr ⟨List.mem_of_getElem? (i := 541) (by decide +kernel), by decide +kernel⟩)⟩
theorem lkL_82 : q_LV RL 82 yX6_champion := ⟨(List.mem_filter.mpr ⟨List.mem_of_getElem? (i := 839) (by decide +kernel), by decide +kernel⟩), (List.mem_filter.mpr ⟨List.mem_of_getElem? (i := 840) (by decide +kernel), by decide +kernel⟩), (List.mem_filter.mpr ⟨List.mem_of_getElem? (i := 841) (by decide +kernel), by decide +kernel⟩)⟩
theorem lkL_83 : q_LV RL 83 yX5_lawns := ⟨(List.mem_filter.mpr ⟨List.mem_of_getElem? (i := 547) (by decide +kernel), by decide +kernel⟩), (List.mem_filter.mpr ⟨List.mem_of_getElem? (i := 548) (by decide +kernel), by decide +kernel⟩), (List.mem_filter.mpr ⟨List.mem_of_getElem? (i := 549) (by decide +kernel), by decide +kernel⟩)⟩
theorem lkL_86 : q_LV RL 86 yX6_lawns := ⟨(List.mem_filter.mpr ⟨List.mem_of_getElem? (i := 843) (by decide +kernel), by decide +kernel⟩), (List.mem_filter.mpr ⟨List.mem_of_getElem? (i := 844) (by decide +kernel), by decide +kernel⟩), (List.mem_filter.mpr ⟨List.mem_of_getElem? (i := 845) (by decide +kernel), by decide +kernel⟩)⟩
theorem lkL_87 : q_LV RL 87 yX5_lay := ⟨(List.mem_filter.mpr ⟨List.mem_of_getElem? (i := 559) (by decide +kernel), by decide +kernel⟩), (List.mem_filter.mpr ⟨List.mem_of_getElem? (i := 560) (by decide +kernel), by decide +kernel⟩), (List.mem_filter.mpr ⟨List.mem_of_getElem? (i := 561) (by decide +kernel), by decide +kernel⟩)⟩
theorem lkL_90 : q_LV RL 90 yX6_lay := ⟨(List.mem_filter.mpr ⟨List.mem_of_getElem? (i := 851) (by decide +kernel), by decide +kernel⟩), (List.mem_filter.mpr ⟨List.mem_of_getElem? (i := 852) (by decide +kernel), by decide +kernel⟩), (List.mem_filter.mpr ⟨List.mem_of_getElem? (i := 853) (by decide +kernel), by decide +kernel⟩)⟩
theorem lkL_91 : q_LV RL 91 yX5_hour := ⟨(List.mem_filter.mpr ⟨List.mem_of_getElem? (i := 576) (by decide +kernel), by decide +kernel⟩), (List.mem_filter.mpr ⟨List.mem_of_getElem? (i := 577) (by decide +kernel), by decide +kernel⟩), (List.mem_filter.mpr ⟨List.mem_of_getElem? (i := 578) (by decide +kernel), by decide +kernel⟩)⟩
theorem lkL_94 : q_LV RL 94 yX6_hour := ⟨(List.mem_filter.mpr ⟨List.mem_of_getElem? (i := 863) (by decide +kernel), by decide +kernel⟩), (List.mem_filter.mpr ⟨List.mem_of_getElem? (i := 864) (by decide +kernel), by decide +kernel⟩), (List.mem_filter.mpr ⟨List.mem_of_getElem? (i := 865) (by decide +kernel), by decide +kernel⟩)⟩
theorem lkL_95 : q_LV RL 95 yX5_clear := ⟨(List.mem_filter.mpr ⟨List.mem_of_getElem? (i := 584) (by decide +kernel), by decide +kernel⟩), (List.mem_filter.mpr ⟨List.mem_of_getElem? (i := 585) (by decide +kernel), by decide +kernel⟩), (List.mem_filter.mpr ⟨List.mem_of_getElem? (i := 586) (by decide +kernel), by decide +kernel⟩)⟩
theorem lkL_98 : q_LV RL 98 yX6_clear := ⟨(List.mem_filter.mpr ⟨List.mem_of_getElem? (i := 867) (by decide +kernel), by decide +kernel⟩), (List.mem_filter.mpr ⟨List.mem_of_getElem? (i := 868) (by decide +kernel), by decide +kernel⟩), (List.mem_filter.mpr ⟨List.mem_of_getElem? (i := 869) (by decide +kernel), by decide +kernel⟩)⟩
end
section
-- GENERATED by wip/gen/gen.py: the walks
set_option maxRecDepth 100000 in
set_option maxHeartbeats 4000000 in
theorem t_X0_byteOf {X : q_Cx} {Λ : q_Lay} (σ : Sg) (p0 : Int64) (p1 : Int32) : q_Ex X mX0_byteOf Λ Λ [.long p0, .int p1] σ (f_X0_byteOf σ p0 p1) := by
  refine gq_ex mfX0_byteOf (Nat.le_of_ble_eq_true rfl) ?_
  show q_G X mX0_byteOf (q_QM X Λ mX0_byteOf) (Λ, 0, 0) σ 0 [(0, .long p0), (2, .int p1)] [] _
  unfold f_X0_byteOf
  refine gq_lload_n (i := 0) (pc' := 1) dX0_byteOf_0 rfl rfl ?_
  refine gq_bipush (v := 8) (pc' := 3) dX0_byteOf_1 rfl  (by decide) ?_
  refine gq_iload_n (i := 1) (pc' := 4) dX0_byteOf_3 rfl rfl ?_
  refine gq_imul (pc' := 5) dX0_byteOf_4 rfl ?_
  refine gq_lushr (pc' := 6) dX0_byteOf_5 rfl ?_
  refine gq_ldc2 (v := 255) (pc' := 9) dX0_byteOf_6 rfl (List.mem_filter.mpr ⟨List.mem_of_getElem? (i := 401) (by decide +kernel), by decide +kernel⟩) ?_
  refine gq_land (pc' := 10) dX0_byteOf_9 rfl ?_
  refine gq_l2i (pc' := 11) dX0_byteOf_10 rfl ?_
  exact gq_iret dX0_byteOf_11 rfl rfl rfl
set_option maxRecDepth 100000 in
set_option maxHeartbeats 4000000 in
theorem t_X5_within {X : q_Cx} {Λ : q_Lay} (σ : Sg) (p0 : Int32) (p1 : Int32) (p2 : Int32) : q_Ex X mX5_within Λ Λ [.int p0, .int p1, .int p2] σ (f_X5_within σ p0 p1 p2) := by
  refine gq_ex mfX5_within (Nat.le_of_ble_eq_true rfl) ?_
  show q_G X mX5_within (q_QM X Λ mX5_within) (Λ, 0, 0) σ 0 [(0, .int p0), (1, .int p1), (2, .int p2)] [] _
  unfold f_X5_within
  refine gq_iload_n (i := 0) (pc' := 1) dX5_within_0 rfl rfl ?_
  refine gq_iload_n (i := 1) (pc' := 2) dX5_within_1 rfl rfl ?_
  refine gq_icmp_lt (pc' := 5) (tgt := 14) dX5_within_2 rfl (by decide) (fun c1 => ?_) (fun c1 => ?_)
  · refine gq_iconst (v := 0) (pc' := 15) dX5_within_14 rfl  (by decide) ?_
    exact gq_zret dX5_within_15 rfl rfl rfl rfl
  · refine gq_iload_n (i := 0) (pc' := 6) dX5_within_5 rfl rfl ?_
    refine gq_iload_n (i := 2) (pc' := 7) dX5_within_6 rfl rfl ?_
    refine gq_icmp_gt (pc' := 10) (tgt := 14) dX5_within_7 rfl (by decide) (fun c2 => ?_) (fun c2 => ?_)
    · refine gq_iconst (v := 0) (pc' := 15) dX5_within_14 rfl  (by decide) ?_
      exact gq_zret dX5_within_15 rfl rfl rfl rfl
    · refine gq_iconst (v := 1) (pc' := 11) dX5_within_10 rfl  (by decide) ?_
      refine gq_goto (pc' := 15) dX5_within_11 (by decide) ?_
      exact gq_zret dX5_within_15 rfl rfl rfl rfl
set_option maxRecDepth 100000 in
set_option maxHeartbeats 4000000 in
theorem t_X1_isMatch {X : q_Cx} {Λ : q_Lay} (σ : Sg) (p0 : Int32) : q_Ex X mX1_isMatch Λ Λ [.int p0] σ (f_X1_isMatch σ p0) := by
  refine gq_ex mfX1_isMatch (Nat.le_of_ble_eq_true rfl) ?_
  show q_G X mX1_isMatch (q_QM X Λ mX1_isMatch) (Λ, 0, 0) σ 0 [(0, .int p0)] [] _
  unfold f_X1_isMatch
  refine gq_iload_n (i := 0) (pc' := 1) dX1_isMatch_0 rfl rfl ?_
  refine gq_iconst (v := 0) (pc' := 2) dX1_isMatch_1 rfl  (by decide) ?_
  refine gq_bipush (v := 14) (pc' := 4) dX1_isMatch_2 rfl  (by decide) ?_
  refine gq_calli (cs' := 0) (ns' := 0) (pc' := 7) (gq_siteSN (Mc := mX5_within) (As := [.int p0, .int (0 : Int32), .int (14 : Int32)]) (rest := []) dX1_isMatch_4 lkX1_28 mfX5_within (t_X5_within σ p0 (0 : Int32) (14 : Int32)) rfl ⟨Nat.le_of_ble_eq_true rfl, Nat.le_of_ble_eq_true rfl⟩ ⟨Nat.le_of_ble_eq_true rfl, Nat.le_of_ble_eq_true rfl⟩ rfl (Nat.le_of_ble_eq_true rfl)) rfl rfl rfl rfl (fun s1 r2 _ => ?_)
  exact gq_zretq dX1_isMatch_7 rfl rfl rfl
set_option maxRecDepth 100000 in
set_option maxHeartbeats 4000000 in
theorem t_X2_begins {X : q_Cx} {Λ : q_Lay} (σ : Sg) (p0 : Int32) : q_Ex X mX2_begins Λ Λ [.int p0] σ (f_X2_begins σ p0) := by
  refine gq_ex mfX2_begins (Nat.le_of_ble_eq_true rfl) ?_
  show q_G X mX2_begins (q_QM X Λ mX2_begins) (Λ, 0, 0) σ 0 [(0, .int p0)] [] _
  unfold f_X2_begins
  refine gq_iload_n (i := 0) (pc' := 1) dX2_begins_0 rfl rfl ?_
  refine gq_if_eq (pc' := 4) (tgt := 10) dX2_begins_1 rfl (by decide) (fun c1 => ?_) (fun c1 => ?_)
  · refine gq_iconst (v := 1) (pc' := 11) dX2_begins_10 rfl  (by decide) ?_
    refine gq_goto (pc' := 15) dX2_begins_11 (by decide) ?_
    exact gq_zret dX2_begins_15 rfl rfl rfl rfl
  · refine gq_iload_n (i := 0) (pc' := 5) dX2_begins_4 rfl rfl ?_
    refine gq_bipush (v := 6) (pc' := 7) dX2_begins_5 rfl  (by decide) ?_
    refine gq_icmp_ne (pc' := 10) (tgt := 14) dX2_begins_7 rfl (by decide) (fun c2 => ?_) (fun c2 => ?_)
    · refine gq_iconst (v := 1) (pc' := 11) dX2_begins_10 rfl  (by decide) ?_
      refine gq_goto (pc' := 15) dX2_begins_11 (by decide) ?_
      exact gq_zret dX2_begins_15 rfl rfl rfl rfl
    · refine gq_iconst (v := 0) (pc' := 15) dX2_begins_14 rfl  (by decide) ?_
      exact gq_zret dX2_begins_15 rfl rfl rfl rfl
set_option maxRecDepth 100000 in
set_option maxHeartbeats 4000000 in
theorem t_X4_held {X : q_Cx} {Λ : q_Lay} (σ : Sg) (p0 : Int32) (p1 : Int32) (p2 : Int32) : q_Ex X mX4_held Λ Λ [.int p0, .int p1, .int p2] σ (f_X4_held σ p0 p1 p2) := by
  refine gq_ex mfX4_held (Nat.le_of_ble_eq_true rfl) ?_
  show q_G X mX4_held (q_QM X Λ mX4_held) (Λ, 0, 0) σ 0 [(0, .int p0), (1, .int p1), (2, .int p2)] [] _
  unfold f_X4_held
  refine gq_iload_n (i := 1) (pc' := 1) dX4_held_0 rfl rfl ?_
  refine gq_iload_n (i := 2) (pc' := 2) dX4_held_1 rfl rfl ?_
  refine gq_iload_n (i := 0) (pc' := 3) dX4_held_2 rfl rfl ?_
  refine gq_mmin (pc' := 6) dX4_held_3 rfl lkX4_42 (Nat.le_of_ble_eq_true rfl) (Nat.le_of_ble_eq_true rfl) (Nat.le_of_ble_eq_true rfl) (Nat.le_of_ble_eq_true rfl) ?_
  refine gq_let (fun v1 => ?_)
  refine gq_mmax (pc' := 9) dX4_held_6 rfl lkX4_46 (Nat.le_of_ble_eq_true rfl) (Nat.le_of_ble_eq_true rfl) (Nat.le_of_ble_eq_true rfl) (Nat.le_of_ble_eq_true rfl) ?_
  refine gq_let (fun v2 => ?_)
  exact gq_iret dX4_held_9 rfl rfl rfl
set_option maxRecDepth 100000 in
set_option maxHeartbeats 4000000 in
theorem t_X5_isPlayer {X : q_Cx} {Λ : q_Lay} (σ : Sg) (p0 : Int32) : q_Ex X mX5_isPlayer Λ Λ [.int p0] σ (f_X5_isPlayer σ p0) := by
  refine gq_ex mfX5_isPlayer (Nat.le_of_ble_eq_true rfl) ?_
  show q_G X mX5_isPlayer (q_QM X Λ mX5_isPlayer) (Λ, 0, 0) σ 0 [(0, .int p0)] [] _
  unfold f_X5_isPlayer
  refine gq_iload_n (i := 0) (pc' := 1) dX5_isPlayer_0 rfl rfl ?_
  refine gq_iconst (v := 0) (pc' := 2) dX5_isPlayer_1 rfl  (by decide) ?_
  refine gq_bipush (v := 7) (pc' := 4) dX5_isPlayer_2 rfl  (by decide) ?_
  refine gq_calli (cs' := 0) (ns' := 0) (pc' := 7) (gq_siteS (Mc := mX5_within) (As := [.int p0, .int (0 : Int32), .int (7 : Int32)]) (rest := []) dX5_isPlayer_4 lkX5_54 mfX5_within (t_X5_within σ p0 (0 : Int32) (7 : Int32)) rfl ⟨Nat.le_of_ble_eq_true rfl, Nat.le_of_ble_eq_true rfl⟩ ⟨Nat.le_of_ble_eq_true rfl, Nat.le_of_ble_eq_true rfl⟩ rfl (Nat.le_of_ble_eq_true rfl)) rfl rfl rfl rfl (fun s1 r2 _ => ?_)
  exact gq_zretq dX5_isPlayer_7 rfl rfl rfl
set_option maxRecDepth 100000 in
set_option maxHeartbeats 4000000 in
theorem t_X5_at {X : q_Cx} {Λ : q_Lay} (a n : Nat) (ha : q_RA X Λ a n) (σ : Sg) (p1 : Int32) : q_Ex X mX5_at Λ Λ [.ref (xa X a), .int p1] σ (f_X5_at a n σ p1) := by
  refine gq_ex mfX5_at (Nat.le_of_ble_eq_true rfl) ?_
  show q_G X mX5_at (q_QM X Λ mX5_at) (Λ, 0, 0) σ 0 [(0, .ref (xa X a)), (1, .int p1)] [] _
  unfold f_X5_at
  refine gq_iload_n (i := 1) (pc' := 1) dX5_at_0 rfl rfl ?_
  refine gq_if_lt (pc' := 4) (tgt := 16) dX5_at_1 rfl (by decide) (fun c1 => ?_) (fun c1 => ?_)
  · refine gq_bipush (v := -4) (pc' := 18) dX5_at_16 rfl  (by decide) ?_
    exact gq_iret dX5_at_18 rfl rfl rfl
  · refine gq_iload_n (i := 1) (pc' := 5) dX5_at_4 rfl rfl ?_
    refine gq_aload_n (i := 0) (pc' := 6) dX5_at_5 rfl rfl ?_
    refine gq_alen (n := n) (pc' := 7) dX5_at_6 rfl ha rfl ?_
    refine gq_icmp_ge (pc' := 10) (tgt := 16) dX5_at_7 rfl (by decide) (fun c2 => ?_) (fun c2 => ?_)
    · refine gq_bipush (v := -4) (pc' := 18) dX5_at_16 rfl  (by decide) ?_
      exact gq_iret dX5_at_18 rfl rfl rfl
    · refine gq_aload_n (i := 0) (pc' := 11) dX5_at_10 rfl rfl ?_
      refine gq_iload_n (i := 1) (pc' := 12) dX5_at_11 rfl rfl ?_
      refine gq_iald (n := n) (pc' := 13) dX5_at_12 rfl ha (fun _ => ?_)
      refine gq_goto (pc' := 18) dX5_at_13 (by decide) ?_
      exact gq_iret dX5_at_18 rfl rfl rfl
set_option maxRecDepth 100000 in
set_option maxHeartbeats 4000000 in
theorem t_X5_set {X : q_Cx} {Λ : q_Lay} (a n : Nat) (ha : Λ[a]? = some (.inl (false, n))) (σ : Sg) (p1 : Int32) (p2 : Int32) : q_Ex X mX5_set Λ Λ [.ref (xa X a), .int p1, .int p2] σ (f_X5_set a n σ p1 p2) := by
  refine gq_ex mfX5_set (Nat.le_of_ble_eq_true rfl) ?_
  show q_G X mX5_set (q_QM X Λ mX5_set) (Λ, 0, 0) σ 0 [(0, .ref (xa X a)), (1, .int p1), (2, .int p2)] [] _
  unfold f_X5_set
  refine gq_iload_n (i := 1) (pc' := 1) dX5_set_0 rfl rfl ?_
  refine gq_if_lt (pc' := 4) (tgt := 14) dX5_set_1 rfl (by decide) (fun c1 => ?_) (fun c1 => ?_)
  · exact gq_vret dX5_set_14 rfl rfl rfl
  · refine gq_iload_n (i := 1) (pc' := 5) dX5_set_4 rfl rfl ?_
    refine gq_aload_n (i := 0) (pc' := 6) dX5_set_5 rfl rfl ?_
    refine gq_alen (n := n) (pc' := 7) dX5_set_6 rfl (Or.inl ha) rfl ?_
    refine gq_icmp_ge (pc' := 10) (tgt := 14) dX5_set_7 rfl (by decide) (fun c2 => ?_) (fun c2 => ?_)
    · exact gq_vret dX5_set_14 rfl rfl rfl
    · refine gq_aload_n (i := 0) (pc' := 11) dX5_set_10 rfl rfl ?_
      refine gq_iload_n (i := 1) (pc' := 12) dX5_set_11 rfl rfl ?_
      refine gq_iload_n (i := 2) (pc' := 13) dX5_set_12 rfl rfl ?_
      refine gq_iast (n := n) (pc' := 14) dX5_set_13 rfl ha (fun _ => ?_)
      refine gq_lets (fun s3 => ?_)
      exact gq_vret dX5_set_14 rfl rfl rfl
set_option maxRecDepth 100000 in
set_option maxHeartbeats 4000000 in
theorem t_X6_in {X : q_Cx} {Λ : q_Lay} (σ : Sg) (p0 : Int32) (p1 : Int32) (p2 : Int32) : q_Ex X mX6_in Λ Λ [.int p0, .int p1, .int p2] σ (f_X6_in σ p0 p1 p2) := by
  refine gq_ex mfX6_in (Nat.le_of_ble_eq_true rfl) ?_
  show q_G X mX6_in (q_QM X Λ mX6_in) (Λ, 0, 0) σ 0 [(0, .int p0), (1, .int p1), (2, .int p2)] [] _
  unfold f_X6_in
  refine gq_iload_n (i := 0) (pc' := 1) dX6_in_0 rfl rfl ?_
  refine gq_iload_n (i := 1) (pc' := 2) dX6_in_1 rfl rfl ?_
  refine gq_icmp_lt (pc' := 5) (tgt := 14) dX6_in_2 rfl (by decide) (fun c1 => ?_) (fun c1 => ?_)
  · refine gq_iconst (v := 0) (pc' := 15) dX6_in_14 rfl  (by decide) ?_
    exact gq_zret dX6_in_15 rfl rfl rfl rfl
  · refine gq_iload_n (i := 0) (pc' := 6) dX6_in_5 rfl rfl ?_
    refine gq_iload_n (i := 2) (pc' := 7) dX6_in_6 rfl rfl ?_
    refine gq_icmp_gt (pc' := 10) (tgt := 14) dX6_in_7 rfl (by decide) (fun c2 => ?_) (fun c2 => ?_)
    · refine gq_iconst (v := 0) (pc' := 15) dX6_in_14 rfl  (by decide) ?_
      exact gq_zret dX6_in_15 rfl rfl rfl rfl
    · refine gq_iconst (v := 1) (pc' := 11) dX6_in_10 rfl  (by decide) ?_
      refine gq_goto (pc' := 15) dX6_in_11 (by decide) ?_
      exact gq_zret dX6_in_15 rfl rfl rfl rfl
set_option maxRecDepth 100000 in
set_option maxHeartbeats 4000000 in
theorem t_X6_isPlayer {X : q_Cx} {Λ : q_Lay} (σ : Sg) (p0 : Int32) : q_Ex X mX6_isPlayer Λ Λ [.int p0] σ (f_X6_isPlayer σ p0) := by
  refine gq_ex mfX6_isPlayer (Nat.le_of_ble_eq_true rfl) ?_
  show q_G X mX6_isPlayer (q_QM X Λ mX6_isPlayer) (Λ, 0, 0) σ 0 [(0, .int p0)] [] _
  unfold f_X6_isPlayer
  refine gq_iload_n (i := 0) (pc' := 1) dX6_isPlayer_0 rfl rfl ?_
  refine gq_iconst (v := 0) (pc' := 2) dX6_isPlayer_1 rfl  (by decide) ?_
  refine gq_bipush (v := 7) (pc' := 4) dX6_isPlayer_2 rfl  (by decide) ?_
  refine gq_calli (cs' := 0) (ns' := 0) (pc' := 7) (gq_siteS (Mc := mX6_in) (As := [.int p0, .int (0 : Int32), .int (7 : Int32)]) (rest := []) dX6_isPlayer_4 lkX6_72 mfX6_in (t_X6_in σ p0 (0 : Int32) (7 : Int32)) rfl ⟨Nat.le_of_ble_eq_true rfl, Nat.le_of_ble_eq_true rfl⟩ ⟨Nat.le_of_ble_eq_true rfl, Nat.le_of_ble_eq_true rfl⟩ rfl (Nat.le_of_ble_eq_true rfl)) rfl rfl rfl rfl (fun s1 r2 _ => ?_)
  exact gq_zretq dX6_isPlayer_7 rfl rfl rfl
set_option maxRecDepth 100000 in
set_option maxHeartbeats 4000000 in
theorem t_X6_held {X : q_Cx} {Λ : q_Lay} (σ : Sg) (p0 : Int32) (p1 : Int32) (p2 : Int32) : q_Ex X mX6_held Λ Λ [.int p0, .int p1, .int p2] σ (f_X6_held σ p0 p1 p2) := by
  refine gq_ex mfX6_held (Nat.le_of_ble_eq_true rfl) ?_
  show q_G X mX6_held (q_QM X Λ mX6_held) (Λ, 0, 0) σ 0 [(0, .int p0), (1, .int p1), (2, .int p2)] [] _
  unfold f_X6_held
  refine gq_iload_n (i := 0) (pc' := 1) dX6_held_0 rfl rfl ?_
  refine gq_iload_n (i := 1) (pc' := 2) dX6_held_1 rfl rfl ?_
  refine gq_icmp_ge (pc' := 5) (tgt := 9) dX6_held_2 rfl (by decide) (fun c1 => ?_) (fun c1 => ?_)
  · refine gq_iload_n (i := 0) (pc' := 10) dX6_held_9 rfl rfl ?_
    refine gq_iload_n (i := 2) (pc' := 11) dX6_held_10 rfl rfl ?_
    refine gq_icmp_le (pc' := 14) (tgt := 18) dX6_held_11 rfl (by decide) (fun c2 => ?_) (fun c2 => ?_)
    · refine gq_iload_n (i := 0) (pc' := 19) dX6_held_18 rfl rfl ?_
      exact gq_iret dX6_held_19 rfl rfl rfl
    · refine gq_iload_n (i := 2) (pc' := 15) dX6_held_14 rfl rfl ?_
      refine gq_goto (pc' := 19) dX6_held_15 (by decide) ?_
      exact gq_iret dX6_held_19 rfl rfl rfl
  · refine gq_iload_n (i := 1) (pc' := 6) dX6_held_5 rfl rfl ?_
    refine gq_goto (pc' := 19) dX6_held_6 (by decide) ?_
    exact gq_iret dX6_held_19 rfl rfl rfl
set_option maxRecDepth 100000 in
set_option maxHeartbeats 4000000 in
theorem t_X6_isMatch {X : q_Cx} {Λ : q_Lay} (σ : Sg) (p0 : Int32) : q_Ex X mX6_isMatch Λ Λ [.int p0] σ (f_X6_isMatch σ p0) := by
  refine gq_ex mfX6_isMatch (Nat.le_of_ble_eq_true rfl) ?_
  show q_G X mX6_isMatch (q_QM X Λ mX6_isMatch) (Λ, 0, 0) σ 0 [(0, .int p0)] [] _
  unfold f_X6_isMatch
  refine gq_iload_n (i := 0) (pc' := 1) dX6_isMatch_0 rfl rfl ?_
  refine gq_iconst (v := 0) (pc' := 2) dX6_isMatch_1 rfl  (by decide) ?_
  refine gq_bipush (v := 14) (pc' := 4) dX6_isMatch_2 rfl  (by decide) ?_
  refine gq_calli (cs' := 0) (ns' := 0) (pc' := 7) (gq_siteS (Mc := mX6_in) (As := [.int p0, .int (0 : Int32), .int (14 : Int32)]) (rest := []) dX6_isMatch_4 lkX6_72 mfX6_in (t_X6_in σ p0 (0 : Int32) (14 : Int32)) rfl ⟨Nat.le_of_ble_eq_true rfl, Nat.le_of_ble_eq_true rfl⟩ ⟨Nat.le_of_ble_eq_true rfl, Nat.le_of_ble_eq_true rfl⟩ rfl (Nat.le_of_ble_eq_true rfl)) rfl rfl rfl rfl (fun s1 r2 _ => ?_)
  exact gq_zretq dX6_isMatch_7 rfl rfl rfl
set_option maxRecDepth 100000 in
set_option maxHeartbeats 4000000 in
theorem t_X6_isFirst {X : q_Cx} {Λ : q_Lay} (σ : Sg) (p0 : Int32) : q_Ex X mX6_isFirst Λ Λ [.int p0] σ (f_X6_isFirst σ p0) := by
  refine gq_ex mfX6_isFirst (Nat.le_of_ble_eq_true rfl) ?_
  show q_G X mX6_isFirst (q_QM X Λ mX6_isFirst) (Λ, 0, 0) σ 0 [(0, .int p0)] [] _
  unfold f_X6_isFirst
  refine gq_iload_n (i := 0) (pc' := 1) dX6_isFirst_0 rfl rfl ?_
  refine gq_iconst (v := 4) (pc' := 2) dX6_isFirst_1 rfl  (by decide) ?_
  refine gq_icmp_lt (pc' := 5) (tgt := 17) dX6_isFirst_2 rfl (by decide) (fun c1 => ?_) (fun c1 => ?_)
  · refine gq_iconst (v := 1) (pc' := 18) dX6_isFirst_17 rfl  (by decide) ?_
    refine gq_goto (pc' := 22) dX6_isFirst_18 (by decide) ?_
    exact gq_zret dX6_isFirst_22 rfl rfl rfl rfl
  · refine gq_iload_n (i := 0) (pc' := 6) dX6_isFirst_5 rfl rfl ?_
    refine gq_bipush (v := 7) (pc' := 8) dX6_isFirst_6 rfl  (by decide) ?_
    refine gq_icmp_lt (pc' := 11) (tgt := 21) dX6_isFirst_8 rfl (by decide) (fun c2 => ?_) (fun c2 => ?_)
    · refine gq_iconst (v := 0) (pc' := 22) dX6_isFirst_21 rfl  (by decide) ?_
      exact gq_zret dX6_isFirst_22 rfl rfl rfl rfl
    · refine gq_iload_n (i := 0) (pc' := 12) dX6_isFirst_11 rfl rfl ?_
      refine gq_bipush (v := 11) (pc' := 14) dX6_isFirst_12 rfl  (by decide) ?_
      refine gq_icmp_ge (pc' := 17) (tgt := 21) dX6_isFirst_14 rfl (by decide) (fun c3 => ?_) (fun c3 => ?_)
      · refine gq_iconst (v := 0) (pc' := 22) dX6_isFirst_21 rfl  (by decide) ?_
        exact gq_zret dX6_isFirst_22 rfl rfl rfl rfl
      · refine gq_iconst (v := 1) (pc' := 18) dX6_isFirst_17 rfl  (by decide) ?_
        refine gq_goto (pc' := 22) dX6_isFirst_18 (by decide) ?_
        exact gq_zret dX6_isFirst_22 rfl rfl rfl rfl
set_option maxRecDepth 100000 in
set_option maxHeartbeats 4000000 in
theorem g_X6_from_J30 {X : q_Cx} {Λ : q_Lay} (σ : Sg) (x0 : Int32) (x1 : Int32) (y0 : Int32) : q_G X mX6_from (q_QM X Λ mX6_from) (Λ, 0, 0) σ 30 [(0, .int x0), (1, .int x1)] [.int y0] (f_X6_from_J30 σ x0 x1 y0) := by
  unfold f_X6_from_J30
  refine gq_istore_n (l' := [(2, .int y0), (0, .int x0), (1, .int x1)]) (pc' := 31) dX6_from_30 rfl (by decide) rfl ?_
  refine gq_iload_n (i := 0) (pc' := 32) dX6_from_31 rfl rfl ?_
  refine gq_iconst (v := 2) (pc' := 33) dX6_from_32 rfl  (by decide) ?_
  refine gq_iload_n (i := 1) (pc' := 34) dX6_from_33 rfl rfl ?_
  refine gq_iload_n (i := 0) (pc' := 35) dX6_from_34 rfl rfl ?_
  refine gq_isub (pc' := 36) dX6_from_35 rfl ?_
  refine gq_iconst (v := 4) (pc' := 37) dX6_from_36 rfl  (by decide) ?_
  refine gq_isub (pc' := 38) dX6_from_37 rfl ?_
  refine gq_imul (pc' := 39) dX6_from_38 rfl ?_
  refine gq_iadd (pc' := 40) dX6_from_39 rfl ?_
  refine gq_iload_n (i := 2) (pc' := 41) dX6_from_40 rfl rfl ?_
  refine gq_iadd (pc' := 42) dX6_from_41 rfl ?_
  exact gq_iret dX6_from_42 rfl rfl rfl
set_option maxRecDepth 100000 in
set_option maxHeartbeats 4000000 in
theorem t_X6_from {X : q_Cx} {Λ : q_Lay} (σ : Sg) (p0 : Int32) (p1 : Int32) : q_Ex X mX6_from Λ Λ [.int p0, .int p1] σ (f_X6_from σ p0 p1) := by
  refine gq_ex mfX6_from (Nat.le_of_ble_eq_true rfl) ?_
  show q_G X mX6_from (q_QM X Λ mX6_from) (Λ, 0, 0) σ 0 [(0, .int p0), (1, .int p1)] [] _
  unfold f_X6_from
  refine gq_iload_n (i := 0) (pc' := 1) dX6_from_0 rfl rfl ?_
  refine gq_bipush (v := 14) (pc' := 3) dX6_from_1 rfl  (by decide) ?_
  refine gq_icmp_ne (pc' := 6) (tgt := 18) dX6_from_3 rfl (by decide) (fun c1 => ?_) (fun c1 => ?_)
  · refine gq_iload_n (i := 1) (pc' := 7) dX6_from_6 rfl rfl ?_
    refine gq_if_ne (pc' := 10) (tgt := 15) dX6_from_7 rfl (by decide) (fun c2 => ?_) (fun c2 => ?_)
    · refine gq_bipush (v := 6) (pc' := 12) dX6_from_10 rfl  (by decide) ?_
      refine gq_goto (pc' := 17) dX6_from_12 (by decide) ?_
      exact gq_iret dX6_from_17 rfl rfl rfl
    · refine gq_bipush (v := 13) (pc' := 17) dX6_from_15 rfl  (by decide) ?_
      exact gq_iret dX6_from_17 rfl rfl rfl
  · refine gq_iload_n (i := 0) (pc' := 19) dX6_from_18 rfl rfl ?_
    refine gq_bipush (v := 7) (pc' := 21) dX6_from_19 rfl  (by decide) ?_
    refine gq_icmp_ge (pc' := 24) (tgt := 28) dX6_from_21 rfl (by decide) (fun c3 => ?_) (fun c3 => ?_)
    · refine gq_bipush (v := 7) (pc' := 30) dX6_from_28 rfl  (by decide) ?_
      refine gq_sub (l' := [(0, .int p0), (1, .int p1)]) [0, 1] rfl ?_
      exact g_X6_from_J30 σ p0 p1 (7 : Int32)
    · refine gq_iconst (v := 0) (pc' := 25) dX6_from_24 rfl  (by decide) ?_
      refine gq_goto (pc' := 30) dX6_from_25 (by decide) ?_
      refine gq_sub (l' := [(0, .int p0), (1, .int p1)]) [0, 1] rfl ?_
      exact g_X6_from_J30 σ p0 p1 (0 : Int32)
set_option maxRecDepth 100000 in
set_option maxHeartbeats 4000000 in
theorem k_J7_fill_53178_L5 {X : q_Cx} {Λ : q_Lay} (a n : Nat) (ha : Λ[a]? = some (.inl (false, n))) {rec : Sg → Int32 → Int32 → Int32 → Rs} (hrec : ∀ (σ : Sg) (x1 : Int32) (x2 : Int32) (x3 : Int32), q_G X mJ7_fill_53178 (q_QM X Λ mJ7_fill_53178) (Λ, 0, 0) σ 5 [(0, .ref (xa X a)), (1, .int x1), (2, .int x2), (3, .int x3)] [] (rec σ x1 x2 x3)) (σ : Sg) (x1 : Int32) (x2 : Int32) (x3 : Int32) : q_G X mJ7_fill_53178 (q_QM X Λ mJ7_fill_53178) (Λ, 0, 0) σ 5 [(0, .ref (xa X a)), (1, .int x1), (2, .int x2), (3, .int x3)] [] (s_J7_fill_53178_L5 a n rec σ x1 x2 x3) := by
  unfold s_J7_fill_53178_L5
  refine gq_iload_n (i := 2) (pc' := 6) dJ7_fill_53178_5 rfl rfl ?_
  refine gq_iload_n (i := 3) (pc' := 7) dJ7_fill_53178_6 rfl rfl ?_
  refine gq_icmp_ge (pc' := 10) (tgt := 20) dJ7_fill_53178_7 rfl (by decide) (fun c2 => ?_) (fun c2 => ?_)
  · exact gq_vret dJ7_fill_53178_20 rfl rfl rfl
  · refine gq_aload_n (i := 0) (pc' := 11) dJ7_fill_53178_10 rfl rfl ?_
    refine gq_iload_n (i := 2) (pc' := 12) dJ7_fill_53178_11 rfl rfl ?_
    refine gq_iload_n (i := 1) (pc' := 13) dJ7_fill_53178_12 rfl rfl ?_
    refine gq_iast (n := n) (pc' := 14) dJ7_fill_53178_13 rfl ha (fun _ => ?_)
    refine gq_lets (fun s3 => ?_)
    refine gq_iincl (j := 2) (pc' := 17) dJ7_fill_53178_14 rfl rfl (by decide) (by decide) (fun v4 => gq_sub (l' := [(2, .int v4), (0, .ref (xa X a)), (1, .int x1), (3, .int x3)]) [0, 1, 2, 3] rfl ?_)
    refine gq_goto (pc' := 5) dJ7_fill_53178_17 (by decide) ?_
    refine gq_sub (l' := [(0, .ref (xa X a)), (1, .int x1), (2, .int v4), (3, .int x3)]) [1, 2, 0, 3] rfl ?_
    exact hrec s3 x1 v4 x3
set_option maxRecDepth 100000 in
set_option maxHeartbeats 4000000 in
theorem g_J7_fill_53178_L5 {X : q_Cx} {Λ : q_Lay} (a n : Nat) (ha : Λ[a]? = some (.inl (false, n))) (qn : Nat) : ∀ (σ : Sg) (x1 : Int32) (x2 : Int32) (x3 : Int32), q_G X mJ7_fill_53178 (q_QM X Λ mJ7_fill_53178) (Λ, 0, 0) σ 5 [(0, .ref (xa X a)), (1, .int x1), (2, .int x2), (3, .int x3)] [] (f_J7_fill_53178_L5 a n qn σ x1 x2 x3) := by
  induction qn with
  | zero => exact fun σ x1 x2 x3 => gq_none
  | succ qn ih => exact fun σ x1 x2 x3 => k_J7_fill_53178_L5 a n ha ih σ x1 x2 x3
set_option maxRecDepth 100000 in
set_option maxHeartbeats 4000000 in
theorem t_J7_fill_53178 {X : q_Cx} {Λ : q_Lay} (a n : Nat) (ha : Λ[a]? = some (.inl (false, n))) (σ : Sg) (p1 : Int32) : q_Ex X mJ7_fill_53178 Λ Λ [.ref (xa X a), .int p1] σ (f_J7_fill_53178 a n σ p1) := by
  refine gq_ex mfJ7_fill_53178 (Nat.le_of_ble_eq_true rfl) ?_
  show q_G X mJ7_fill_53178 (q_QM X Λ mJ7_fill_53178) (Λ, 0, 0) σ 0 [(0, .ref (xa X a)), (1, .int p1)] [] _
  unfold f_J7_fill_53178
  refine gq_iconst (v := 0) (pc' := 1) dJ7_fill_53178_0 rfl  (by decide) ?_
  refine gq_istore_n (l' := [(2, .int (0 : Int32)), (0, .ref (xa X a)), (1, .int p1)]) (pc' := 2) dJ7_fill_53178_1 rfl (by decide) rfl ?_
  refine gq_aload_n (i := 1) (pc' := 3) dJ7_fill_53178_2 rfl rfl ?_
  refine gq_alen (n := n) (pc' := 4) dJ7_fill_53178_3 rfl (Or.inl ha) rfl ?_
  refine gq_let (fun v1 => ?_)
  refine gq_istore_n (l' := [(3, .int v1), (2, .int (0 : Int32)), (0, .ref (xa X a)), (1, .int p1)]) (pc' := 5) dJ7_fill_53178_4 rfl (by decide) rfl ?_
  refine gq_sub (l' := [(0, .ref (xa X a)), (1, .int p1), (2, .int (0 : Int32)), (3, .int v1)]) [2, 3, 1, 0] rfl ?_
  exact g_J7_fill_53178_L5 a n ha 1000 σ p1 (0 : Int32) v1
end
