-- names of the classes, fields, methods; decode rows: out of the claim's own printed NAMES text, by wip/gen/names.py
-- ===== PART A: goes FIRST, ahead of the names: the tables' words, and 'selects' of the private methods out of them =====
/-- a private method of a class that the tables say can be made, by its rows of tables_1 -/
def lw_okq (q : MethodName × Nat) : Prop := (q.1.cls ≠ "java/lang/invoke/MethodHandle" ∧ q.1.cls ≠ "java/lang/invoke/VarHandle") ∧ Cond.instantiable q.1.cls q.2 ∈ tables_1 ∧ Cond.privateMethod q.1 ∈ tables_1 ∧ Cond.instanceMethod q.1 ∈ tables_1
theorem lw_p0 : lw_okq (⟨"CroquetLawn$Position", "allowsFree", "()Z"⟩, 8) := ⟨⟨by decide +kernel, by decide +kernel⟩, List.mem_of_getElem? (i := 25) (by decide +kernel), List.mem_of_getElem? (i := 234) (by decide +kernel), List.mem_of_getElem? (i := 235) (by decide +kernel)⟩
theorem lw_p1 : lw_okq (⟨"CroquetLawn$Position", "allowsFresh", "(II)Z"⟩, 8) := ⟨⟨by decide +kernel, by decide +kernel⟩, List.mem_of_getElem? (i := 25) (by decide +kernel), List.mem_of_getElem? (i := 238) (by decide +kernel), List.mem_of_getElem? (i := 239) (by decide +kernel)⟩
theorem lw_p2 : lw_okq (⟨"CroquetLawn$Play", "noteStriker", "(I)V"⟩, 13) := ⟨⟨by decide +kernel, by decide +kernel⟩, List.mem_of_getElem? (i := 19) (by decide +kernel), List.mem_of_getElem? (i := 249) (by decide +kernel), List.mem_of_getElem? (i := 250) (by decide +kernel)⟩
theorem lw_p3 : lw_okq (⟨"CroquetLawn$Position", "bringIn", "(I)V"⟩, 8) := ⟨⟨by decide +kernel, by decide +kernel⟩, List.mem_of_getElem? (i := 25) (by decide +kernel), List.mem_of_getElem? (i := 265) (by decide +kernel), List.mem_of_getElem? (i := 266) (by decide +kernel)⟩
theorem lw_p4 : lw_okq (⟨"CroquetLawn$Position", "roquet", "(I)V"⟩, 8) := ⟨⟨by decide +kernel, by decide +kernel⟩, List.mem_of_getElem? (i := 25) (by decide +kernel), List.mem_of_getElem? (i := 273) (by decide +kernel), List.mem_of_getElem? (i := 274) (by decide +kernel)⟩
theorem lw_p5 : lw_okq (⟨"CroquetLawn$Position", "croquet", "()V"⟩, 8) := ⟨⟨by decide +kernel, by decide +kernel⟩, List.mem_of_getElem? (i := 25) (by decide +kernel), List.mem_of_getElem? (i := 277) (by decide +kernel), List.mem_of_getElem? (i := 278) (by decide +kernel)⟩
theorem lw_p6 : lw_okq (⟨"CroquetLawn$Position", "spendFree", "()V"⟩, 8) := ⟨⟨by decide +kernel, by decide +kernel⟩, List.mem_of_getElem? (i := 25) (by decide +kernel), List.mem_of_getElem? (i := 281) (by decide +kernel), List.mem_of_getElem? (i := 282) (by decide +kernel)⟩
theorem lw_p7 : lw_okq (⟨"CroquetLawn$Play", "has", "(I)Z"⟩, 13) := ⟨⟨by decide +kernel, by decide +kernel⟩, List.mem_of_getElem? (i := 19) (by decide +kernel), List.mem_of_getElem? (i := 293) (by decide +kernel), List.mem_of_getElem? (i := 294) (by decide +kernel)⟩
theorem lw_p8 : lw_okq (⟨"CroquetLawn$Play", "leadTo", "(LCroquetLawn$Position;I)V"⟩, 13) := ⟨⟨by decide +kernel, by decide +kernel⟩, List.mem_of_getElem? (i := 19) (by decide +kernel), List.mem_of_getElem? (i := 314) (by decide +kernel), List.mem_of_getElem? (i := 315) (by decide +kernel)⟩
theorem lw_p9 : lw_okq (⟨"CroquetLawn$Play", "takeAway", "(I)I"⟩, 13) := ⟨⟨by decide +kernel, by decide +kernel⟩, List.mem_of_getElem? (i := 19) (by decide +kernel), List.mem_of_getElem? (i := 340) (by decide +kernel), List.mem_of_getElem? (i := 341) (by decide +kernel)⟩
theorem lw_p10 : lw_okq (⟨"CroquetLawn$Play", "stopTurn", "(I)I"⟩, 13) := ⟨⟨by decide +kernel, by decide +kernel⟩, List.mem_of_getElem? (i := 19) (by decide +kernel), List.mem_of_getElem? (i := 344) (by decide +kernel), List.mem_of_getElem? (i := 345) (by decide +kernel)⟩
theorem lw_p11 : lw_okq (⟨"CroquetLawn$Laws", "read", "()I"⟩, 7) := ⟨⟨by decide +kernel, by decide +kernel⟩, List.mem_of_getElem? (i := 97) (by decide +kernel), List.mem_of_getElem? (i := 370) (by decide +kernel), List.mem_of_getElem? (i := 371) (by decide +kernel)⟩
theorem lw_p12 : lw_okq (⟨"CroquetLawn$Laws", "atEnd", "()Z"⟩, 7) := ⟨⟨by decide +kernel, by decide +kernel⟩, List.mem_of_getElem? (i := 97) (by decide +kernel), List.mem_of_getElem? (i := 374) (by decide +kernel), List.mem_of_getElem? (i := 375) (by decide +kernel)⟩
theorem lw_p13 : lw_okq (⟨"CroquetLawn$Laws", "skipBlanks", "()V"⟩, 7) := ⟨⟨by decide +kernel, by decide +kernel⟩, List.mem_of_getElem? (i := 97) (by decide +kernel), List.mem_of_getElem? (i := 378) (by decide +kernel), List.mem_of_getElem? (i := 379) (by decide +kernel)⟩
theorem lw_p14 : lw_okq (⟨"CroquetLawn$Laws", "here", "()I"⟩, 7) := ⟨⟨by decide +kernel, by decide +kernel⟩, List.mem_of_getElem? (i := 97) (by decide +kernel), List.mem_of_getElem? (i := 382) (by decide +kernel), List.mem_of_getElem? (i := 383) (by decide +kernel)⟩
theorem lw_p15 : lw_okq (⟨"CroquetLawn$Laws", "readClause", "()Z"⟩, 7) := ⟨⟨by decide +kernel, by decide +kernel⟩, List.mem_of_getElem? (i := 97) (by decide +kernel), List.mem_of_getElem? (i := 386) (by decide +kernel), List.mem_of_getElem? (i := 387) (by decide +kernel)⟩
def lw_privs_1 : List (MethodName × Nat) := [(⟨"CroquetLawn$Position", "allowsFree", "()Z"⟩, 8), (⟨"CroquetLawn$Position", "allowsFresh", "(II)Z"⟩, 8), (⟨"CroquetLawn$Play", "noteStriker", "(I)V"⟩, 13), (⟨"CroquetLawn$Position", "bringIn", "(I)V"⟩, 8), (⟨"CroquetLawn$Position", "roquet", "(I)V"⟩, 8), (⟨"CroquetLawn$Position", "croquet", "()V"⟩, 8), (⟨"CroquetLawn$Position", "spendFree", "()V"⟩, 8), (⟨"CroquetLawn$Play", "has", "(I)Z"⟩, 13), (⟨"CroquetLawn$Play", "leadTo", "(LCroquetLawn$Position;I)V"⟩, 13), (⟨"CroquetLawn$Play", "takeAway", "(I)I"⟩, 13), (⟨"CroquetLawn$Play", "stopTurn", "(I)I"⟩, 13), (⟨"CroquetLawn$Laws", "read", "()I"⟩, 7), (⟨"CroquetLawn$Laws", "atEnd", "()Z"⟩, 7), (⟨"CroquetLawn$Laws", "skipBlanks", "()V"⟩, 7), (⟨"CroquetLawn$Laws", "here", "()I"⟩, 7), (⟨"CroquetLawn$Laws", "readClause", "()Z"⟩, 7)]
theorem lw_r1 : ∀ q ∈ lw_privs_1, lw_okq q := List.forall_mem_cons.mpr ⟨lw_p0, List.forall_mem_cons.mpr ⟨lw_p1, List.forall_mem_cons.mpr ⟨lw_p2, List.forall_mem_cons.mpr ⟨lw_p3, List.forall_mem_cons.mpr ⟨lw_p4, List.forall_mem_cons.mpr ⟨lw_p5, List.forall_mem_cons.mpr ⟨lw_p6, List.forall_mem_cons.mpr ⟨lw_p7, List.forall_mem_cons.mpr ⟨lw_p8, List.forall_mem_cons.mpr ⟨lw_p9, List.forall_mem_cons.mpr ⟨lw_p10, List.forall_mem_cons.mpr ⟨lw_p11, List.forall_mem_cons.mpr ⟨lw_p12, List.forall_mem_cons.mpr ⟨lw_p13, List.forall_mem_cons.mpr ⟨lw_p14, List.forall_mem_cons.mpr ⟨lw_p15, fun _ h => absurd h List.not_mem_nil⟩⟩⟩⟩⟩⟩⟩⟩⟩⟩⟩⟩⟩⟩⟩⟩
theorem lw_p16 : lw_okq (⟨"CroquetLawn$Laws", "readNumber", "()I"⟩, 7) := ⟨⟨by decide +kernel, by decide +kernel⟩, List.mem_of_getElem? (i := 97) (by decide +kernel), List.mem_of_getElem? (i := 390) (by decide +kernel), List.mem_of_getElem? (i := 391) (by decide +kernel)⟩
theorem lw_p17 : lw_okq (⟨"CroquetLawn$Laws", "adoptDraft", "()V"⟩, 7) := ⟨⟨by decide +kernel, by decide +kernel⟩, List.mem_of_getElem? (i := 97) (by decide +kernel), List.mem_of_getElem? (i := 397) (by decide +kernel), List.mem_of_getElem? (i := 398) (by decide +kernel)⟩
theorem lw_p18 : lw_okq (⟨"CroquetLawn$Play", "counts", "(II)Z"⟩, 13) := ⟨⟨by decide +kernel, by decide +kernel⟩, List.mem_of_getElem? (i := 19) (by decide +kernel), List.mem_of_getElem? (i := 409) (by decide +kernel), List.mem_of_getElem? (i := 410) (by decide +kernel)⟩
theorem lw_p19 : lw_okq (⟨"CroquetLawn$Meeting", "hasTwoWinners", "()Z"⟩, 3) := ⟨⟨by decide +kernel, by decide +kernel⟩, List.mem_of_getElem? (i := 141) (by decide +kernel), List.mem_of_getElem? (i := 466) (by decide +kernel), List.mem_of_getElem? (i := 467) (by decide +kernel)⟩
theorem lw_p20 : lw_okq (⟨"CroquetLawn$Meeting", "laid", "()I"⟩, 3) := ⟨⟨by decide +kernel, by decide +kernel⟩, List.mem_of_getElem? (i := 141) (by decide +kernel), List.mem_of_getElem? (i := 514) (by decide +kernel), List.mem_of_getElem? (i := 515) (by decide +kernel)⟩
theorem lw_p21 : lw_okq (⟨"CroquetLawn$Meeting", "isFree", "(II)Z"⟩, 3) := ⟨⟨by decide +kernel, by decide +kernel⟩, List.mem_of_getElem? (i := 141) (by decide +kernel), List.mem_of_getElem? (i := 527) (by decide +kernel), List.mem_of_getElem? (i := 528) (by decide +kernel)⟩
theorem lw_p22 : lw_okq (⟨"CroquetLawn$Meeting", "plays", "(II)Z"⟩, 3) := ⟨⟨by decide +kernel, by decide +kernel⟩, List.mem_of_getElem? (i := 141) (by decide +kernel), List.mem_of_getElem? (i := 531) (by decide +kernel), List.mem_of_getElem? (i := 532) (by decide +kernel)⟩
theorem lw_p23 : lw_okq (⟨"CroquetLawnModel", "handicapOf", "(I)I"⟩, 32) := ⟨⟨by decide +kernel, by decide +kernel⟩, List.mem_of_getElem? (i := 551) (by decide +kernel), List.mem_of_getElem? (i := 669) (by decide +kernel), List.mem_of_getElem? (i := 670) (by decide +kernel)⟩
theorem lw_p24 : lw_okq (⟨"CroquetLawnModel", "forget", "(I)V"⟩, 32) := ⟨⟨by decide +kernel, by decide +kernel⟩, List.mem_of_getElem? (i := 551) (by decide +kernel), List.mem_of_getElem? (i := 677) (by decide +kernel), List.mem_of_getElem? (i := 678) (by decide +kernel)⟩
theorem lw_p25 : lw_okq (⟨"CroquetLawnModel", "goTo", "(I)V"⟩, 32) := ⟨⟨by decide +kernel, by decide +kernel⟩, List.mem_of_getElem? (i := 551) (by decide +kernel), List.mem_of_getElem? (i := 685) (by decide +kernel), List.mem_of_getElem? (i := 686) (by decide +kernel)⟩
theorem lw_p26 : lw_okq (⟨"CroquetLawnModel", "turnTo", "(I)V"⟩, 32) := ⟨⟨by decide +kernel, by decide +kernel⟩, List.mem_of_getElem? (i := 551) (by decide +kernel), List.mem_of_getElem? (i := 689) (by decide +kernel), List.mem_of_getElem? (i := 690) (by decide +kernel)⟩
theorem lw_p27 : lw_okq (⟨"CroquetLawnModel", "endTurn", "()V"⟩, 32) := ⟨⟨by decide +kernel, by decide +kernel⟩, List.mem_of_getElem? (i := 551) (by decide +kernel), List.mem_of_getElem? (i := 693) (by decide +kernel), List.mem_of_getElem? (i := 694) (by decide +kernel)⟩
theorem lw_p28 : lw_okq (⟨"CroquetLawnModel", "make", "(II)V"⟩, 32) := ⟨⟨by decide +kernel, by decide +kernel⟩, List.mem_of_getElem? (i := 551) (by decide +kernel), List.mem_of_getElem? (i := 697) (by decide +kernel), List.mem_of_getElem? (i := 698) (by decide +kernel)⟩
theorem lw_p29 : lw_okq (⟨"CroquetLawnModel", "begin", "(II)V"⟩, 32) := ⟨⟨by decide +kernel, by decide +kernel⟩, List.mem_of_getElem? (i := 551) (by decide +kernel), List.mem_of_getElem? (i := 701) (by decide +kernel), List.mem_of_getElem? (i := 702) (by decide +kernel)⟩
theorem lw_p30 : lw_okq (⟨"CroquetLawnModel", "others", "()I"⟩, 32) := ⟨⟨by decide +kernel, by decide +kernel⟩, List.mem_of_getElem? (i := 551) (by decide +kernel), List.mem_of_getElem? (i := 705) (by decide +kernel), List.mem_of_getElem? (i := 706) (by decide +kernel)⟩
theorem lw_p31 : lw_okq (⟨"CroquetLawnModel", "won", "()I"⟩, 32) := ⟨⟨by decide +kernel, by decide +kernel⟩, List.mem_of_getElem? (i := 551) (by decide +kernel), List.mem_of_getElem? (i := 709) (by decide +kernel), List.mem_of_getElem? (i := 710) (by decide +kernel)⟩
def lw_privs_2 : List (MethodName × Nat) := [(⟨"CroquetLawn$Laws", "readNumber", "()I"⟩, 7), (⟨"CroquetLawn$Laws", "adoptDraft", "()V"⟩, 7), (⟨"CroquetLawn$Play", "counts", "(II)Z"⟩, 13), (⟨"CroquetLawn$Meeting", "hasTwoWinners", "()Z"⟩, 3), (⟨"CroquetLawn$Meeting", "laid", "()I"⟩, 3), (⟨"CroquetLawn$Meeting", "isFree", "(II)Z"⟩, 3), (⟨"CroquetLawn$Meeting", "plays", "(II)Z"⟩, 3), (⟨"CroquetLawnModel", "handicapOf", "(I)I"⟩, 32), (⟨"CroquetLawnModel", "forget", "(I)V"⟩, 32), (⟨"CroquetLawnModel", "goTo", "(I)V"⟩, 32), (⟨"CroquetLawnModel", "turnTo", "(I)V"⟩, 32), (⟨"CroquetLawnModel", "endTurn", "()V"⟩, 32), (⟨"CroquetLawnModel", "make", "(II)V"⟩, 32), (⟨"CroquetLawnModel", "begin", "(II)V"⟩, 32), (⟨"CroquetLawnModel", "others", "()I"⟩, 32), (⟨"CroquetLawnModel", "won", "()I"⟩, 32)]
theorem lw_r2 : ∀ q ∈ lw_privs_2, lw_okq q := List.forall_mem_cons.mpr ⟨lw_p16, List.forall_mem_cons.mpr ⟨lw_p17, List.forall_mem_cons.mpr ⟨lw_p18, List.forall_mem_cons.mpr ⟨lw_p19, List.forall_mem_cons.mpr ⟨lw_p20, List.forall_mem_cons.mpr ⟨lw_p21, List.forall_mem_cons.mpr ⟨lw_p22, List.forall_mem_cons.mpr ⟨lw_p23, List.forall_mem_cons.mpr ⟨lw_p24, List.forall_mem_cons.mpr ⟨lw_p25, List.forall_mem_cons.mpr ⟨lw_p26, List.forall_mem_cons.mpr ⟨lw_p27, List.forall_mem_cons.mpr ⟨lw_p28, List.forall_mem_cons.mpr ⟨lw_p29, List.forall_mem_cons.mpr ⟨lw_p30, List.forall_mem_cons.mpr ⟨lw_p31, fun _ h => absurd h List.not_mem_nil⟩⟩⟩⟩⟩⟩⟩⟩⟩⟩⟩⟩⟩⟩⟩⟩
theorem lw_p32 : lw_okq (⟨"CroquetLawnModel", "canDo", "(II)Z"⟩, 32) := ⟨⟨by decide +kernel, by decide +kernel⟩, List.mem_of_getElem? (i := 551) (by decide +kernel), List.mem_of_getElem? (i := 713) (by decide +kernel), List.mem_of_getElem? (i := 714) (by decide +kernel)⟩
theorem lw_p33 : lw_okq (⟨"CroquetLawnModel", "isWrong", "(II)Z"⟩, 32) := ⟨⟨by decide +kernel, by decide +kernel⟩, List.mem_of_getElem? (i := 551) (by decide +kernel), List.mem_of_getElem? (i := 717) (by decide +kernel), List.mem_of_getElem? (i := 718) (by decide +kernel)⟩
theorem lw_p34 : lw_okq (⟨"CroquetLawnModel", "isStroke", "(I)Z"⟩, 32) := ⟨⟨by decide +kernel, by decide +kernel⟩, List.mem_of_getElem? (i := 551) (by decide +kernel), List.mem_of_getElem? (i := 725) (by decide +kernel), List.mem_of_getElem? (i := 726) (by decide +kernel)⟩
theorem lw_p35 : lw_okq (⟨"CroquetLawnModel", "readLaws", "()I"⟩, 32) := ⟨⟨by decide +kernel, by decide +kernel⟩, List.mem_of_getElem? (i := 551) (by decide +kernel), List.mem_of_getElem? (i := 754) (by decide +kernel), List.mem_of_getElem? (i := 755) (by decide +kernel)⟩
theorem lw_p36 : lw_okq (⟨"CroquetLawnModel", "next", "()I"⟩, 32) := ⟨⟨by decide +kernel, by decide +kernel⟩, List.mem_of_getElem? (i := 551) (by decide +kernel), List.mem_of_getElem? (i := 758) (by decide +kernel), List.mem_of_getElem? (i := 759) (by decide +kernel)⟩
theorem lw_p37 : lw_okq (⟨"CroquetLawnModel", "readClause", "()Z"⟩, 32) := ⟨⟨by decide +kernel, by decide +kernel⟩, List.mem_of_getElem? (i := 551) (by decide +kernel), List.mem_of_getElem? (i := 762) (by decide +kernel), List.mem_of_getElem? (i := 763) (by decide +kernel)⟩
theorem lw_p38 : lw_okq (⟨"CroquetLawnModel", "playerOf", "(II)I"⟩, 32) := ⟨⟨by decide +kernel, by decide +kernel⟩, List.mem_of_getElem? (i := 551) (by decide +kernel), List.mem_of_getElem? (i := 780) (by decide +kernel), List.mem_of_getElem? (i := 781) (by decide +kernel)⟩
theorem lw_p39 : lw_okq (⟨"CroquetLawnModel", "laid", "()I"⟩, 32) := ⟨⟨by decide +kernel, by decide +kernel⟩, List.mem_of_getElem? (i := 551) (by decide +kernel), List.mem_of_getElem? (i := 806) (by decide +kernel), List.mem_of_getElem? (i := 807) (by decide +kernel)⟩
theorem lw_p40 : lw_okq (⟨"CroquetLawnModel", "isFree", "(II)Z"⟩, 32) := ⟨⟨by decide +kernel, by decide +kernel⟩, List.mem_of_getElem? (i := 551) (by decide +kernel), List.mem_of_getElem? (i := 814) (by decide +kernel), List.mem_of_getElem? (i := 815) (by decide +kernel)⟩
theorem lw_p41 : lw_okq (⟨"CroquetLawnModel", "isIn", "(II)Z"⟩, 32) := ⟨⟨by decide +kernel, by decide +kernel⟩, List.mem_of_getElem? (i := 551) (by decide +kernel), List.mem_of_getElem? (i := 818) (by decide +kernel), List.mem_of_getElem? (i := 819) (by decide +kernel)⟩
def lw_privs_3 : List (MethodName × Nat) := [(⟨"CroquetLawnModel", "canDo", "(II)Z"⟩, 32), (⟨"CroquetLawnModel", "isWrong", "(II)Z"⟩, 32), (⟨"CroquetLawnModel", "isStroke", "(I)Z"⟩, 32), (⟨"CroquetLawnModel", "readLaws", "()I"⟩, 32), (⟨"CroquetLawnModel", "next", "()I"⟩, 32), (⟨"CroquetLawnModel", "readClause", "()Z"⟩, 32), (⟨"CroquetLawnModel", "playerOf", "(II)I"⟩, 32), (⟨"CroquetLawnModel", "laid", "()I"⟩, 32), (⟨"CroquetLawnModel", "isFree", "(II)Z"⟩, 32), (⟨"CroquetLawnModel", "isIn", "(II)Z"⟩, 32)]
theorem lw_r3 : ∀ q ∈ lw_privs_3, lw_okq q := List.forall_mem_cons.mpr ⟨lw_p32, List.forall_mem_cons.mpr ⟨lw_p33, List.forall_mem_cons.mpr ⟨lw_p34, List.forall_mem_cons.mpr ⟨lw_p35, List.forall_mem_cons.mpr ⟨lw_p36, List.forall_mem_cons.mpr ⟨lw_p37, List.forall_mem_cons.mpr ⟨lw_p38, List.forall_mem_cons.mpr ⟨lw_p39, List.forall_mem_cons.mpr ⟨lw_p40, List.forall_mem_cons.mpr ⟨lw_p41, fun _ h => absurd h List.not_mem_nil⟩⟩⟩⟩⟩⟩⟩⟩⟩⟩
def lw_privs : List (MethodName × Nat) := lw_privs_1 ++ (lw_privs_2 ++ (lw_privs_3))
def lw_tbl : List Cond := k2_sels lw_privs ++ tables_1
theorem lw_privs_ok : ∀ q ∈ lw_privs, lw_okq q := by
  show ∀ q ∈ lw_privs_1 ++ (lw_privs_2 ++ (lw_privs_3)), lw_okq q
  exact List.forall_mem_append.mpr ⟨lw_r1, List.forall_mem_append.mpr ⟨lw_r2, lw_r3⟩⟩

def RX0 : String := "CroquetLawn$Laws"
def TX0 : u_T := fun k => match k with
  | 0 => ("CroquetLawn$Laws", "tape", "[I", true)
  | 1 => ("CroquetLawn$Laws", "length", "I", false)
  | 2 => ("CroquetLawn$Laws", "place", "I", false)
  | 3 => ("CroquetLawn$Laws", "limits", "[I", true)
  | 4 => ("CroquetLawn$Laws", "letters", "[I", true)
  | 5 => ("CroquetLawn$Laws", "draftLimits", "[I", true)
  | _ => ("CroquetLawn$Laws", "draftLetters", "[I", true)
def tyX0 : Nat → FieldType := fun k => match k with
  | 0 => .array .int
  | 1 => .int
  | 2 => .int
  | 3 => .array .int
  | 4 => .array .int
  | 5 => .array .int
  | _ => .array .int
abbrev wsX00 : List Cond := u_ws RX0 TX0 7
theorem nmX0 : ∀ a, a < 7 → ∀ b, b < 7 → a ≠ b → (TX0 a).2.1 ≠ (TX0 b).2.1 := by decide +kernel
theorem tyX0_ok : ∀ k, k < 7 → parseFieldDescriptor (TX0 k).2.2.1 = some (tyX0 k) := by decide +kernel
abbrev cX0_init : ByteArray := prog_2_method_1_code
def yX0_init : MethodName := ⟨RX0, "<init>", "()V"⟩
abbrev cX0_letterFor : ByteArray := prog_2_method_2_code
def yX0_letterFor : MethodName := ⟨RX0, "letterFor", "(II)I"⟩
abbrev cX0_append : ByteArray := prog_2_method_3_code
def yX0_append : MethodName := ⟨RX0, "append", "(JI)I"⟩
abbrev cX0_byteOf : ByteArray := prog_2_method_4_code
def yX0_byteOf : MethodName := ⟨RX0, "byteOf", "(JI)I"⟩
abbrev cX0_takeTape : ByteArray := prog_2_method_5_code
def yX0_takeTape : MethodName := ⟨RX0, "takeTape", "()I"⟩
abbrev cX0_adoptDraft : ByteArray := prog_2_method_6_code
def yX0_adoptDraft : MethodName := ⟨RX0, "adoptDraft", "()V"⟩
abbrev cX0_read : ByteArray := prog_2_method_7_code
def yX0_read : MethodName := ⟨RX0, "read", "()I"⟩
abbrev cX0_readClause : ByteArray := prog_2_method_8_code
def yX0_readClause : MethodName := ⟨RX0, "readClause", "()Z"⟩
abbrev cX0_readNumber : ByteArray := prog_2_method_9_code
def yX0_readNumber : MethodName := ⟨RX0, "readNumber", "()I"⟩
abbrev cX0_skipBlanks : ByteArray := prog_2_method_10_code
def yX0_skipBlanks : MethodName := ⟨RX0, "skipBlanks", "()V"⟩
abbrev cX0_atEnd : ByteArray := prog_2_method_11_code
def yX0_atEnd : MethodName := ⟨RX0, "atEnd", "()Z"⟩
abbrev cX0_here : ByteArray := prog_2_method_12_code
def yX0_here : MethodName := ⟨RX0, "here", "()I"⟩
def RX1 : String := "CroquetLawn$Meeting"
def TX1 : u_T := fun k => match k with
  | 0 => ("CroquetLawn$Meeting", "winners", "[I", true)
  | 1 => ("CroquetLawn$Meeting", "hours", "[I", true)
  | _ => ("CroquetLawn$Meeting", "lawnCount", "I", false)
def tyX1 : Nat → FieldType := fun k => match k with
  | 0 => .array .int
  | 1 => .array .int
  | _ => .int
abbrev wsX10 : List Cond := u_ws RX1 TX1 3
theorem nmX1 : ∀ a, a < 3 → ∀ b, b < 3 → a ≠ b → (TX1 a).2.1 ≠ (TX1 b).2.1 := by decide +kernel
theorem tyX1_ok : ∀ k, k < 3 → parseFieldDescriptor (TX1 k).2.2.1 = some (tyX1 k) := by decide +kernel
abbrev cX1_init : ByteArray := prog_3_method_1_code
def yX1_init : MethodName := ⟨RX1, "<init>", "()V"⟩
abbrev cX1_isMatch : ByteArray := prog_3_method_2_code
def yX1_isMatch : MethodName := ⟨RX1, "isMatch", "(I)Z"⟩
abbrev cX1_who : ByteArray := prog_3_method_3_code
def yX1_who : MethodName := ⟨RX1, "who", "(II)I"⟩
abbrev cX1_hasTwoWinners : ByteArray := prog_3_method_4_code
def yX1_hasTwoWinners : MethodName := ⟨RX1, "hasTwoWinners", "()Z"⟩
abbrev cX1_give : ByteArray := prog_3_method_5_code
def yX1_give : MethodName := ⟨RX1, "give", "(II)I"⟩
abbrev cX1_takeBack : ByteArray := prog_3_method_6_code
def yX1_takeBack : MethodName := ⟨RX1, "takeBack", "(I)I"⟩
abbrev cX1_best : ByteArray := prog_3_method_7_code
def yX1_best : MethodName := ⟨RX1, "best", "()I"⟩
abbrev cX1_setLawns : ByteArray := prog_3_method_8_code
def yX1_setLawns : MethodName := ⟨RX1, "setLawns", "(I)I"⟩
abbrev cX1_laid : ByteArray := prog_3_method_9_code
def yX1_laid : MethodName := ⟨RX1, "laid", "()I"⟩
abbrev cX1_hourOf : ByteArray := prog_3_method_10_code
def yX1_hourOf : MethodName := ⟨RX1, "hourOf", "(I)I"⟩
abbrev cX1_place : ByteArray := prog_3_method_11_code
def yX1_place : MethodName := ⟨RX1, "place", "(I)I"⟩
abbrev cX1_isFree : ByteArray := prog_3_method_12_code
def yX1_isFree : MethodName := ⟨RX1, "isFree", "(II)Z"⟩
abbrev cX1_plays : ByteArray := prog_3_method_13_code
def yX1_plays : MethodName := ⟨RX1, "plays", "(II)Z"⟩
abbrev cX1_liftAll : ByteArray := prog_3_method_14_code
def yX1_liftAll : MethodName := ⟨RX1, "liftAll", "()I"⟩
def RX2 : String := "CroquetLawn$Play"
def TX2 : u_T := fun k => match k with
  | 0 => ("CroquetLawn$Play", "kinds", "[I", true)
  | 1 => ("CroquetLawn$Play", "aims", "[I", true)
  | 2 => ("CroquetLawn$Play", "strikers", "[I", true)
  | 3 => ("CroquetLawn$Play", "sides", "[I", true)
  | 4 => ("CroquetLawn$Play", "wrongs", "[I", true)
  | 5 => ("CroquetLawn$Play", "rulings", "[I", true)
  | 6 => ("CroquetLawn$Play", "players", "[I", true)
  | 7 => ("CroquetLawn$Play", "now", "LCroquetLawn$Position;", true)
  | 8 => ("CroquetLawn$Play", "past", "LCroquetLawn$Position;", true)
  | 9 => ("CroquetLawn$Play", "on", "Z", false)
  | 10 => ("CroquetLawn$Play", "size", "I", false)
  | 11 => ("CroquetLawn$Play", "free0", "I", false)
  | _ => ("CroquetLawn$Play", "free1", "I", false)
def tyX2 : Nat → FieldType := fun k => match k with
  | 0 => .array .int
  | 1 => .array .int
  | 2 => .array .int
  | 3 => .array .int
  | 4 => .array .int
  | 5 => .array .int
  | 6 => .array .int
  | 7 => .object "CroquetLawn$Position"
  | 8 => .object "CroquetLawn$Position"
  | 9 => .boolean
  | 10 => .int
  | 11 => .int
  | _ => .int
abbrev wsX20 : List Cond := u_ws RX2 TX2 13
theorem nmX2 : ∀ a, a < 13 → ∀ b, b < 13 → a ≠ b → (TX2 a).2.1 ≠ (TX2 b).2.1 := by decide +kernel
theorem tyX2_ok : ∀ k, k < 13 → parseFieldDescriptor (TX2 k).2.2.1 = some (tyX2 k) := by decide +kernel
abbrev cX2_init : ByteArray := prog_4_method_1_code
def yX2_init : MethodName := ⟨RX2, "<init>", "()V"⟩
abbrev cX2_begin : ByteArray := prog_4_method_2_code
def yX2_begin : MethodName := ⟨RX2, "begin", "(IIII)V"⟩
abbrev cX2_end : ByteArray := prog_4_method_3_code
def yX2_end : MethodName := ⟨RX2, "end", "()V"⟩
abbrev cX2_winner : ByteArray := prog_4_method_4_code
def yX2_winner : MethodName := ⟨RX2, "winner", "()I"⟩
abbrev cX2_playerOf : ByteArray := prog_4_method_5_code
def yX2_playerOf : MethodName := ⟨RX2, "playerOf", "(I)I"⟩
abbrev cX2_take : ByteArray := prog_4_method_6_code
def yX2_take : MethodName := ⟨RX2, "take", "(II)I"⟩
abbrev cX2_begins : ByteArray := prog_4_method_7_code
def yX2_begins : MethodName := ⟨RX2, "begins", "(I)Z"⟩
abbrev cX2_noteStriker : ByteArray := prog_4_method_8_code
def yX2_noteStriker : MethodName := ⟨RX2, "noteStriker", "(I)V"⟩
abbrev cX2_has : ByteArray := prog_4_method_9_code
def yX2_has : MethodName := ⟨RX2, "has", "(I)Z"⟩
abbrev cX2_tell : ByteArray := prog_4_method_10_code
def yX2_tell : MethodName := ⟨RX2, "tell", "(II)I"⟩
abbrev cX2_roqueted : ByteArray := prog_4_method_11_code
def yX2_roqueted : MethodName := ⟨RX2, "roqueted", "(I)I"⟩
abbrev cX2_asOf : ByteArray := prog_4_method_12_code
def yX2_asOf : MethodName := ⟨RX2, "asOf", "(II)I"⟩
abbrev cX2_leadTo : ByteArray := prog_4_method_13_code
def yX2_leadTo : MethodName := ⟨RX2, "leadTo", "(LCroquetLawn$Position;I)V"⟩
abbrev cX2_obey : ByteArray := prog_4_method_14_code
def yX2_obey : MethodName := ⟨RX2, "obey", "(LCroquetLawn$Position;I)V"⟩
abbrev cX2_find : ByteArray := prog_4_method_15_code
def yX2_find : MethodName := ⟨RX2, "find", "(ILCroquetLawn$Laws;)I"⟩
abbrev cX2_takeAway : ByteArray := prog_4_method_16_code
def yX2_takeAway : MethodName := ⟨RX2, "takeAway", "(I)I"⟩
abbrev cX2_stopTurn : ByteArray := prog_4_method_17_code
def yX2_stopTurn : MethodName := ⟨RX2, "stopTurn", "(I)I"⟩
abbrev cX2_total : ByteArray := prog_4_method_18_code
def yX2_total : MethodName := ⟨RX2, "total", "(I)I"⟩
abbrev cX2_counts : ByteArray := prog_4_method_19_code
def yX2_counts : MethodName := ⟨RX2, "counts", "(II)Z"⟩
def RX3 : String := "CroquetLawn$Position"
def TX3 : u_T := fun k => match k with
  | 0 => ("CroquetLawn$Position", "run", "[I", true)
  | 1 => ("CroquetLawn$Position", "freeLeft", "[I", true)
  | 2 => ("CroquetLawn$Position", "side", "I", false)
  | 3 => ("CroquetLawn$Position", "inPlay", "I", false)
  | 4 => ("CroquetLawn$Position", "toGo", "I", false)
  | 5 => ("CroquetLawn$Position", "live", "I", false)
  | 6 => ("CroquetLawn$Position", "mustCroquet", "I", false)
  | _ => ("CroquetLawn$Position", "freeBall", "I", false)
def tyX3 : Nat → FieldType := fun k => match k with
  | 0 => .array .int
  | 1 => .array .int
  | 2 => .int
  | 3 => .int
  | 4 => .int
  | 5 => .int
  | 6 => .int
  | _ => .int
abbrev wsX30 : List Cond := u_ws RX3 TX3 8
theorem nmX3 : ∀ a, a < 8 → ∀ b, b < 8 → a ≠ b → (TX3 a).2.1 ≠ (TX3 b).2.1 := by decide +kernel
theorem tyX3_ok : ∀ k, k < 8 → parseFieldDescriptor (TX3 k).2.2.1 = some (tyX3 k) := by decide +kernel
abbrev cX3_init : ByteArray := prog_5_method_1_code
def yX3_init : MethodName := ⟨RX3, "<init>", "()V"⟩
abbrev cX3_begin : ByteArray := prog_5_method_2_code
def yX3_begin : MethodName := ⟨RX3, "begin", "(II)V"⟩
abbrev cX3_allows : ByteArray := prog_5_method_3_code
def yX3_allows : MethodName := ⟨RX3, "allows", "(II)Z"⟩
abbrev cX3_allowsFree : ByteArray := prog_5_method_4_code
def yX3_allowsFree : MethodName := ⟨RX3, "allowsFree", "()Z"⟩
abbrev cX3_allowsFresh : ByteArray := prog_5_method_5_code
def yX3_allowsFresh : MethodName := ⟨RX3, "allowsFresh", "(II)Z"⟩
abbrev cX3_isWrong : ByteArray := prog_5_method_6_code
def yX3_isWrong : MethodName := ⟨RX3, "isWrong", "(II)Z"⟩
abbrev cX3_lead : ByteArray := prog_5_method_7_code
def yX3_lead : MethodName := ⟨RX3, "lead", "(II)V"⟩
abbrev cX3_bringIn : ByteArray := prog_5_method_8_code
def yX3_bringIn : MethodName := ⟨RX3, "bringIn", "(I)V"⟩
abbrev cX3_roquet : ByteArray := prog_5_method_9_code
def yX3_roquet : MethodName := ⟨RX3, "roquet", "(I)V"⟩
abbrev cX3_croquet : ByteArray := prog_5_method_10_code
def yX3_croquet : MethodName := ⟨RX3, "croquet", "()V"⟩
abbrev cX3_spendFree : ByteArray := prog_5_method_11_code
def yX3_spendFree : MethodName := ⟨RX3, "spendFree", "()V"⟩
abbrev cX3_endTurn : ByteArray := prog_5_method_12_code
def yX3_endTurn : MethodName := ⟨RX3, "endTurn", "()V"⟩
abbrev cX3_stopFor : ByteArray := prog_5_method_13_code
def yX3_stopFor : MethodName := ⟨RX3, "stopFor", "(I)V"⟩
abbrev cX3_isOut : ByteArray := prog_5_method_14_code
def yX3_isOut : MethodName := ⟨RX3, "isOut", "(I)Z"⟩
abbrev cX3_winner : ByteArray := prog_5_method_15_code
def yX3_winner : MethodName := ⟨RX3, "winner", "()I"⟩
abbrev cX3_side : ByteArray := prog_5_method_16_code
def yX3_side : MethodName := ⟨RX3, "side", "()I"⟩
abbrev cX3_inPlay : ByteArray := prog_5_method_17_code
def yX3_inPlay : MethodName := ⟨RX3, "inPlay", "()I"⟩
abbrev cX3_tell : ByteArray := prog_5_method_18_code
def yX3_tell : MethodName := ⟨RX3, "tell", "(I)I"⟩
def RX4 : String := "CroquetLawn$Roster"
def TX4 : u_T := fun k => match k with
  | _ => ("CroquetLawn$Roster", "indexes", "[I", true)
def tyX4 : Nat → FieldType := fun k => match k with
  | _ => .array .int
abbrev wsX40 : List Cond := u_ws RX4 TX4 1
theorem nmX4 : ∀ a, a < 1 → ∀ b, b < 1 → a ≠ b → (TX4 a).2.1 ≠ (TX4 b).2.1 := by decide +kernel
theorem tyX4_ok : ∀ k, k < 1 → parseFieldDescriptor (TX4 k).2.2.1 = some (tyX4 k) := by decide +kernel
abbrev cX4_init : ByteArray := prog_6_method_1_code
def yX4_init : MethodName := ⟨RX4, "<init>", "()V"⟩
abbrev cX4_put : ByteArray := prog_6_method_2_code
def yX4_put : MethodName := ⟨RX4, "put", "(II)I"⟩
abbrev cX4_handicapOf : ByteArray := prog_6_method_3_code
def yX4_handicapOf : MethodName := ⟨RX4, "handicapOf", "(I)I"⟩
abbrev cX4_freeTurnsOfOther : ByteArray := prog_6_method_4_code
def yX4_freeTurnsOfOther : MethodName := ⟨RX4, "freeTurnsOfOther", "(II)I"⟩
abbrev cX4_move : ByteArray := prog_6_method_5_code
def yX4_move : MethodName := ⟨RX4, "move", "(II)I"⟩
abbrev cX4_held : ByteArray := prog_6_method_6_code
def yX4_held : MethodName := ⟨RX4, "held", "(III)I"⟩
def RX5 : String := "CroquetLawn"
def TX5 : u_T := fun k => match k with
  | 0 => ("CroquetLawn", "play", "LCroquetLawn$Play;", true)
  | 1 => ("CroquetLawn", "book", "LCroquetLawn$Laws;", true)
  | 2 => ("CroquetLawn", "roster", "LCroquetLawn$Roster;", true)
  | _ => ("CroquetLawn", "meeting", "LCroquetLawn$Meeting;", true)
def tyX5 : Nat → FieldType := fun k => match k with
  | 0 => .object "CroquetLawn$Play"
  | 1 => .object "CroquetLawn$Laws"
  | 2 => .object "CroquetLawn$Roster"
  | _ => .object "CroquetLawn$Meeting"
abbrev wsX50 : List Cond := u_ws RX5 TX5 4
theorem nmX5 : ∀ a, a < 4 → ∀ b, b < 4 → a ≠ b → (TX5 a).2.1 ≠ (TX5 b).2.1 := by decide +kernel
theorem tyX5_ok : ∀ k, k < 4 → parseFieldDescriptor (TX5 k).2.2.1 = some (tyX5 k) := by decide +kernel
abbrev cX5_init : ByteArray := prog_1_method_1_code
def yX5_init : MethodName := ⟨RX5, "<init>", "()V"⟩
abbrev cX5_game : ByteArray := prog_1_method_2_code
def yX5_game : MethodName := ⟨RX5, "game", "(II)I"⟩
abbrev cX5_stroke : ByteArray := prog_1_method_3_code
def yX5_stroke : MethodName := ⟨RX5, "stroke", "(II)I"⟩
abbrev cX5_told : ByteArray := prog_1_method_4_code
def yX5_told : MethodName := ⟨RX5, "told", "(II)I"⟩
abbrev cX5_hit : ByteArray := prog_1_method_5_code
def yX5_hit : MethodName := ⟨RX5, "hit", "(I)I"⟩
abbrev cX5_state : ByteArray := prog_1_method_6_code
def yX5_state : MethodName := ⟨RX5, "state", "(II)I"⟩
abbrev cX5_found : ByteArray := prog_1_method_7_code
def yX5_found : MethodName := ⟨RX5, "found", "(I)I"⟩
abbrev cX5_type : ByteArray := prog_1_method_8_code
def yX5_type : MethodName := ⟨RX5, "type", "(JI)I"⟩
abbrev cX5_laws : ByteArray := prog_1_method_9_code
def yX5_laws : MethodName := ⟨RX5, "laws", "()I"⟩
abbrev cX5_count : ByteArray := prog_1_method_10_code
def yX5_count : MethodName := ⟨RX5, "count", "(I)I"⟩
abbrev cX5_index : ByteArray := prog_1_method_11_code
def yX5_index : MethodName := ⟨RX5, "index", "(II)I"⟩
abbrev cX5_handicap : ByteArray := prog_1_method_12_code
def yX5_handicap : MethodName := ⟨RX5, "handicap", "(I)I"⟩
abbrev cX5_settle : ByteArray := prog_1_method_13_code
def yX5_settle : MethodName := ⟨RX5, "settle", "()I"⟩
abbrev cX5_match : ByteArray := prog_1_method_14_code
def yX5_match : MethodName := ⟨RX5, "match", "(II)I"⟩
abbrev cX5_win : ByteArray := prog_1_method_15_code
def yX5_win : MethodName := ⟨RX5, "win", "(II)I"⟩
abbrev cX5_unwin : ByteArray := prog_1_method_16_code
def yX5_unwin : MethodName := ⟨RX5, "unwin", "(I)I"⟩
abbrev cX5_champion : ByteArray := prog_1_method_17_code
def yX5_champion : MethodName := ⟨RX5, "champion", "()I"⟩
abbrev cX5_lawns : ByteArray := prog_1_method_18_code
def yX5_lawns : MethodName := ⟨RX5, "lawns", "(I)I"⟩
abbrev cX5_lay : ByteArray := prog_1_method_19_code
def yX5_lay : MethodName := ⟨RX5, "lay", "(I)I"⟩
abbrev cX5_hour : ByteArray := prog_1_method_20_code
def yX5_hour : MethodName := ⟨RX5, "hour", "(I)I"⟩
abbrev cX5_clear : ByteArray := prog_1_method_21_code
def yX5_clear : MethodName := ⟨RX5, "clear", "()I"⟩
abbrev cX5_within : ByteArray := prog_1_method_22_code
def yX5_within : MethodName := ⟨RX5, "within", "(III)Z"⟩
abbrev cX5_isPlayer : ByteArray := prog_1_method_23_code
def yX5_isPlayer : MethodName := ⟨RX5, "isPlayer", "(I)Z"⟩
abbrev cX5_at : ByteArray := prog_1_method_24_code
def yX5_at : MethodName := ⟨RX5, "at", "([II)I"⟩
abbrev cX5_set : ByteArray := prog_1_method_25_code
def yX5_set : MethodName := ⟨RX5, "set", "([III)V"⟩
def RX6 : String := "CroquetLawnModel"
def TX6 : u_T := fun k => match k with
  | 0 => ("CroquetLawnModel", "indexes", "[I", true)
  | 1 => ("CroquetLawnModel", "hasGame", "Z", false)
  | 2 => ("CroquetLawnModel", "players", "[I", true)
  | 3 => ("CroquetLawnModel", "frees", "[I", true)
  | 4 => ("CroquetLawnModel", "strokes", "I", false)
  | 5 => ("CroquetLawnModel", "kinds", "[I", true)
  | 6 => ("CroquetLawnModel", "hits", "[I", true)
  | 7 => ("CroquetLawnModel", "strikers", "[I", true)
  | 8 => ("CroquetLawnModel", "sides", "[I", true)
  | 9 => ("CroquetLawnModel", "wrong", "[Z", true)
  | 10 => ("CroquetLawnModel", "turnedTo", "[I", true)
  | 11 => ("CroquetLawnModel", "ended", "[Z", true)
  | 12 => ("CroquetLawnModel", "hoops", "[I", true)
  | 13 => ("CroquetLawnModel", "left", "[I", true)
  | 14 => ("CroquetLawnModel", "side", "I", false)
  | 15 => ("CroquetLawnModel", "ball", "I", false)
  | 16 => ("CroquetLawnModel", "go", "I", false)
  | 17 => ("CroquetLawnModel", "live", "I", false)
  | 18 => ("CroquetLawnModel", "must", "I", false)
  | 19 => ("CroquetLawnModel", "lastBall", "I", false)
  | 20 => ("CroquetLawnModel", "lastSide", "I", false)
  | 21 => ("CroquetLawnModel", "turnSide", "I", false)
  | 22 => ("CroquetLawnModel", "numbers", "[I", true)
  | 23 => ("CroquetLawnModel", "letters", "[I", true)
  | 24 => ("CroquetLawnModel", "readNumbers", "[I", true)
  | 25 => ("CroquetLawnModel", "readLetters", "[I", true)
  | 26 => ("CroquetLawnModel", "tape", "[I", true)
  | 27 => ("CroquetLawnModel", "taped", "I", false)
  | 28 => ("CroquetLawnModel", "at", "I", false)
  | 29 => ("CroquetLawnModel", "winners", "[I", true)
  | 30 => ("CroquetLawnModel", "hours", "[I", true)
  | _ => ("CroquetLawnModel", "lawns", "I", false)
def tyX6 : Nat → FieldType := fun k => match k with
  | 0 => .array .int
  | 1 => .boolean
  | 2 => .array .int
  | 3 => .array .int
  | 4 => .int
  | 5 => .array .int
  | 6 => .array .int
  | 7 => .array .int
  | 8 => .array .int
  | 9 => .array .boolean
  | 10 => .array .int
  | 11 => .array .boolean
  | 12 => .array .int
  | 13 => .array .int
  | 14 => .int
  | 15 => .int
  | 16 => .int
  | 17 => .int
  | 18 => .int
  | 19 => .int
  | 20 => .int
  | 21 => .int
  | 22 => .array .int
  | 23 => .array .int
  | 24 => .array .int
  | 25 => .array .int
  | 26 => .array .int
  | 27 => .int
  | 28 => .int
  | 29 => .array .int
  | 30 => .array .int
  | _ => .int
abbrev wsX60 : List Cond := u_ws RX6 TX6 32
theorem nmX6 : ∀ a, a < 32 → ∀ b, b < 32 → a ≠ b → (TX6 a).2.1 ≠ (TX6 b).2.1 := by decide +kernel
theorem tyX6_ok : ∀ k, k < 32 → parseFieldDescriptor (TX6 k).2.2.1 = some (tyX6 k) := by decide +kernel
abbrev cX6_in : ByteArray := prog_8_method_1_code
def yX6_in : MethodName := ⟨RX6, "in", "(III)Z"⟩
abbrev cX6_init : ByteArray := prog_8_method_2_code
def yX6_init : MethodName := ⟨RX6, "<init>", "()V"⟩
abbrev cX6_isPlayer : ByteArray := prog_8_method_3_code
def yX6_isPlayer : MethodName := ⟨RX6, "isPlayer", "(I)Z"⟩
abbrev cX6_index : ByteArray := prog_8_method_4_code
def yX6_index : MethodName := ⟨RX6, "index", "(II)I"⟩
abbrev cX6_handicapOf : ByteArray := prog_8_method_5_code
def yX6_handicapOf : MethodName := ⟨RX6, "handicapOf", "(I)I"⟩
abbrev cX6_handicap : ByteArray := prog_8_method_6_code
def yX6_handicap : MethodName := ⟨RX6, "handicap", "(I)I"⟩
abbrev cX6_game : ByteArray := prog_8_method_7_code
def yX6_game : MethodName := ⟨RX6, "game", "(II)I"⟩
abbrev cX6_forget : ByteArray := prog_8_method_8_code
def yX6_forget : MethodName := ⟨RX6, "forget", "(I)V"⟩
abbrev cX6_others : ByteArray := prog_8_method_9_code
def yX6_others : MethodName := ⟨RX6, "others", "()I"⟩
abbrev cX6_begin : ByteArray := prog_8_method_10_code
def yX6_begin : MethodName := ⟨RX6, "begin", "(II)V"⟩
abbrev cX6_endTurn : ByteArray := prog_8_method_11_code
def yX6_endTurn : MethodName := ⟨RX6, "endTurn", "()V"⟩
abbrev cX6_turnTo : ByteArray := prog_8_method_12_code
def yX6_turnTo : MethodName := ⟨RX6, "turnTo", "(I)V"⟩
abbrev cX6_won : ByteArray := prog_8_method_13_code
def yX6_won : MethodName := ⟨RX6, "won", "()I"⟩
abbrev cX6_canDo : ByteArray := prog_8_method_14_code
def yX6_canDo : MethodName := ⟨RX6, "canDo", "(II)Z"⟩
abbrev cX6_isWrong : ByteArray := prog_8_method_15_code
def yX6_isWrong : MethodName := ⟨RX6, "isWrong", "(II)Z"⟩
abbrev cX6_make : ByteArray := prog_8_method_16_code
def yX6_make : MethodName := ⟨RX6, "make", "(II)V"⟩
abbrev cX6_goTo : ByteArray := prog_8_method_17_code
def yX6_goTo : MethodName := ⟨RX6, "goTo", "(I)V"⟩
abbrev cX6_stroke : ByteArray := prog_8_method_18_code
def yX6_stroke : MethodName := ⟨RX6, "stroke", "(II)I"⟩
abbrev cX6_isStroke : ByteArray := prog_8_method_19_code
def yX6_isStroke : MethodName := ⟨RX6, "isStroke", "(I)Z"⟩
abbrev cX6_told : ByteArray := prog_8_method_20_code
def yX6_told : MethodName := ⟨RX6, "told", "(II)I"⟩
abbrev cX6_hit : ByteArray := prog_8_method_21_code
def yX6_hit : MethodName := ⟨RX6, "hit", "(I)I"⟩
abbrev cX6_state : ByteArray := prog_8_method_22_code
def yX6_state : MethodName := ⟨RX6, "state", "(II)I"⟩
abbrev cX6_count : ByteArray := prog_8_method_23_code
def yX6_count : MethodName := ⟨RX6, "count", "(I)I"⟩
abbrev cX6_found : ByteArray := prog_8_method_24_code
def yX6_found : MethodName := ⟨RX6, "found", "(I)I"⟩
abbrev cX6_type : ByteArray := prog_8_method_25_code
def yX6_type : MethodName := ⟨RX6, "type", "(JI)I"⟩
abbrev cX6_next : ByteArray := prog_8_method_26_code
def yX6_next : MethodName := ⟨RX6, "next", "()I"⟩
abbrev cX6_readClause : ByteArray := prog_8_method_27_code
def yX6_readClause : MethodName := ⟨RX6, "readClause", "()Z"⟩
abbrev cX6_readLaws : ByteArray := prog_8_method_28_code
def yX6_readLaws : MethodName := ⟨RX6, "readLaws", "()I"⟩
abbrev cX6_laws : ByteArray := prog_8_method_29_code
def yX6_laws : MethodName := ⟨RX6, "laws", "()I"⟩
abbrev cX6_held : ByteArray := prog_8_method_30_code
def yX6_held : MethodName := ⟨RX6, "held", "(III)I"⟩
abbrev cX6_settle : ByteArray := prog_8_method_31_code
def yX6_settle : MethodName := ⟨RX6, "settle", "()I"⟩
abbrev cX6_isMatch : ByteArray := prog_8_method_32_code
def yX6_isMatch : MethodName := ⟨RX6, "isMatch", "(I)Z"⟩
abbrev cX6_isFirst : ByteArray := prog_8_method_33_code
def yX6_isFirst : MethodName := ⟨RX6, "isFirst", "(I)Z"⟩
abbrev cX6_from : ByteArray := prog_8_method_34_code
def yX6_from : MethodName := ⟨RX6, "from", "(II)I"⟩
abbrev cX6_playerOf : ByteArray := prog_8_method_35_code
def yX6_playerOf : MethodName := ⟨RX6, "playerOf", "(II)I"⟩
abbrev cX6_match : ByteArray := prog_8_method_36_code
def yX6_match : MethodName := ⟨RX6, "match", "(II)I"⟩
abbrev cX6_win : ByteArray := prog_8_method_37_code
def yX6_win : MethodName := ⟨RX6, "win", "(II)I"⟩
abbrev cX6_unwin : ByteArray := prog_8_method_38_code
def yX6_unwin : MethodName := ⟨RX6, "unwin", "(I)I"⟩
abbrev cX6_champion : ByteArray := prog_8_method_39_code
def yX6_champion : MethodName := ⟨RX6, "champion", "()I"⟩
abbrev cX6_laid : ByteArray := prog_8_method_40_code
def yX6_laid : MethodName := ⟨RX6, "laid", "()I"⟩
abbrev cX6_lawns : ByteArray := prog_8_method_41_code
def yX6_lawns : MethodName := ⟨RX6, "lawns", "(I)I"⟩
abbrev cX6_isIn : ByteArray := prog_8_method_42_code
def yX6_isIn : MethodName := ⟨RX6, "isIn", "(II)Z"⟩
abbrev cX6_isFree : ByteArray := prog_8_method_43_code
def yX6_isFree : MethodName := ⟨RX6, "isFree", "(II)Z"⟩
abbrev cX6_lay : ByteArray := prog_8_method_44_code
def yX6_lay : MethodName := ⟨RX6, "lay", "(I)I"⟩
abbrev cX6_hour : ByteArray := prog_8_method_45_code
def yX6_hour : MethodName := ⟨RX6, "hour", "(I)I"⟩
abbrev cX6_clear : ByteArray := prog_8_method_46_code
def yX6_clear : MethodName := ⟨RX6, "clear", "()I"⟩
def RJ9 : String := "java/lang/Math"
def TJ9 : u_T := fun k => match k with
  | _ => ("", "", "", false)
def tyJ9 : Nat → FieldType := fun k => match k with
  | _ => .int
abbrev wsJ90 : List Cond := u_ws RJ9 TJ9 0
theorem nmJ9 : ∀ a, a < 0 → ∀ b, b < 0 → a ≠ b → (TJ9 a).2.1 ≠ (TJ9 b).2.1 := by decide +kernel
theorem tyJ9_ok : ∀ k, k < 0 → parseFieldDescriptor (TJ9 k).2.2.1 = some (tyJ9 k) := by decide +kernel
abbrev cJ9_abs_0f7a4 : ByteArray := prog_9_method_59_code
def yJ9_abs_0f7a4 : MethodName := ⟨RJ9, "abs", "(I)I"⟩
abbrev cJ9_max_7cf53 : ByteArray := prog_9_method_65_code
def yJ9_max_7cf53 : MethodName := ⟨RJ9, "max", "(II)I"⟩
abbrev cJ9_min_7cf53 : ByteArray := prog_9_method_69_code
def yJ9_min_7cf53 : MethodName := ⟨RJ9, "min", "(II)I"⟩
def RJ7 : String := "java/util/Arrays"
def TJ7 : u_T := fun k => match k with
  | _ => ("", "", "", false)
def tyJ7 : Nat → FieldType := fun k => match k with
  | _ => .int
abbrev wsJ70 : List Cond := u_ws RJ7 TJ7 0
theorem nmJ7 : ∀ a, a < 0 → ∀ b, b < 0 → a ≠ b → (TJ7 a).2.1 ≠ (TJ7 b).2.1 := by decide +kernel
theorem tyJ7_ok : ∀ k, k < 0 → parseFieldDescriptor (TJ7 k).2.2.1 = some (tyJ7 k) := by decide +kernel
abbrev cJ7_fill_53178 : ByteArray := prog_10_method_103_code
def yJ7_fill_53178 : MethodName := ⟨RJ7, "fill", "([II)V"⟩
def RL : String := "CroquetLawnLaw"
abbrev cL_law : ByteArray := code
def yL_law : MethodName := ⟨RL, "law", "([I)Z"⟩
abbrev vwCl : List vw_C := [(RX0, TX0, 7), (RX1, TX1, 3), (RX2, TX2, 13), (RX3, TX3, 8), (RX4, TX4, 1), (RX5, TX5, 4), (RX6, TX6, 32)]
