-- names of the classes, fields, methods; decode rows: out of the claim's own printed NAMES text, by wip/gen/names.py
theorem dX0_init_0 : decode cX0_init 0 = .ok (.aload_n 0, 1) := by decide +kernel
theorem dX0_init_1 : decode cX0_init 1 = .ok (.invokespecial 3, 3) := by decide +kernel
theorem dX0_init_4 : decode cX0_init 4 = .ok (.aload_n 0, 1) := by decide +kernel
theorem dX0_init_5 : decode cX0_init 5 = .ok (.bipush 30, 2) := by decide +kernel
theorem dX0_init_7 : decode cX0_init 7 = .ok (.newarray .int, 2) := by decide +kernel
theorem dX0_init_9 : decode cX0_init 9 = .ok (.putfield 11, 3) := by decide +kernel
theorem dX0_init_12 : decode cX0_init 12 = .ok (.aload_n 0, 1) := by decide +kernel
theorem dX0_init_13 : decode cX0_init 13 = .ok (.iconst 2, 1) := by decide +kernel
theorem dX0_init_14 : decode cX0_init 14 = .ok (.newarray .int, 2) := by decide +kernel
theorem dX0_init_16 : decode cX0_init 16 = .ok (.putfield 15, 3) := by decide +kernel
theorem dX0_init_19 : decode cX0_init 19 = .ok (.aload_n 0, 1) := by decide +kernel
theorem dX0_init_20 : decode cX0_init 20 = .ok (.iconst 2, 1) := by decide +kernel
theorem dX0_init_21 : decode cX0_init 21 = .ok (.newarray .int, 2) := by decide +kernel
theorem dX0_init_23 : decode cX0_init 23 = .ok (.putfield 18, 3) := by decide +kernel
theorem dX0_init_26 : decode cX0_init 26 = .ok (.aload_n 0, 1) := by decide +kernel
theorem dX0_init_27 : decode cX0_init 27 = .ok (.iconst 2, 1) := by decide +kernel
theorem dX0_init_28 : decode cX0_init 28 = .ok (.newarray .int, 2) := by decide +kernel
theorem dX0_init_30 : decode cX0_init 30 = .ok (.putfield 21, 3) := by decide +kernel
theorem dX0_init_33 : decode cX0_init 33 = .ok (.aload_n 0, 1) := by decide +kernel
theorem dX0_init_34 : decode cX0_init 34 = .ok (.iconst 2, 1) := by decide +kernel
theorem dX0_init_35 : decode cX0_init 35 = .ok (.newarray .int, 2) := by decide +kernel
theorem dX0_init_37 : decode cX0_init 37 = .ok (.putfield 24, 3) := by decide +kernel
theorem dX0_init_40 : decode cX0_init 40 = .ok (.aload_n 0, 1) := by decide +kernel
theorem dX0_init_41 : decode cX0_init 41 = .ok (.getfield 15, 3) := by decide +kernel
theorem dX0_init_44 : decode cX0_init 44 = .ok (.iconst 0, 1) := by decide +kernel
theorem dX0_init_45 : decode cX0_init 45 = .ok (.iconst 5, 1) := by decide +kernel
theorem dX0_init_46 : decode cX0_init 46 = .ok (.invokestatic 27, 3) := by decide +kernel
theorem dX0_init_49 : decode cX0_init 49 = .ok (.aload_n 0, 1) := by decide +kernel
theorem dX0_init_50 : decode cX0_init 50 = .ok (.getfield 18, 3) := by decide +kernel
theorem dX0_init_53 : decode cX0_init 53 = .ok (.iconst 0, 1) := by decide +kernel
theorem dX0_init_54 : decode cX0_init 54 = .ok (.bipush 82, 2) := by decide +kernel
theorem dX0_init_56 : decode cX0_init 56 = .ok (.invokestatic 27, 3) := by decide +kernel
theorem dX0_init_59 : decode cX0_init 59 = .ok (.aload_n 0, 1) := by decide +kernel
theorem dX0_init_60 : decode cX0_init 60 = .ok (.getfield 15, 3) := by decide +kernel
theorem dX0_init_63 : decode cX0_init 63 = .ok (.iconst 1, 1) := by decide +kernel
theorem dX0_init_64 : decode cX0_init 64 = .ok (.iconst 2, 1) := by decide +kernel
theorem dX0_init_65 : decode cX0_init 65 = .ok (.invokestatic 27, 3) := by decide +kernel
theorem dX0_init_68 : decode cX0_init 68 = .ok (.aload_n 0, 1) := by decide +kernel
theorem dX0_init_69 : decode cX0_init 69 = .ok (.getfield 18, 3) := by decide +kernel
theorem dX0_init_72 : decode cX0_init 72 = .ok (.iconst 1, 1) := by decide +kernel
theorem dX0_init_73 : decode cX0_init 73 = .ok (.bipush 78, 2) := by decide +kernel
theorem dX0_init_75 : decode cX0_init 75 = .ok (.invokestatic 27, 3) := by decide +kernel
theorem dX0_init_78 : decode cX0_init 78 = .ok (.return_, 1) := by decide +kernel
theorem dX0_letterFor_0 : decode cX0_letterFor 0 = .ok (.iload_n 1, 1) := by decide +kernel
theorem dX0_letterFor_1 : decode cX0_letterFor 1 = .ok (.ifCond .ne 7, 3) := by decide +kernel
theorem dX0_letterFor_4 : decode cX0_letterFor 4 = .ok (.iconst 0, 1) := by decide +kernel
theorem dX0_letterFor_5 : decode cX0_letterFor 5 = .ok (.goto 4, 3) := by decide +kernel
theorem dX0_letterFor_8 : decode cX0_letterFor 8 = .ok (.iconst 1, 1) := by decide +kernel
theorem dX0_letterFor_9 : decode cX0_letterFor 9 = .ok (.istore_n 3, 1) := by decide +kernel
theorem dX0_letterFor_10 : decode cX0_letterFor 10 = .ok (.iload_n 2, 1) := by decide +kernel
theorem dX0_letterFor_11 : decode cX0_letterFor 11 = .ok (.aload_n 0, 1) := by decide +kernel
theorem dX0_letterFor_12 : decode cX0_letterFor 12 = .ok (.getfield 15, 3) := by decide +kernel
theorem dX0_letterFor_15 : decode cX0_letterFor 15 = .ok (.iload_n 3, 1) := by decide +kernel
theorem dX0_letterFor_16 : decode cX0_letterFor 16 = .ok (.invokestatic 31, 3) := by decide +kernel
theorem dX0_letterFor_19 : decode cX0_letterFor 19 = .ok (.if_icmp .gt 14, 3) := by decide +kernel
theorem dX0_letterFor_22 : decode cX0_letterFor 22 = .ok (.aload_n 0, 1) := by decide +kernel
theorem dX0_letterFor_23 : decode cX0_letterFor 23 = .ok (.getfield 18, 3) := by decide +kernel
theorem dX0_letterFor_26 : decode cX0_letterFor 26 = .ok (.iload_n 3, 1) := by decide +kernel
theorem dX0_letterFor_27 : decode cX0_letterFor 27 = .ok (.invokestatic 31, 3) := by decide +kernel
theorem dX0_letterFor_30 : decode cX0_letterFor 30 = .ok (.goto 5, 3) := by decide +kernel
theorem dX0_letterFor_33 : decode cX0_letterFor 33 = .ok (.bipush (-4), 2) := by decide +kernel
theorem dX0_letterFor_35 : decode cX0_letterFor 35 = .ok (.ireturn, 1) := by decide +kernel
theorem dX0_append_0 : decode cX0_append 0 = .ok (.iload_n 3, 1) := by decide +kernel
theorem dX0_append_1 : decode cX0_append 1 = .ok (.iconst 1, 1) := by decide +kernel
theorem dX0_append_2 : decode cX0_append 2 = .ok (.bipush 8, 2) := by decide +kernel
theorem dX0_append_4 : decode cX0_append 4 = .ok (.invokestatic 35, 3) := by decide +kernel
theorem dX0_append_7 : decode cX0_append 7 = .ok (.ifCond .ne 5, 3) := by decide +kernel
theorem dX0_append_10 : decode cX0_append 10 = .ok (.iconst (-1), 1) := by decide +kernel
theorem dX0_append_11 : decode cX0_append 11 = .ok (.ireturn, 1) := by decide +kernel
theorem dX0_append_12 : decode cX0_append 12 = .ok (.iconst 0, 1) := by decide +kernel
theorem dX0_append_13 : decode cX0_append 13 = .ok (.istore 4, 2) := by decide +kernel
theorem dX0_append_15 : decode cX0_append 15 = .ok (.iload 4, 2) := by decide +kernel
theorem dX0_append_17 : decode cX0_append 17 = .ok (.iload_n 3, 1) := by decide +kernel
theorem dX0_append_18 : decode cX0_append 18 = .ok (.if_icmp .ge 27, 3) := by decide +kernel
theorem dX0_append_21 : decode cX0_append 21 = .ok (.lload_n 1, 1) := by decide +kernel
theorem dX0_append_22 : decode cX0_append 22 = .ok (.iload 4, 2) := by decide +kernel
theorem dX0_append_24 : decode cX0_append 24 = .ok (.invokestatic 39, 3) := by decide +kernel
theorem dX0_append_27 : decode cX0_append 27 = .ok (.bipush 32, 2) := by decide +kernel
theorem dX0_append_29 : decode cX0_append 29 = .ok (.bipush 126, 2) := by decide +kernel
theorem dX0_append_31 : decode cX0_append 31 = .ok (.invokestatic 35, 3) := by decide +kernel
theorem dX0_append_34 : decode cX0_append 34 = .ok (.ifCond .ne 5, 3) := by decide +kernel
theorem dX0_append_37 : decode cX0_append 37 = .ok (.iconst (-1), 1) := by decide +kernel
theorem dX0_append_38 : decode cX0_append 38 = .ok (.ireturn, 1) := by decide +kernel
theorem dX0_append_39 : decode cX0_append 39 = .ok (.iinc 4 1, 3) := by decide +kernel
theorem dX0_append_42 : decode cX0_append 42 = .ok (.goto (-27), 3) := by decide +kernel
theorem dX0_append_45 : decode cX0_append 45 = .ok (.aload_n 0, 1) := by decide +kernel
theorem dX0_append_46 : decode cX0_append 46 = .ok (.getfield 43, 3) := by decide +kernel
theorem dX0_append_49 : decode cX0_append 49 = .ok (.iload_n 3, 1) := by decide +kernel
theorem dX0_append_50 : decode cX0_append 50 = .ok (.iadd, 1) := by decide +kernel
theorem dX0_append_51 : decode cX0_append 51 = .ok (.bipush 30, 2) := by decide +kernel
theorem dX0_append_53 : decode cX0_append 53 = .ok (.if_icmp .le 6, 3) := by decide +kernel
theorem dX0_append_56 : decode cX0_append 56 = .ok (.bipush (-3), 2) := by decide +kernel
theorem dX0_append_58 : decode cX0_append 58 = .ok (.ireturn, 1) := by decide +kernel
theorem dX0_append_59 : decode cX0_append 59 = .ok (.iload_n 3, 1) := by decide +kernel
theorem dX0_append_60 : decode cX0_append 60 = .ok (.iconst 1, 1) := by decide +kernel
theorem dX0_append_61 : decode cX0_append 61 = .ok (.isub, 1) := by decide +kernel
theorem dX0_append_62 : decode cX0_append 62 = .ok (.istore 4, 2) := by decide +kernel
theorem dX0_append_64 : decode cX0_append 64 = .ok (.iload 4, 2) := by decide +kernel
theorem dX0_append_66 : decode cX0_append 66 = .ok (.ifCond .lt 36, 3) := by decide +kernel
theorem dX0_append_69 : decode cX0_append 69 = .ok (.aload_n 0, 1) := by decide +kernel
theorem dX0_append_70 : decode cX0_append 70 = .ok (.getfield 11, 3) := by decide +kernel
theorem dX0_append_73 : decode cX0_append 73 = .ok (.aload_n 0, 1) := by decide +kernel
theorem dX0_append_74 : decode cX0_append 74 = .ok (.getfield 43, 3) := by decide +kernel
theorem dX0_append_77 : decode cX0_append 77 = .ok (.lload_n 1, 1) := by decide +kernel
theorem dX0_append_78 : decode cX0_append 78 = .ok (.iload 4, 2) := by decide +kernel
theorem dX0_append_80 : decode cX0_append 80 = .ok (.invokestatic 39, 3) := by decide +kernel
theorem dX0_append_83 : decode cX0_append 83 = .ok (.invokestatic 27, 3) := by decide +kernel
theorem dX0_append_86 : decode cX0_append 86 = .ok (.aload_n 0, 1) := by decide +kernel
theorem dX0_append_87 : decode cX0_append 87 = .ok (.dup, 1) := by decide +kernel
theorem dX0_append_88 : decode cX0_append 88 = .ok (.getfield 43, 3) := by decide +kernel
theorem dX0_append_91 : decode cX0_append 91 = .ok (.iconst 1, 1) := by decide +kernel
theorem dX0_append_92 : decode cX0_append 92 = .ok (.iadd, 1) := by decide +kernel
theorem dX0_append_93 : decode cX0_append 93 = .ok (.putfield 43, 3) := by decide +kernel
theorem dX0_append_96 : decode cX0_append 96 = .ok (.iinc 4 (-1), 3) := by decide +kernel
theorem dX0_append_99 : decode cX0_append 99 = .ok (.goto (-35), 3) := by decide +kernel
theorem dX0_append_102 : decode cX0_append 102 = .ok (.aload_n 0, 1) := by decide +kernel
theorem dX0_append_103 : decode cX0_append 103 = .ok (.getfield 43, 3) := by decide +kernel
theorem dX0_append_106 : decode cX0_append 106 = .ok (.ireturn, 1) := by decide +kernel
theorem dX0_byteOf_0 : decode cX0_byteOf 0 = .ok (.lload_n 0, 1) := by decide +kernel
theorem dX0_byteOf_1 : decode cX0_byteOf 1 = .ok (.bipush 8, 2) := by decide +kernel
theorem dX0_byteOf_3 : decode cX0_byteOf 3 = .ok (.iload_n 2, 1) := by decide +kernel
theorem dX0_byteOf_4 : decode cX0_byteOf 4 = .ok (.imul, 1) := by decide +kernel
theorem dX0_byteOf_5 : decode cX0_byteOf 5 = .ok (.lushr, 1) := by decide +kernel
theorem dX0_byteOf_6 : decode cX0_byteOf 6 = .ok (.ldc2_w 47, 3) := by decide +kernel
theorem dX0_byteOf_9 : decode cX0_byteOf 9 = .ok (.land, 1) := by decide +kernel
theorem dX0_byteOf_10 : decode cX0_byteOf 10 = .ok (.l2i, 1) := by decide +kernel
theorem dX0_byteOf_11 : decode cX0_byteOf 11 = .ok (.ireturn, 1) := by decide +kernel
theorem dX0_takeTape_0 : decode cX0_takeTape 0 = .ok (.aload_n 0, 1) := by decide +kernel
theorem dX0_takeTape_1 : decode cX0_takeTape 1 = .ok (.iconst 0, 1) := by decide +kernel
theorem dX0_takeTape_2 : decode cX0_takeTape 2 = .ok (.putfield 49, 3) := by decide +kernel
theorem dX0_takeTape_5 : decode cX0_takeTape 5 = .ok (.aload_n 0, 1) := by decide +kernel
theorem dX0_takeTape_6 : decode cX0_takeTape 6 = .ok (.getfield 24, 3) := by decide +kernel
theorem dX0_takeTape_9 : decode cX0_takeTape 9 = .ok (.bipush (-4), 2) := by decide +kernel
theorem dX0_takeTape_11 : decode cX0_takeTape 11 = .ok (.invokestatic 52, 3) := by decide +kernel
theorem dX0_takeTape_14 : decode cX0_takeTape 14 = .ok (.aload_n 0, 1) := by decide +kernel
theorem dX0_takeTape_15 : decode cX0_takeTape 15 = .ok (.invokevirtual 58, 3) := by decide +kernel
theorem dX0_takeTape_18 : decode cX0_takeTape 18 = .ok (.istore_n 1, 1) := by decide +kernel
theorem dX0_takeTape_19 : decode cX0_takeTape 19 = .ok (.iload_n 1, 1) := by decide +kernel
theorem dX0_takeTape_20 : decode cX0_takeTape 20 = .ok (.ifCond .lt 7, 3) := by decide +kernel
theorem dX0_takeTape_23 : decode cX0_takeTape 23 = .ok (.aload_n 0, 1) := by decide +kernel
theorem dX0_takeTape_24 : decode cX0_takeTape 24 = .ok (.invokevirtual 62, 3) := by decide +kernel
theorem dX0_takeTape_27 : decode cX0_takeTape 27 = .ok (.aload_n 0, 1) := by decide +kernel
theorem dX0_takeTape_28 : decode cX0_takeTape 28 = .ok (.iconst 0, 1) := by decide +kernel
theorem dX0_takeTape_29 : decode cX0_takeTape 29 = .ok (.putfield 43, 3) := by decide +kernel
theorem dX0_takeTape_32 : decode cX0_takeTape 32 = .ok (.iload_n 1, 1) := by decide +kernel
theorem dX0_takeTape_33 : decode cX0_takeTape 33 = .ok (.ireturn, 1) := by decide +kernel
theorem dX0_adoptDraft_0 : decode cX0_adoptDraft 0 = .ok (.iconst 0, 1) := by decide +kernel
theorem dX0_adoptDraft_1 : decode cX0_adoptDraft 1 = .ok (.istore_n 1, 1) := by decide +kernel
theorem dX0_adoptDraft_2 : decode cX0_adoptDraft 2 = .ok (.iload_n 1, 1) := by decide +kernel
theorem dX0_adoptDraft_3 : decode cX0_adoptDraft 3 = .ok (.iconst 2, 1) := by decide +kernel
theorem dX0_adoptDraft_4 : decode cX0_adoptDraft 4 = .ok (.if_icmp .ge 41, 3) := by decide +kernel
theorem dX0_adoptDraft_7 : decode cX0_adoptDraft 7 = .ok (.aload_n 0, 1) := by decide +kernel
theorem dX0_adoptDraft_8 : decode cX0_adoptDraft 8 = .ok (.getfield 15, 3) := by decide +kernel
theorem dX0_adoptDraft_11 : decode cX0_adoptDraft 11 = .ok (.iload_n 1, 1) := by decide +kernel
theorem dX0_adoptDraft_12 : decode cX0_adoptDraft 12 = .ok (.aload_n 0, 1) := by decide +kernel
theorem dX0_adoptDraft_13 : decode cX0_adoptDraft 13 = .ok (.getfield 21, 3) := by decide +kernel
theorem dX0_adoptDraft_16 : decode cX0_adoptDraft 16 = .ok (.iload_n 1, 1) := by decide +kernel
theorem dX0_adoptDraft_17 : decode cX0_adoptDraft 17 = .ok (.invokestatic 31, 3) := by decide +kernel
theorem dX0_adoptDraft_20 : decode cX0_adoptDraft 20 = .ok (.invokestatic 27, 3) := by decide +kernel
theorem dX0_adoptDraft_23 : decode cX0_adoptDraft 23 = .ok (.aload_n 0, 1) := by decide +kernel
theorem dX0_adoptDraft_24 : decode cX0_adoptDraft 24 = .ok (.getfield 18, 3) := by decide +kernel
theorem dX0_adoptDraft_27 : decode cX0_adoptDraft 27 = .ok (.iload_n 1, 1) := by decide +kernel
theorem dX0_adoptDraft_28 : decode cX0_adoptDraft 28 = .ok (.aload_n 0, 1) := by decide +kernel
theorem dX0_adoptDraft_29 : decode cX0_adoptDraft 29 = .ok (.getfield 24, 3) := by decide +kernel
theorem dX0_adoptDraft_32 : decode cX0_adoptDraft 32 = .ok (.iload_n 1, 1) := by decide +kernel
theorem dX0_adoptDraft_33 : decode cX0_adoptDraft 33 = .ok (.invokestatic 31, 3) := by decide +kernel
theorem dX0_adoptDraft_36 : decode cX0_adoptDraft 36 = .ok (.invokestatic 27, 3) := by decide +kernel
theorem dX0_adoptDraft_39 : decode cX0_adoptDraft 39 = .ok (.iinc 1 1, 3) := by decide +kernel
theorem dX0_adoptDraft_42 : decode cX0_adoptDraft 42 = .ok (.goto (-40), 3) := by decide +kernel
theorem dX0_adoptDraft_45 : decode cX0_adoptDraft 45 = .ok (.return_, 1) := by decide +kernel
theorem dX0_read_0 : decode cX0_read 0 = .ok (.aload_n 0, 1) := by decide +kernel
theorem dX0_read_1 : decode cX0_read 1 = .ok (.invokevirtual 65, 3) := by decide +kernel
theorem dX0_read_4 : decode cX0_read 4 = .ok (.ifCond .eq 5, 3) := by decide +kernel
theorem dX0_read_7 : decode cX0_read 7 = .ok (.iconst 0, 1) := by decide +kernel
theorem dX0_read_8 : decode cX0_read 8 = .ok (.ireturn, 1) := by decide +kernel
theorem dX0_read_9 : decode cX0_read 9 = .ok (.aload_n 0, 1) := by decide +kernel
theorem dX0_read_10 : decode cX0_read 10 = .ok (.invokevirtual 69, 3) := by decide +kernel
theorem dX0_read_13 : decode cX0_read 13 = .ok (.ifCond .ne 11, 3) := by decide +kernel
theorem dX0_read_16 : decode cX0_read 16 = .ok (.bipush (-20), 2) := by decide +kernel
theorem dX0_read_18 : decode cX0_read 18 = .ok (.aload_n 0, 1) := by decide +kernel
theorem dX0_read_19 : decode cX0_read 19 = .ok (.getfield 49, 3) := by decide +kernel
theorem dX0_read_22 : decode cX0_read 22 = .ok (.isub, 1) := by decide +kernel
theorem dX0_read_23 : decode cX0_read 23 = .ok (.ireturn, 1) := by decide +kernel
theorem dX0_read_24 : decode cX0_read 24 = .ok (.aload_n 0, 1) := by decide +kernel
theorem dX0_read_25 : decode cX0_read 25 = .ok (.invokevirtual 65, 3) := by decide +kernel
theorem dX0_read_28 : decode cX0_read 28 = .ok (.ifCond .eq 5, 3) := by decide +kernel
theorem dX0_read_31 : decode cX0_read 31 = .ok (.iconst 1, 1) := by decide +kernel
theorem dX0_read_32 : decode cX0_read 32 = .ok (.ireturn, 1) := by decide +kernel
theorem dX0_read_33 : decode cX0_read 33 = .ok (.aload_n 0, 1) := by decide +kernel
theorem dX0_read_34 : decode cX0_read 34 = .ok (.invokevirtual 72, 3) := by decide +kernel
theorem dX0_read_37 : decode cX0_read 37 = .ok (.bipush 59, 2) := by decide +kernel
theorem dX0_read_39 : decode cX0_read 39 = .ok (.if_icmp .eq 11, 3) := by decide +kernel
theorem dX0_read_42 : decode cX0_read 42 = .ok (.bipush (-20), 2) := by decide +kernel
theorem dX0_read_44 : decode cX0_read 44 = .ok (.aload_n 0, 1) := by decide +kernel
theorem dX0_read_45 : decode cX0_read 45 = .ok (.getfield 49, 3) := by decide +kernel
theorem dX0_read_48 : decode cX0_read 48 = .ok (.isub, 1) := by decide +kernel
theorem dX0_read_49 : decode cX0_read 49 = .ok (.ireturn, 1) := by decide +kernel
theorem dX0_read_50 : decode cX0_read 50 = .ok (.aload_n 0, 1) := by decide +kernel
theorem dX0_read_51 : decode cX0_read 51 = .ok (.dup, 1) := by decide +kernel
theorem dX0_read_52 : decode cX0_read 52 = .ok (.getfield 49, 3) := by decide +kernel
theorem dX0_read_55 : decode cX0_read 55 = .ok (.iconst 1, 1) := by decide +kernel
theorem dX0_read_56 : decode cX0_read 56 = .ok (.iadd, 1) := by decide +kernel
theorem dX0_read_57 : decode cX0_read 57 = .ok (.putfield 49, 3) := by decide +kernel
theorem dX0_read_60 : decode cX0_read 60 = .ok (.aload_n 0, 1) := by decide +kernel
theorem dX0_read_61 : decode cX0_read 61 = .ok (.invokevirtual 69, 3) := by decide +kernel
theorem dX0_read_64 : decode cX0_read 64 = .ok (.ifCond .eq 14, 3) := by decide +kernel
theorem dX0_read_67 : decode cX0_read 67 = .ok (.aload_n 0, 1) := by decide +kernel
theorem dX0_read_68 : decode cX0_read 68 = .ok (.invokevirtual 65, 3) := by decide +kernel
theorem dX0_read_71 : decode cX0_read 71 = .ok (.ifCond .eq 7, 3) := by decide +kernel
theorem dX0_read_74 : decode cX0_read 74 = .ok (.iconst 2, 1) := by decide +kernel
theorem dX0_read_75 : decode cX0_read 75 = .ok (.goto 10, 3) := by decide +kernel
theorem dX0_read_78 : decode cX0_read 78 = .ok (.bipush (-20), 2) := by decide +kernel
theorem dX0_read_80 : decode cX0_read 80 = .ok (.aload_n 0, 1) := by decide +kernel
theorem dX0_read_81 : decode cX0_read 81 = .ok (.getfield 49, 3) := by decide +kernel
theorem dX0_read_84 : decode cX0_read 84 = .ok (.isub, 1) := by decide +kernel
theorem dX0_read_85 : decode cX0_read 85 = .ok (.ireturn, 1) := by decide +kernel
theorem dX0_readClause_0 : decode cX0_readClause 0 = .ok (.aload_n 0, 1) := by decide +kernel
theorem dX0_readClause_1 : decode cX0_readClause 1 = .ok (.invokevirtual 75, 3) := by decide +kernel
theorem dX0_readClause_4 : decode cX0_readClause 4 = .ok (.aload_n 0, 1) := by decide +kernel
theorem dX0_readClause_5 : decode cX0_readClause 5 = .ok (.invokevirtual 72, 3) := by decide +kernel
theorem dX0_readClause_8 : decode cX0_readClause 8 = .ok (.istore_n 1, 1) := by decide +kernel
theorem dX0_readClause_9 : decode cX0_readClause 9 = .ok (.iload_n 1, 1) := by decide +kernel
theorem dX0_readClause_10 : decode cX0_readClause 10 = .ok (.bipush 112, 2) := by decide +kernel
theorem dX0_readClause_12 : decode cX0_readClause 12 = .ok (.if_icmp .eq 11, 3) := by decide +kernel
theorem dX0_readClause_15 : decode cX0_readClause 15 = .ok (.iload_n 1, 1) := by decide +kernel
theorem dX0_readClause_16 : decode cX0_readClause 16 = .ok (.bipush 114, 2) := by decide +kernel
theorem dX0_readClause_18 : decode cX0_readClause 18 = .ok (.if_icmp .eq 5, 3) := by decide +kernel
theorem dX0_readClause_21 : decode cX0_readClause 21 = .ok (.iconst 0, 1) := by decide +kernel
theorem dX0_readClause_22 : decode cX0_readClause 22 = .ok (.ireturn, 1) := by decide +kernel
theorem dX0_readClause_23 : decode cX0_readClause 23 = .ok (.aload_n 0, 1) := by decide +kernel
theorem dX0_readClause_24 : decode cX0_readClause 24 = .ok (.dup, 1) := by decide +kernel
theorem dX0_readClause_25 : decode cX0_readClause 25 = .ok (.getfield 49, 3) := by decide +kernel
theorem dX0_readClause_28 : decode cX0_readClause 28 = .ok (.iconst 1, 1) := by decide +kernel
theorem dX0_readClause_29 : decode cX0_readClause 29 = .ok (.iadd, 1) := by decide +kernel
theorem dX0_readClause_30 : decode cX0_readClause 30 = .ok (.putfield 49, 3) := by decide +kernel
theorem dX0_readClause_33 : decode cX0_readClause 33 = .ok (.aload_n 0, 1) := by decide +kernel
theorem dX0_readClause_34 : decode cX0_readClause 34 = .ok (.invokevirtual 75, 3) := by decide +kernel
theorem dX0_readClause_37 : decode cX0_readClause 37 = .ok (.aload_n 0, 1) := by decide +kernel
theorem dX0_readClause_38 : decode cX0_readClause 38 = .ok (.invokevirtual 78, 3) := by decide +kernel
theorem dX0_readClause_41 : decode cX0_readClause 41 = .ok (.istore_n 2, 1) := by decide +kernel
theorem dX0_readClause_42 : decode cX0_readClause 42 = .ok (.iload_n 2, 1) := by decide +kernel
theorem dX0_readClause_43 : decode cX0_readClause 43 = .ok (.bipush (-4), 2) := by decide +kernel
theorem dX0_readClause_45 : decode cX0_readClause 45 = .ok (.if_icmp .ne 5, 3) := by decide +kernel
theorem dX0_readClause_48 : decode cX0_readClause 48 = .ok (.iconst 0, 1) := by decide +kernel
theorem dX0_readClause_49 : decode cX0_readClause 49 = .ok (.ireturn, 1) := by decide +kernel
theorem dX0_readClause_50 : decode cX0_readClause 50 = .ok (.aload_n 0, 1) := by decide +kernel
theorem dX0_readClause_51 : decode cX0_readClause 51 = .ok (.invokevirtual 75, 3) := by decide +kernel
theorem dX0_readClause_54 : decode cX0_readClause 54 = .ok (.aload_n 0, 1) := by decide +kernel
theorem dX0_readClause_55 : decode cX0_readClause 55 = .ok (.invokevirtual 72, 3) := by decide +kernel
theorem dX0_readClause_58 : decode cX0_readClause 58 = .ok (.istore_n 3, 1) := by decide +kernel
theorem dX0_readClause_59 : decode cX0_readClause 59 = .ok (.iload_n 3, 1) := by decide +kernel
theorem dX0_readClause_60 : decode cX0_readClause 60 = .ok (.bipush 82, 2) := by decide +kernel
theorem dX0_readClause_62 : decode cX0_readClause 62 = .ok (.if_icmp .eq 11, 3) := by decide +kernel
theorem dX0_readClause_65 : decode cX0_readClause 65 = .ok (.iload_n 3, 1) := by decide +kernel
theorem dX0_readClause_66 : decode cX0_readClause 66 = .ok (.bipush 78, 2) := by decide +kernel
theorem dX0_readClause_68 : decode cX0_readClause 68 = .ok (.if_icmp .eq 5, 3) := by decide +kernel
theorem dX0_readClause_71 : decode cX0_readClause 71 = .ok (.iconst 0, 1) := by decide +kernel
theorem dX0_readClause_72 : decode cX0_readClause 72 = .ok (.ireturn, 1) := by decide +kernel
theorem dX0_readClause_73 : decode cX0_readClause 73 = .ok (.aload_n 0, 1) := by decide +kernel
theorem dX0_readClause_74 : decode cX0_readClause 74 = .ok (.dup, 1) := by decide +kernel
theorem dX0_readClause_75 : decode cX0_readClause 75 = .ok (.getfield 49, 3) := by decide +kernel
theorem dX0_readClause_78 : decode cX0_readClause 78 = .ok (.iconst 1, 1) := by decide +kernel
theorem dX0_readClause_79 : decode cX0_readClause 79 = .ok (.iadd, 1) := by decide +kernel
theorem dX0_readClause_80 : decode cX0_readClause 80 = .ok (.putfield 49, 3) := by decide +kernel
theorem dX0_readClause_83 : decode cX0_readClause 83 = .ok (.aload_n 0, 1) := by decide +kernel
theorem dX0_readClause_84 : decode cX0_readClause 84 = .ok (.getfield 21, 3) := by decide +kernel
theorem dX0_readClause_87 : decode cX0_readClause 87 = .ok (.iload_n 1, 1) := by decide +kernel
theorem dX0_readClause_88 : decode cX0_readClause 88 = .ok (.bipush 112, 2) := by decide +kernel
theorem dX0_readClause_90 : decode cX0_readClause 90 = .ok (.if_icmp .ne 7, 3) := by decide +kernel
theorem dX0_readClause_93 : decode cX0_readClause 93 = .ok (.iconst 0, 1) := by decide +kernel
theorem dX0_readClause_94 : decode cX0_readClause 94 = .ok (.goto 4, 3) := by decide +kernel
theorem dX0_readClause_97 : decode cX0_readClause 97 = .ok (.iconst 1, 1) := by decide +kernel
theorem dX0_readClause_98 : decode cX0_readClause 98 = .ok (.iload_n 2, 1) := by decide +kernel
theorem dX0_readClause_99 : decode cX0_readClause 99 = .ok (.invokestatic 27, 3) := by decide +kernel
theorem dX0_readClause_102 : decode cX0_readClause 102 = .ok (.aload_n 0, 1) := by decide +kernel
theorem dX0_readClause_103 : decode cX0_readClause 103 = .ok (.getfield 24, 3) := by decide +kernel
theorem dX0_readClause_106 : decode cX0_readClause 106 = .ok (.iload_n 1, 1) := by decide +kernel
theorem dX0_readClause_107 : decode cX0_readClause 107 = .ok (.bipush 112, 2) := by decide +kernel
theorem dX0_readClause_109 : decode cX0_readClause 109 = .ok (.if_icmp .ne 7, 3) := by decide +kernel
theorem dX0_readClause_112 : decode cX0_readClause 112 = .ok (.iconst 0, 1) := by decide +kernel
theorem dX0_readClause_113 : decode cX0_readClause 113 = .ok (.goto 4, 3) := by decide +kernel
theorem dX0_readClause_116 : decode cX0_readClause 116 = .ok (.iconst 1, 1) := by decide +kernel
theorem dX0_readClause_117 : decode cX0_readClause 117 = .ok (.iload_n 3, 1) := by decide +kernel
theorem dX0_readClause_118 : decode cX0_readClause 118 = .ok (.invokestatic 27, 3) := by decide +kernel
theorem dX0_readClause_121 : decode cX0_readClause 121 = .ok (.iconst 1, 1) := by decide +kernel
theorem dX0_readClause_122 : decode cX0_readClause 122 = .ok (.ireturn, 1) := by decide +kernel
theorem dX0_readNumber_0 : decode cX0_readNumber 0 = .ok (.aload_n 0, 1) := by decide +kernel
theorem dX0_readNumber_1 : decode cX0_readNumber 1 = .ok (.getfield 49, 3) := by decide +kernel
theorem dX0_readNumber_4 : decode cX0_readNumber 4 = .ok (.istore_n 1, 1) := by decide +kernel
theorem dX0_readNumber_5 : decode cX0_readNumber 5 = .ok (.iconst 0, 1) := by decide +kernel
theorem dX0_readNumber_6 : decode cX0_readNumber 6 = .ok (.istore_n 2, 1) := by decide +kernel
theorem dX0_readNumber_7 : decode cX0_readNumber 7 = .ok (.aload_n 0, 1) := by decide +kernel
theorem dX0_readNumber_8 : decode cX0_readNumber 8 = .ok (.getfield 49, 3) := by decide +kernel
theorem dX0_readNumber_11 : decode cX0_readNumber 11 = .ok (.aload_n 0, 1) := by decide +kernel
theorem dX0_readNumber_12 : decode cX0_readNumber 12 = .ok (.getfield 43, 3) := by decide +kernel
theorem dX0_readNumber_15 : decode cX0_readNumber 15 = .ok (.if_icmp .ge 48, 3) := by decide +kernel
theorem dX0_readNumber_18 : decode cX0_readNumber 18 = .ok (.aload_n 0, 1) := by decide +kernel
theorem dX0_readNumber_19 : decode cX0_readNumber 19 = .ok (.invokevirtual 72, 3) := by decide +kernel
theorem dX0_readNumber_22 : decode cX0_readNumber 22 = .ok (.bipush 48, 2) := by decide +kernel
theorem dX0_readNumber_24 : decode cX0_readNumber 24 = .ok (.bipush 57, 2) := by decide +kernel
theorem dX0_readNumber_26 : decode cX0_readNumber 26 = .ok (.invokestatic 35, 3) := by decide +kernel
theorem dX0_readNumber_29 : decode cX0_readNumber 29 = .ok (.ifCond .eq 34, 3) := by decide +kernel
theorem dX0_readNumber_32 : decode cX0_readNumber 32 = .ok (.bipush 100, 2) := by decide +kernel
theorem dX0_readNumber_34 : decode cX0_readNumber 34 = .ok (.iload_n 2, 1) := by decide +kernel
theorem dX0_readNumber_35 : decode cX0_readNumber 35 = .ok (.bipush 10, 2) := by decide +kernel
theorem dX0_readNumber_37 : decode cX0_readNumber 37 = .ok (.imul, 1) := by decide +kernel
theorem dX0_readNumber_38 : decode cX0_readNumber 38 = .ok (.aload_n 0, 1) := by decide +kernel
theorem dX0_readNumber_39 : decode cX0_readNumber 39 = .ok (.invokevirtual 72, 3) := by decide +kernel
theorem dX0_readNumber_42 : decode cX0_readNumber 42 = .ok (.iadd, 1) := by decide +kernel
theorem dX0_readNumber_43 : decode cX0_readNumber 43 = .ok (.bipush 48, 2) := by decide +kernel
theorem dX0_readNumber_45 : decode cX0_readNumber 45 = .ok (.isub, 1) := by decide +kernel
theorem dX0_readNumber_46 : decode cX0_readNumber 46 = .ok (.invokestatic 81, 3) := by decide +kernel
theorem dX0_readNumber_49 : decode cX0_readNumber 49 = .ok (.istore_n 2, 1) := by decide +kernel
theorem dX0_readNumber_50 : decode cX0_readNumber 50 = .ok (.aload_n 0, 1) := by decide +kernel
theorem dX0_readNumber_51 : decode cX0_readNumber 51 = .ok (.dup, 1) := by decide +kernel
theorem dX0_readNumber_52 : decode cX0_readNumber 52 = .ok (.getfield 49, 3) := by decide +kernel
theorem dX0_readNumber_55 : decode cX0_readNumber 55 = .ok (.iconst 1, 1) := by decide +kernel
theorem dX0_readNumber_56 : decode cX0_readNumber 56 = .ok (.iadd, 1) := by decide +kernel
theorem dX0_readNumber_57 : decode cX0_readNumber 57 = .ok (.putfield 49, 3) := by decide +kernel
theorem dX0_readNumber_60 : decode cX0_readNumber 60 = .ok (.goto (-53), 3) := by decide +kernel
theorem dX0_readNumber_63 : decode cX0_readNumber 63 = .ok (.aload_n 0, 1) := by decide +kernel
theorem dX0_readNumber_64 : decode cX0_readNumber 64 = .ok (.getfield 49, 3) := by decide +kernel
theorem dX0_readNumber_67 : decode cX0_readNumber 67 = .ok (.iload_n 1, 1) := by decide +kernel
theorem dX0_readNumber_68 : decode cX0_readNumber 68 = .ok (.if_icmp .ne 6, 3) := by decide +kernel
theorem dX0_readNumber_71 : decode cX0_readNumber 71 = .ok (.bipush (-4), 2) := by decide +kernel
theorem dX0_readNumber_73 : decode cX0_readNumber 73 = .ok (.ireturn, 1) := by decide +kernel
theorem dX0_readNumber_74 : decode cX0_readNumber 74 = .ok (.iload_n 2, 1) := by decide +kernel
theorem dX0_readNumber_75 : decode cX0_readNumber 75 = .ok (.bipush 99, 2) := by decide +kernel
theorem dX0_readNumber_77 : decode cX0_readNumber 77 = .ok (.if_icmp .le 11, 3) := by decide +kernel
theorem dX0_readNumber_80 : decode cX0_readNumber 80 = .ok (.aload_n 0, 1) := by decide +kernel
theorem dX0_readNumber_81 : decode cX0_readNumber 81 = .ok (.iload_n 1, 1) := by decide +kernel
theorem dX0_readNumber_82 : decode cX0_readNumber 82 = .ok (.putfield 49, 3) := by decide +kernel
theorem dX0_readNumber_85 : decode cX0_readNumber 85 = .ok (.bipush (-4), 2) := by decide +kernel
theorem dX0_readNumber_87 : decode cX0_readNumber 87 = .ok (.ireturn, 1) := by decide +kernel
theorem dX0_readNumber_88 : decode cX0_readNumber 88 = .ok (.iload_n 2, 1) := by decide +kernel
theorem dX0_readNumber_89 : decode cX0_readNumber 89 = .ok (.ireturn, 1) := by decide +kernel
theorem dX0_skipBlanks_0 : decode cX0_skipBlanks 0 = .ok (.aload_n 0, 1) := by decide +kernel
theorem dX0_skipBlanks_1 : decode cX0_skipBlanks 1 = .ok (.getfield 49, 3) := by decide +kernel
theorem dX0_skipBlanks_4 : decode cX0_skipBlanks 4 = .ok (.aload_n 0, 1) := by decide +kernel
theorem dX0_skipBlanks_5 : decode cX0_skipBlanks 5 = .ok (.getfield 43, 3) := by decide +kernel
theorem dX0_skipBlanks_8 : decode cX0_skipBlanks 8 = .ok (.if_icmp .ge 25, 3) := by decide +kernel
theorem dX0_skipBlanks_11 : decode cX0_skipBlanks 11 = .ok (.aload_n 0, 1) := by decide +kernel
theorem dX0_skipBlanks_12 : decode cX0_skipBlanks 12 = .ok (.invokevirtual 72, 3) := by decide +kernel
theorem dX0_skipBlanks_15 : decode cX0_skipBlanks 15 = .ok (.bipush 32, 2) := by decide +kernel
theorem dX0_skipBlanks_17 : decode cX0_skipBlanks 17 = .ok (.if_icmp .ne 16, 3) := by decide +kernel
theorem dX0_skipBlanks_20 : decode cX0_skipBlanks 20 = .ok (.aload_n 0, 1) := by decide +kernel
theorem dX0_skipBlanks_21 : decode cX0_skipBlanks 21 = .ok (.dup, 1) := by decide +kernel
theorem dX0_skipBlanks_22 : decode cX0_skipBlanks 22 = .ok (.getfield 49, 3) := by decide +kernel
theorem dX0_skipBlanks_25 : decode cX0_skipBlanks 25 = .ok (.iconst 1, 1) := by decide +kernel
theorem dX0_skipBlanks_26 : decode cX0_skipBlanks 26 = .ok (.iadd, 1) := by decide +kernel
theorem dX0_skipBlanks_27 : decode cX0_skipBlanks 27 = .ok (.putfield 49, 3) := by decide +kernel
theorem dX0_skipBlanks_30 : decode cX0_skipBlanks 30 = .ok (.goto (-30), 3) := by decide +kernel
theorem dX0_skipBlanks_33 : decode cX0_skipBlanks 33 = .ok (.return_, 1) := by decide +kernel
theorem dX0_atEnd_0 : decode cX0_atEnd 0 = .ok (.aload_n 0, 1) := by decide +kernel
theorem dX0_atEnd_1 : decode cX0_atEnd 1 = .ok (.invokevirtual 75, 3) := by decide +kernel
theorem dX0_atEnd_4 : decode cX0_atEnd 4 = .ok (.aload_n 0, 1) := by decide +kernel
theorem dX0_atEnd_5 : decode cX0_atEnd 5 = .ok (.getfield 49, 3) := by decide +kernel
theorem dX0_atEnd_8 : decode cX0_atEnd 8 = .ok (.aload_n 0, 1) := by decide +kernel
theorem dX0_atEnd_9 : decode cX0_atEnd 9 = .ok (.getfield 43, 3) := by decide +kernel
theorem dX0_atEnd_12 : decode cX0_atEnd 12 = .ok (.if_icmp .lt 7, 3) := by decide +kernel
theorem dX0_atEnd_15 : decode cX0_atEnd 15 = .ok (.iconst 1, 1) := by decide +kernel
theorem dX0_atEnd_16 : decode cX0_atEnd 16 = .ok (.goto 4, 3) := by decide +kernel
theorem dX0_atEnd_19 : decode cX0_atEnd 19 = .ok (.iconst 0, 1) := by decide +kernel
theorem dX0_atEnd_20 : decode cX0_atEnd 20 = .ok (.ireturn, 1) := by decide +kernel
theorem dX0_here_0 : decode cX0_here 0 = .ok (.aload_n 0, 1) := by decide +kernel
theorem dX0_here_1 : decode cX0_here 1 = .ok (.getfield 49, 3) := by decide +kernel
theorem dX0_here_4 : decode cX0_here 4 = .ok (.aload_n 0, 1) := by decide +kernel
theorem dX0_here_5 : decode cX0_here 5 = .ok (.getfield 43, 3) := by decide +kernel
theorem dX0_here_8 : decode cX0_here 8 = .ok (.if_icmp .ge 17, 3) := by decide +kernel
theorem dX0_here_11 : decode cX0_here 11 = .ok (.aload_n 0, 1) := by decide +kernel
theorem dX0_here_12 : decode cX0_here 12 = .ok (.getfield 11, 3) := by decide +kernel
theorem dX0_here_15 : decode cX0_here 15 = .ok (.aload_n 0, 1) := by decide +kernel
theorem dX0_here_16 : decode cX0_here 16 = .ok (.getfield 49, 3) := by decide +kernel
theorem dX0_here_19 : decode cX0_here 19 = .ok (.invokestatic 31, 3) := by decide +kernel
theorem dX0_here_22 : decode cX0_here 22 = .ok (.goto 5, 3) := by decide +kernel
theorem dX0_here_25 : decode cX0_here 25 = .ok (.bipush (-4), 2) := by decide +kernel
theorem dX0_here_27 : decode cX0_here 27 = .ok (.ireturn, 1) := by decide +kernel
theorem dX1_init_0 : decode cX1_init 0 = .ok (.aload_n 0, 1) := by decide +kernel
theorem dX1_init_1 : decode cX1_init 1 = .ok (.invokespecial 3, 3) := by decide +kernel
theorem dX1_init_4 : decode cX1_init 4 = .ok (.aload_n 0, 1) := by decide +kernel
theorem dX1_init_5 : decode cX1_init 5 = .ok (.bipush 15, 2) := by decide +kernel
theorem dX1_init_7 : decode cX1_init 7 = .ok (.newarray .int, 2) := by decide +kernel
theorem dX1_init_9 : decode cX1_init 9 = .ok (.putfield 11, 3) := by decide +kernel
theorem dX1_init_12 : decode cX1_init 12 = .ok (.aload_n 0, 1) := by decide +kernel
theorem dX1_init_13 : decode cX1_init 13 = .ok (.bipush 15, 2) := by decide +kernel
theorem dX1_init_15 : decode cX1_init 15 = .ok (.newarray .int, 2) := by decide +kernel
theorem dX1_init_17 : decode cX1_init 17 = .ok (.putfield 15, 3) := by decide +kernel
theorem dX1_init_20 : decode cX1_init 20 = .ok (.aload_n 0, 1) := by decide +kernel
theorem dX1_init_21 : decode cX1_init 21 = .ok (.iconst 2, 1) := by decide +kernel
theorem dX1_init_22 : decode cX1_init 22 = .ok (.putfield 18, 3) := by decide +kernel
theorem dX1_init_25 : decode cX1_init 25 = .ok (.aload_n 0, 1) := by decide +kernel
theorem dX1_init_26 : decode cX1_init 26 = .ok (.getfield 11, 3) := by decide +kernel
theorem dX1_init_29 : decode cX1_init 29 = .ok (.bipush (-4), 2) := by decide +kernel
theorem dX1_init_31 : decode cX1_init 31 = .ok (.invokestatic 22, 3) := by decide +kernel
theorem dX1_init_34 : decode cX1_init 34 = .ok (.aload_n 0, 1) := by decide +kernel
theorem dX1_init_35 : decode cX1_init 35 = .ok (.getfield 15, 3) := by decide +kernel
theorem dX1_init_38 : decode cX1_init 38 = .ok (.bipush (-4), 2) := by decide +kernel
theorem dX1_init_40 : decode cX1_init 40 = .ok (.invokestatic 22, 3) := by decide +kernel
theorem dX1_init_43 : decode cX1_init 43 = .ok (.return_, 1) := by decide +kernel
theorem dX2_init_0 : decode cX2_init 0 = .ok (.aload_n 0, 1) := by decide +kernel
theorem dX2_init_1 : decode cX2_init 1 = .ok (.invokespecial 3, 3) := by decide +kernel
theorem dX2_init_4 : decode cX2_init 4 = .ok (.aload_n 0, 1) := by decide +kernel
theorem dX2_init_5 : decode cX2_init 5 = .ok (.sipush 150, 3) := by decide +kernel
theorem dX2_init_8 : decode cX2_init 8 = .ok (.newarray .int, 2) := by decide +kernel
theorem dX2_init_10 : decode cX2_init 10 = .ok (.putfield 9, 3) := by decide +kernel
theorem dX2_init_13 : decode cX2_init 13 = .ok (.aload_n 0, 1) := by decide +kernel
theorem dX2_init_14 : decode cX2_init 14 = .ok (.sipush 150, 3) := by decide +kernel
theorem dX2_init_17 : decode cX2_init 17 = .ok (.newarray .int, 2) := by decide +kernel
theorem dX2_init_19 : decode cX2_init 19 = .ok (.putfield 15, 3) := by decide +kernel
theorem dX2_init_22 : decode cX2_init 22 = .ok (.aload_n 0, 1) := by decide +kernel
theorem dX2_init_23 : decode cX2_init 23 = .ok (.sipush 150, 3) := by decide +kernel
theorem dX2_init_26 : decode cX2_init 26 = .ok (.newarray .int, 2) := by decide +kernel
theorem dX2_init_28 : decode cX2_init 28 = .ok (.putfield 18, 3) := by decide +kernel
theorem dX2_init_31 : decode cX2_init 31 = .ok (.aload_n 0, 1) := by decide +kernel
theorem dX2_init_32 : decode cX2_init 32 = .ok (.sipush 150, 3) := by decide +kernel
theorem dX2_init_35 : decode cX2_init 35 = .ok (.newarray .int, 2) := by decide +kernel
theorem dX2_init_37 : decode cX2_init 37 = .ok (.putfield 21, 3) := by decide +kernel
theorem dX2_init_40 : decode cX2_init 40 = .ok (.aload_n 0, 1) := by decide +kernel
theorem dX2_init_41 : decode cX2_init 41 = .ok (.sipush 150, 3) := by decide +kernel
theorem dX2_init_44 : decode cX2_init 44 = .ok (.newarray .int, 2) := by decide +kernel
theorem dX2_init_46 : decode cX2_init 46 = .ok (.putfield 24, 3) := by decide +kernel
theorem dX2_init_49 : decode cX2_init 49 = .ok (.aload_n 0, 1) := by decide +kernel
theorem dX2_init_50 : decode cX2_init 50 = .ok (.sipush 151, 3) := by decide +kernel
theorem dX2_init_53 : decode cX2_init 53 = .ok (.newarray .int, 2) := by decide +kernel
theorem dX2_init_55 : decode cX2_init 55 = .ok (.putfield 27, 3) := by decide +kernel
theorem dX2_init_58 : decode cX2_init 58 = .ok (.aload_n 0, 1) := by decide +kernel
theorem dX2_init_59 : decode cX2_init 59 = .ok (.iconst 2, 1) := by decide +kernel
theorem dX2_init_60 : decode cX2_init 60 = .ok (.newarray .int, 2) := by decide +kernel
theorem dX2_init_62 : decode cX2_init 62 = .ok (.putfield 30, 3) := by decide +kernel
theorem dX2_init_65 : decode cX2_init 65 = .ok (.aload_n 0, 1) := by decide +kernel
theorem dX2_init_66 : decode cX2_init 66 = .ok (.new 33, 3) := by decide +kernel
theorem dX2_init_69 : decode cX2_init 69 = .ok (.dup, 1) := by decide +kernel
theorem dX2_init_70 : decode cX2_init 70 = .ok (.invokespecial 35, 3) := by decide +kernel
theorem dX2_init_73 : decode cX2_init 73 = .ok (.putfield 36, 3) := by decide +kernel
theorem dX2_init_76 : decode cX2_init 76 = .ok (.aload_n 0, 1) := by decide +kernel
theorem dX2_init_77 : decode cX2_init 77 = .ok (.new 33, 3) := by decide +kernel
theorem dX2_init_80 : decode cX2_init 80 = .ok (.dup, 1) := by decide +kernel
theorem dX2_init_81 : decode cX2_init 81 = .ok (.invokespecial 35, 3) := by decide +kernel
theorem dX2_init_84 : decode cX2_init 84 = .ok (.putfield 40, 3) := by decide +kernel
theorem dX2_init_87 : decode cX2_init 87 = .ok (.return_, 1) := by decide +kernel
theorem dX2_begin_0 : decode cX2_begin 0 = .ok (.aload_n 0, 1) := by decide +kernel
theorem dX2_begin_1 : decode cX2_begin 1 = .ok (.getfield 30, 3) := by decide +kernel
theorem dX2_begin_4 : decode cX2_begin 4 = .ok (.iconst 0, 1) := by decide +kernel
theorem dX2_begin_5 : decode cX2_begin 5 = .ok (.iload_n 1, 1) := by decide +kernel
theorem dX2_begin_6 : decode cX2_begin 6 = .ok (.invokestatic 43, 3) := by decide +kernel
theorem dX2_begin_9 : decode cX2_begin 9 = .ok (.aload_n 0, 1) := by decide +kernel
theorem dX2_begin_10 : decode cX2_begin 10 = .ok (.getfield 30, 3) := by decide +kernel
theorem dX2_begin_13 : decode cX2_begin 13 = .ok (.iconst 1, 1) := by decide +kernel
theorem dX2_begin_14 : decode cX2_begin 14 = .ok (.iload_n 2, 1) := by decide +kernel
theorem dX2_begin_15 : decode cX2_begin 15 = .ok (.invokestatic 43, 3) := by decide +kernel
theorem dX2_begin_18 : decode cX2_begin 18 = .ok (.aload_n 0, 1) := by decide +kernel
theorem dX2_begin_19 : decode cX2_begin 19 = .ok (.iload_n 3, 1) := by decide +kernel
theorem dX2_begin_20 : decode cX2_begin 20 = .ok (.putfield 47, 3) := by decide +kernel
theorem dX2_begin_23 : decode cX2_begin 23 = .ok (.aload_n 0, 1) := by decide +kernel
theorem dX2_begin_24 : decode cX2_begin 24 = .ok (.iload 4, 2) := by decide +kernel
theorem dX2_begin_26 : decode cX2_begin 26 = .ok (.putfield 51, 3) := by decide +kernel
theorem dX2_begin_29 : decode cX2_begin 29 = .ok (.aload_n 0, 1) := by decide +kernel
theorem dX2_begin_30 : decode cX2_begin 30 = .ok (.iconst 1, 1) := by decide +kernel
theorem dX2_begin_31 : decode cX2_begin 31 = .ok (.putfield 54, 3) := by decide +kernel
theorem dX2_begin_34 : decode cX2_begin 34 = .ok (.aload_n 0, 1) := by decide +kernel
theorem dX2_begin_35 : decode cX2_begin 35 = .ok (.iconst 0, 1) := by decide +kernel
theorem dX2_begin_36 : decode cX2_begin 36 = .ok (.putfield 58, 3) := by decide +kernel
theorem dX2_begin_39 : decode cX2_begin 39 = .ok (.aload_n 0, 1) := by decide +kernel
theorem dX2_begin_40 : decode cX2_begin 40 = .ok (.getfield 27, 3) := by decide +kernel
theorem dX2_begin_43 : decode cX2_begin 43 = .ok (.iconst 0, 1) := by decide +kernel
theorem dX2_begin_44 : decode cX2_begin 44 = .ok (.iconst 0, 1) := by decide +kernel
theorem dX2_begin_45 : decode cX2_begin 45 = .ok (.invokestatic 43, 3) := by decide +kernel
theorem dX2_begin_48 : decode cX2_begin 48 = .ok (.aload_n 0, 1) := by decide +kernel
theorem dX2_begin_49 : decode cX2_begin 49 = .ok (.getfield 36, 3) := by decide +kernel
theorem dX2_begin_52 : decode cX2_begin 52 = .ok (.aload_n 0, 1) := by decide +kernel
theorem dX2_begin_53 : decode cX2_begin 53 = .ok (.getfield 47, 3) := by decide +kernel
theorem dX2_begin_56 : decode cX2_begin 56 = .ok (.aload_n 0, 1) := by decide +kernel
theorem dX2_begin_57 : decode cX2_begin 57 = .ok (.getfield 51, 3) := by decide +kernel
theorem dX2_begin_60 : decode cX2_begin 60 = .ok (.invokevirtual 61, 3) := by decide +kernel
theorem dX2_begin_63 : decode cX2_begin 63 = .ok (.return_, 1) := by decide +kernel
theorem dX2_take_0 : decode cX2_take 0 = .ok (.aload_n 0, 1) := by decide +kernel
theorem dX2_take_1 : decode cX2_take 1 = .ok (.getfield 54, 3) := by decide +kernel
theorem dX2_take_4 : decode cX2_take 4 = .ok (.ifCond .eq 15, 3) := by decide +kernel
theorem dX2_take_7 : decode cX2_take 7 = .ok (.aload_n 0, 1) := by decide +kernel
theorem dX2_take_8 : decode cX2_take 8 = .ok (.getfield 36, 3) := by decide +kernel
theorem dX2_take_11 : decode cX2_take 11 = .ok (.iload_n 1, 1) := by decide +kernel
theorem dX2_take_12 : decode cX2_take 12 = .ok (.iload_n 2, 1) := by decide +kernel
theorem dX2_take_13 : decode cX2_take 13 = .ok (.invokevirtual 73, 3) := by decide +kernel
theorem dX2_take_16 : decode cX2_take 16 = .ok (.ifCond .ne 6, 3) := by decide +kernel
theorem dX2_take_19 : decode cX2_take 19 = .ok (.bipush (-2), 2) := by decide +kernel
theorem dX2_take_21 : decode cX2_take 21 = .ok (.ireturn, 1) := by decide +kernel
theorem dX2_take_22 : decode cX2_take 22 = .ok (.aload_n 0, 1) := by decide +kernel
theorem dX2_take_23 : decode cX2_take 23 = .ok (.getfield 58, 3) := by decide +kernel
theorem dX2_take_26 : decode cX2_take 26 = .ok (.sipush 150, 3) := by decide +kernel
theorem dX2_take_29 : decode cX2_take 29 = .ok (.if_icmp .lt 6, 3) := by decide +kernel
theorem dX2_take_32 : decode cX2_take 32 = .ok (.bipush (-3), 2) := by decide +kernel
theorem dX2_take_34 : decode cX2_take 34 = .ok (.ireturn, 1) := by decide +kernel
theorem dX2_take_35 : decode cX2_take 35 = .ok (.aload_n 0, 1) := by decide +kernel
theorem dX2_take_36 : decode cX2_take 36 = .ok (.getfield 58, 3) := by decide +kernel
theorem dX2_take_39 : decode cX2_take 39 = .ok (.istore_n 3, 1) := by decide +kernel
theorem dX2_take_40 : decode cX2_take 40 = .ok (.aload_n 0, 1) := by decide +kernel
theorem dX2_take_41 : decode cX2_take 41 = .ok (.getfield 9, 3) := by decide +kernel
theorem dX2_take_44 : decode cX2_take 44 = .ok (.iload_n 3, 1) := by decide +kernel
theorem dX2_take_45 : decode cX2_take 45 = .ok (.iload_n 1, 1) := by decide +kernel
theorem dX2_take_46 : decode cX2_take 46 = .ok (.invokestatic 43, 3) := by decide +kernel
theorem dX2_take_49 : decode cX2_take 49 = .ok (.aload_n 0, 1) := by decide +kernel
theorem dX2_take_50 : decode cX2_take 50 = .ok (.getfield 15, 3) := by decide +kernel
theorem dX2_take_53 : decode cX2_take 53 = .ok (.iload_n 3, 1) := by decide +kernel
theorem dX2_take_54 : decode cX2_take 54 = .ok (.iload_n 2, 1) := by decide +kernel
theorem dX2_take_55 : decode cX2_take 55 = .ok (.invokestatic 43, 3) := by decide +kernel
theorem dX2_take_58 : decode cX2_take 58 = .ok (.aload_n 0, 1) := by decide +kernel
theorem dX2_take_59 : decode cX2_take 59 = .ok (.getfield 24, 3) := by decide +kernel
theorem dX2_take_62 : decode cX2_take 62 = .ok (.iload_n 3, 1) := by decide +kernel
theorem dX2_take_63 : decode cX2_take 63 = .ok (.aload_n 0, 1) := by decide +kernel
theorem dX2_take_64 : decode cX2_take 64 = .ok (.getfield 36, 3) := by decide +kernel
theorem dX2_take_67 : decode cX2_take 67 = .ok (.iload_n 1, 1) := by decide +kernel
theorem dX2_take_68 : decode cX2_take 68 = .ok (.iload_n 2, 1) := by decide +kernel
theorem dX2_take_69 : decode cX2_take 69 = .ok (.invokevirtual 77, 3) := by decide +kernel
theorem dX2_take_72 : decode cX2_take 72 = .ok (.ifCond .eq 7, 3) := by decide +kernel
theorem dX2_take_75 : decode cX2_take 75 = .ok (.iconst 1, 1) := by decide +kernel
theorem dX2_take_76 : decode cX2_take 76 = .ok (.goto 4, 3) := by decide +kernel
theorem dX2_take_79 : decode cX2_take 79 = .ok (.iconst 0, 1) := by decide +kernel
theorem dX2_take_80 : decode cX2_take 80 = .ok (.invokestatic 43, 3) := by decide +kernel
theorem dX2_take_83 : decode cX2_take 83 = .ok (.iload_n 1, 1) := by decide +kernel
theorem dX2_take_84 : decode cX2_take 84 = .ok (.invokestatic 80, 3) := by decide +kernel
theorem dX2_take_87 : decode cX2_take 87 = .ok (.ifCond .ne 8, 3) := by decide +kernel
theorem dX2_take_90 : decode cX2_take 90 = .ok (.aload_n 0, 1) := by decide +kernel
theorem dX2_take_91 : decode cX2_take 91 = .ok (.iload_n 3, 1) := by decide +kernel
theorem dX2_take_92 : decode cX2_take 92 = .ok (.invokevirtual 84, 3) := by decide +kernel
theorem dX2_take_95 : decode cX2_take 95 = .ok (.aload_n 0, 1) := by decide +kernel
theorem dX2_take_96 : decode cX2_take 96 = .ok (.getfield 36, 3) := by decide +kernel
theorem dX2_take_99 : decode cX2_take 99 = .ok (.iload_n 1, 1) := by decide +kernel
theorem dX2_take_100 : decode cX2_take 100 = .ok (.iload_n 2, 1) := by decide +kernel
theorem dX2_take_101 : decode cX2_take 101 = .ok (.invokevirtual 88, 3) := by decide +kernel
theorem dX2_take_104 : decode cX2_take 104 = .ok (.iload_n 1, 1) := by decide +kernel
theorem dX2_take_105 : decode cX2_take 105 = .ok (.invokestatic 80, 3) := by decide +kernel
theorem dX2_take_108 : decode cX2_take 108 = .ok (.ifCond .eq 8, 3) := by decide +kernel
theorem dX2_take_111 : decode cX2_take 111 = .ok (.aload_n 0, 1) := by decide +kernel
theorem dX2_take_112 : decode cX2_take 112 = .ok (.iload_n 3, 1) := by decide +kernel
theorem dX2_take_113 : decode cX2_take 113 = .ok (.invokevirtual 84, 3) := by decide +kernel
theorem dX2_take_116 : decode cX2_take 116 = .ok (.aload_n 0, 1) := by decide +kernel
theorem dX2_take_117 : decode cX2_take 117 = .ok (.iload_n 3, 1) := by decide +kernel
theorem dX2_take_118 : decode cX2_take 118 = .ok (.iconst 1, 1) := by decide +kernel
theorem dX2_take_119 : decode cX2_take 119 = .ok (.iadd, 1) := by decide +kernel
theorem dX2_take_120 : decode cX2_take 120 = .ok (.putfield 58, 3) := by decide +kernel
theorem dX2_take_123 : decode cX2_take 123 = .ok (.aload_n 0, 1) := by decide +kernel
theorem dX2_take_124 : decode cX2_take 124 = .ok (.getfield 27, 3) := by decide +kernel
theorem dX2_take_127 : decode cX2_take 127 = .ok (.aload_n 0, 1) := by decide +kernel
theorem dX2_take_128 : decode cX2_take 128 = .ok (.getfield 58, 3) := by decide +kernel
theorem dX2_take_131 : decode cX2_take 131 = .ok (.iconst 0, 1) := by decide +kernel
theorem dX2_take_132 : decode cX2_take 132 = .ok (.invokestatic 43, 3) := by decide +kernel
theorem dX2_take_135 : decode cX2_take 135 = .ok (.iload_n 3, 1) := by decide +kernel
theorem dX2_take_136 : decode cX2_take 136 = .ok (.ireturn, 1) := by decide +kernel
theorem dX2_begins_0 : decode cX2_begins 0 = .ok (.iload_n 0, 1) := by decide +kernel
theorem dX2_begins_1 : decode cX2_begins 1 = .ok (.ifCond .eq 9, 3) := by decide +kernel
theorem dX2_begins_4 : decode cX2_begins 4 = .ok (.iload_n 0, 1) := by decide +kernel
theorem dX2_begins_5 : decode cX2_begins 5 = .ok (.bipush 6, 2) := by decide +kernel
theorem dX2_begins_7 : decode cX2_begins 7 = .ok (.if_icmp .ne 7, 3) := by decide +kernel
theorem dX2_begins_10 : decode cX2_begins 10 = .ok (.iconst 1, 1) := by decide +kernel
theorem dX2_begins_11 : decode cX2_begins 11 = .ok (.goto 4, 3) := by decide +kernel
theorem dX2_begins_14 : decode cX2_begins 14 = .ok (.iconst 0, 1) := by decide +kernel
theorem dX2_begins_15 : decode cX2_begins 15 = .ok (.ireturn, 1) := by decide +kernel
theorem dX2_noteStriker_0 : decode cX2_noteStriker 0 = .ok (.aload_n 0, 1) := by decide +kernel
theorem dX2_noteStriker_1 : decode cX2_noteStriker 1 = .ok (.getfield 18, 3) := by decide +kernel
theorem dX2_noteStriker_4 : decode cX2_noteStriker 4 = .ok (.iload_n 1, 1) := by decide +kernel
theorem dX2_noteStriker_5 : decode cX2_noteStriker 5 = .ok (.aload_n 0, 1) := by decide +kernel
theorem dX2_noteStriker_6 : decode cX2_noteStriker 6 = .ok (.getfield 36, 3) := by decide +kernel
theorem dX2_noteStriker_9 : decode cX2_noteStriker 9 = .ok (.invokevirtual 91, 3) := by decide +kernel
theorem dX2_noteStriker_12 : decode cX2_noteStriker 12 = .ok (.invokestatic 43, 3) := by decide +kernel
theorem dX2_noteStriker_15 : decode cX2_noteStriker 15 = .ok (.aload_n 0, 1) := by decide +kernel
theorem dX2_noteStriker_16 : decode cX2_noteStriker 16 = .ok (.getfield 21, 3) := by decide +kernel
theorem dX2_noteStriker_19 : decode cX2_noteStriker 19 = .ok (.iload_n 1, 1) := by decide +kernel
theorem dX2_noteStriker_20 : decode cX2_noteStriker 20 = .ok (.aload_n 0, 1) := by decide +kernel
theorem dX2_noteStriker_21 : decode cX2_noteStriker 21 = .ok (.getfield 36, 3) := by decide +kernel
theorem dX2_noteStriker_24 : decode cX2_noteStriker 24 = .ok (.invokevirtual 94, 3) := by decide +kernel
theorem dX2_noteStriker_27 : decode cX2_noteStriker 27 = .ok (.invokestatic 43, 3) := by decide +kernel
theorem dX2_noteStriker_30 : decode cX2_noteStriker 30 = .ok (.return_, 1) := by decide +kernel
theorem dX2_has_0 : decode cX2_has 0 = .ok (.iload_n 1, 1) := by decide +kernel
theorem dX2_has_1 : decode cX2_has 1 = .ok (.ifCond .lt 15, 3) := by decide +kernel
theorem dX2_has_4 : decode cX2_has 4 = .ok (.iload_n 1, 1) := by decide +kernel
theorem dX2_has_5 : decode cX2_has 5 = .ok (.aload_n 0, 1) := by decide +kernel
theorem dX2_has_6 : decode cX2_has 6 = .ok (.getfield 58, 3) := by decide +kernel
theorem dX2_has_9 : decode cX2_has 9 = .ok (.if_icmp .ge 7, 3) := by decide +kernel
theorem dX2_has_12 : decode cX2_has 12 = .ok (.iconst 1, 1) := by decide +kernel
theorem dX2_has_13 : decode cX2_has 13 = .ok (.goto 4, 3) := by decide +kernel
theorem dX2_has_16 : decode cX2_has 16 = .ok (.iconst 0, 1) := by decide +kernel
theorem dX2_has_17 : decode cX2_has 17 = .ok (.ireturn, 1) := by decide +kernel
theorem dX2_tell_0 : decode cX2_tell 0 = .ok (.aload_n 0, 1) := by decide +kernel
theorem dX2_tell_1 : decode cX2_tell 1 = .ok (.iload_n 1, 1) := by decide +kernel
theorem dX2_tell_2 : decode cX2_tell 2 = .ok (.invokevirtual 97, 3) := by decide +kernel
theorem dX2_tell_5 : decode cX2_tell 5 = .ok (.ifCond .ne 6, 3) := by decide +kernel
theorem dX2_tell_8 : decode cX2_tell 8 = .ok (.bipush (-4), 2) := by decide +kernel
theorem dX2_tell_10 : decode cX2_tell 10 = .ok (.ireturn, 1) := by decide +kernel
theorem dX2_tell_11 : decode cX2_tell 11 = .ok (.iload_n 2, 1) := by decide +kernel
theorem dX2_tell_12 : decode cX2_tell 12 = .ok (.tableswitch 55 0 2 #[28, 37, 46], 28) := by decide +kernel
theorem dX2_tell_40 : decode cX2_tell 40 = .ok (.aload_n 0, 1) := by decide +kernel
theorem dX2_tell_41 : decode cX2_tell 41 = .ok (.getfield 9, 3) := by decide +kernel
theorem dX2_tell_44 : decode cX2_tell 44 = .ok (.iload_n 1, 1) := by decide +kernel
theorem dX2_tell_45 : decode cX2_tell 45 = .ok (.invokestatic 69, 3) := by decide +kernel
theorem dX2_tell_48 : decode cX2_tell 48 = .ok (.ireturn, 1) := by decide +kernel
theorem dX2_tell_49 : decode cX2_tell 49 = .ok (.aload_n 0, 1) := by decide +kernel
theorem dX2_tell_50 : decode cX2_tell 50 = .ok (.getfield 18, 3) := by decide +kernel
theorem dX2_tell_53 : decode cX2_tell 53 = .ok (.iload_n 1, 1) := by decide +kernel
theorem dX2_tell_54 : decode cX2_tell 54 = .ok (.invokestatic 69, 3) := by decide +kernel
theorem dX2_tell_57 : decode cX2_tell 57 = .ok (.ireturn, 1) := by decide +kernel
theorem dX2_tell_58 : decode cX2_tell 58 = .ok (.aload_n 0, 1) := by decide +kernel
theorem dX2_tell_59 : decode cX2_tell 59 = .ok (.getfield 21, 3) := by decide +kernel
theorem dX2_tell_62 : decode cX2_tell 62 = .ok (.iload_n 1, 1) := by decide +kernel
theorem dX2_tell_63 : decode cX2_tell 63 = .ok (.invokestatic 69, 3) := by decide +kernel
theorem dX2_tell_66 : decode cX2_tell 66 = .ok (.ireturn, 1) := by decide +kernel
theorem dX2_tell_67 : decode cX2_tell 67 = .ok (.aload_n 0, 1) := by decide +kernel
theorem dX2_tell_68 : decode cX2_tell 68 = .ok (.getfield 24, 3) := by decide +kernel
theorem dX2_tell_71 : decode cX2_tell 71 = .ok (.iload_n 1, 1) := by decide +kernel
theorem dX2_tell_72 : decode cX2_tell 72 = .ok (.invokestatic 69, 3) := by decide +kernel
theorem dX2_tell_75 : decode cX2_tell 75 = .ok (.ireturn, 1) := by decide +kernel
theorem dX2_asOf_0 : decode cX2_asOf 0 = .ok (.aload_n 0, 1) := by decide +kernel
theorem dX2_asOf_1 : decode cX2_asOf 1 = .ok (.getfield 54, 3) := by decide +kernel
theorem dX2_asOf_4 : decode cX2_asOf 4 = .ok (.ifCond .eq 15, 3) := by decide +kernel
theorem dX2_asOf_7 : decode cX2_asOf 7 = .ok (.iload_n 1, 1) := by decide +kernel
theorem dX2_asOf_8 : decode cX2_asOf 8 = .ok (.ifCond .lt 11, 3) := by decide +kernel
theorem dX2_asOf_11 : decode cX2_asOf 11 = .ok (.iload_n 1, 1) := by decide +kernel
theorem dX2_asOf_12 : decode cX2_asOf 12 = .ok (.aload_n 0, 1) := by decide +kernel
theorem dX2_asOf_13 : decode cX2_asOf 13 = .ok (.getfield 58, 3) := by decide +kernel
theorem dX2_asOf_16 : decode cX2_asOf 16 = .ok (.if_icmp .le 5, 3) := by decide +kernel
theorem dX2_asOf_19 : decode cX2_asOf 19 = .ok (.iconst (-1), 1) := by decide +kernel
theorem dX2_asOf_20 : decode cX2_asOf 20 = .ok (.ireturn, 1) := by decide +kernel
theorem dX2_asOf_21 : decode cX2_asOf 21 = .ok (.aload_n 0, 1) := by decide +kernel
theorem dX2_asOf_22 : decode cX2_asOf 22 = .ok (.aload_n 0, 1) := by decide +kernel
theorem dX2_asOf_23 : decode cX2_asOf 23 = .ok (.getfield 40, 3) := by decide +kernel
theorem dX2_asOf_26 : decode cX2_asOf 26 = .ok (.iload_n 1, 1) := by decide +kernel
theorem dX2_asOf_27 : decode cX2_asOf 27 = .ok (.invokevirtual 100, 3) := by decide +kernel
theorem dX2_asOf_30 : decode cX2_asOf 30 = .ok (.aload_n 0, 1) := by decide +kernel
theorem dX2_asOf_31 : decode cX2_asOf 31 = .ok (.getfield 40, 3) := by decide +kernel
theorem dX2_asOf_34 : decode cX2_asOf 34 = .ok (.iload_n 2, 1) := by decide +kernel
theorem dX2_asOf_35 : decode cX2_asOf 35 = .ok (.invokevirtual 104, 3) := by decide +kernel
theorem dX2_asOf_38 : decode cX2_asOf 38 = .ok (.ireturn, 1) := by decide +kernel
theorem dX2_leadTo_0 : decode cX2_leadTo 0 = .ok (.aload_n 1, 1) := by decide +kernel
theorem dX2_leadTo_1 : decode cX2_leadTo 1 = .ok (.aload_n 0, 1) := by decide +kernel
theorem dX2_leadTo_2 : decode cX2_leadTo 2 = .ok (.getfield 47, 3) := by decide +kernel
theorem dX2_leadTo_5 : decode cX2_leadTo 5 = .ok (.aload_n 0, 1) := by decide +kernel
theorem dX2_leadTo_6 : decode cX2_leadTo 6 = .ok (.getfield 51, 3) := by decide +kernel
theorem dX2_leadTo_9 : decode cX2_leadTo 9 = .ok (.invokevirtual 61, 3) := by decide +kernel
theorem dX2_leadTo_12 : decode cX2_leadTo 12 = .ok (.aload_n 1, 1) := by decide +kernel
theorem dX2_leadTo_13 : decode cX2_leadTo 13 = .ok (.aload_n 0, 1) := by decide +kernel
theorem dX2_leadTo_14 : decode cX2_leadTo 14 = .ok (.getfield 27, 3) := by decide +kernel
theorem dX2_leadTo_17 : decode cX2_leadTo 17 = .ok (.iconst 0, 1) := by decide +kernel
theorem dX2_leadTo_18 : decode cX2_leadTo 18 = .ok (.invokestatic 69, 3) := by decide +kernel
theorem dX2_leadTo_21 : decode cX2_leadTo 21 = .ok (.invokestatic 108, 3) := by decide +kernel
theorem dX2_leadTo_24 : decode cX2_leadTo 24 = .ok (.iconst 0, 1) := by decide +kernel
theorem dX2_leadTo_25 : decode cX2_leadTo 25 = .ok (.istore_n 3, 1) := by decide +kernel
theorem dX2_leadTo_26 : decode cX2_leadTo 26 = .ok (.iload_n 3, 1) := by decide +kernel
theorem dX2_leadTo_27 : decode cX2_leadTo 27 = .ok (.iload_n 2, 1) := by decide +kernel
theorem dX2_leadTo_28 : decode cX2_leadTo 28 = .ok (.if_icmp .ge 51, 3) := by decide +kernel
theorem dX2_leadTo_31 : decode cX2_leadTo 31 = .ok (.iload_n 3, 1) := by decide +kernel
theorem dX2_leadTo_32 : decode cX2_leadTo 32 = .ok (.aload_n 0, 1) := by decide +kernel
theorem dX2_leadTo_33 : decode cX2_leadTo 33 = .ok (.getfield 58, 3) := by decide +kernel
theorem dX2_leadTo_36 : decode cX2_leadTo 36 = .ok (.if_icmp .ge 43, 3) := by decide +kernel
theorem dX2_leadTo_39 : decode cX2_leadTo 39 = .ok (.aload_n 1, 1) := by decide +kernel
theorem dX2_leadTo_40 : decode cX2_leadTo 40 = .ok (.aload_n 0, 1) := by decide +kernel
theorem dX2_leadTo_41 : decode cX2_leadTo 41 = .ok (.getfield 9, 3) := by decide +kernel
theorem dX2_leadTo_44 : decode cX2_leadTo 44 = .ok (.iload_n 3, 1) := by decide +kernel
theorem dX2_leadTo_45 : decode cX2_leadTo 45 = .ok (.invokestatic 69, 3) := by decide +kernel
theorem dX2_leadTo_48 : decode cX2_leadTo 48 = .ok (.aload_n 0, 1) := by decide +kernel
theorem dX2_leadTo_49 : decode cX2_leadTo 49 = .ok (.getfield 15, 3) := by decide +kernel
theorem dX2_leadTo_52 : decode cX2_leadTo 52 = .ok (.iload_n 3, 1) := by decide +kernel
theorem dX2_leadTo_53 : decode cX2_leadTo 53 = .ok (.invokestatic 69, 3) := by decide +kernel
theorem dX2_leadTo_56 : decode cX2_leadTo 56 = .ok (.invokevirtual 88, 3) := by decide +kernel
theorem dX2_leadTo_59 : decode cX2_leadTo 59 = .ok (.aload_n 1, 1) := by decide +kernel
theorem dX2_leadTo_60 : decode cX2_leadTo 60 = .ok (.aload_n 0, 1) := by decide +kernel
theorem dX2_leadTo_61 : decode cX2_leadTo 61 = .ok (.getfield 27, 3) := by decide +kernel
theorem dX2_leadTo_64 : decode cX2_leadTo 64 = .ok (.iload_n 3, 1) := by decide +kernel
theorem dX2_leadTo_65 : decode cX2_leadTo 65 = .ok (.iconst 1, 1) := by decide +kernel
theorem dX2_leadTo_66 : decode cX2_leadTo 66 = .ok (.iadd, 1) := by decide +kernel
theorem dX2_leadTo_67 : decode cX2_leadTo 67 = .ok (.invokestatic 69, 3) := by decide +kernel
theorem dX2_leadTo_70 : decode cX2_leadTo 70 = .ok (.invokestatic 108, 3) := by decide +kernel
theorem dX2_leadTo_73 : decode cX2_leadTo 73 = .ok (.iinc 3 1, 3) := by decide +kernel
theorem dX2_leadTo_76 : decode cX2_leadTo 76 = .ok (.goto (-50), 3) := by decide +kernel
theorem dX2_leadTo_79 : decode cX2_leadTo 79 = .ok (.return_, 1) := by decide +kernel
theorem dX2_obey_0 : decode cX2_obey 0 = .ok (.iload_n 1, 1) := by decide +kernel
theorem dX2_obey_1 : decode cX2_obey 1 = .ok (.iconst 1, 1) := by decide +kernel
theorem dX2_obey_2 : decode cX2_obey 2 = .ok (.if_icmp .ne 10, 3) := by decide +kernel
theorem dX2_obey_5 : decode cX2_obey 5 = .ok (.aload_n 0, 1) := by decide +kernel
theorem dX2_obey_6 : decode cX2_obey 6 = .ok (.invokevirtual 111, 3) := by decide +kernel
theorem dX2_obey_9 : decode cX2_obey 9 = .ok (.goto 15, 3) := by decide +kernel
theorem dX2_obey_12 : decode cX2_obey 12 = .ok (.iload_n 1, 1) := by decide +kernel
theorem dX2_obey_13 : decode cX2_obey 13 = .ok (.iconst 2, 1) := by decide +kernel
theorem dX2_obey_14 : decode cX2_obey 14 = .ok (.if_icmp .lt 10, 3) := by decide +kernel
theorem dX2_obey_17 : decode cX2_obey 17 = .ok (.aload_n 0, 1) := by decide +kernel
theorem dX2_obey_18 : decode cX2_obey 18 = .ok (.iload_n 1, 1) := by decide +kernel
theorem dX2_obey_19 : decode cX2_obey 19 = .ok (.iconst 2, 1) := by decide +kernel
theorem dX2_obey_20 : decode cX2_obey 20 = .ok (.isub, 1) := by decide +kernel
theorem dX2_obey_21 : decode cX2_obey 21 = .ok (.invokevirtual 114, 3) := by decide +kernel
theorem dX2_obey_24 : decode cX2_obey 24 = .ok (.return_, 1) := by decide +kernel
theorem dX2_find_0 : decode cX2_find 0 = .ok (.aload_n 0, 1) := by decide +kernel
theorem dX2_find_1 : decode cX2_find 1 = .ok (.iload_n 1, 1) := by decide +kernel
theorem dX2_find_2 : decode cX2_find 2 = .ok (.invokevirtual 97, 3) := by decide +kernel
theorem dX2_find_5 : decode cX2_find 5 = .ok (.ifCond .ne 5, 3) := by decide +kernel
theorem dX2_find_8 : decode cX2_find 8 = .ok (.iconst (-1), 1) := by decide +kernel
theorem dX2_find_9 : decode cX2_find 9 = .ok (.ireturn, 1) := by decide +kernel
theorem dX2_find_10 : decode cX2_find 10 = .ok (.aload_n 0, 1) := by decide +kernel
theorem dX2_find_11 : decode cX2_find 11 = .ok (.getfield 24, 3) := by decide +kernel
theorem dX2_find_14 : decode cX2_find 14 = .ok (.iload_n 1, 1) := by decide +kernel
theorem dX2_find_15 : decode cX2_find 15 = .ok (.invokestatic 69, 3) := by decide +kernel
theorem dX2_find_18 : decode cX2_find 18 = .ok (.ifCond .ne 6, 3) := by decide +kernel
theorem dX2_find_21 : decode cX2_find 21 = .ok (.bipush (-2), 2) := by decide +kernel
theorem dX2_find_23 : decode cX2_find 23 = .ok (.ireturn, 1) := by decide +kernel
theorem dX2_find_24 : decode cX2_find 24 = .ok (.aload_n 2, 1) := by decide +kernel
theorem dX2_find_25 : decode cX2_find 25 = .ok (.aload_n 0, 1) := by decide +kernel
theorem dX2_find_26 : decode cX2_find 26 = .ok (.getfield 9, 3) := by decide +kernel
theorem dX2_find_29 : decode cX2_find 29 = .ok (.iload_n 1, 1) := by decide +kernel
theorem dX2_find_30 : decode cX2_find 30 = .ok (.invokestatic 69, 3) := by decide +kernel
theorem dX2_find_33 : decode cX2_find 33 = .ok (.aload_n 0, 1) := by decide +kernel
theorem dX2_find_34 : decode cX2_find 34 = .ok (.getfield 58, 3) := by decide +kernel
theorem dX2_find_37 : decode cX2_find 37 = .ok (.iconst 1, 1) := by decide +kernel
theorem dX2_find_38 : decode cX2_find 38 = .ok (.isub, 1) := by decide +kernel
theorem dX2_find_39 : decode cX2_find 39 = .ok (.iload_n 1, 1) := by decide +kernel
theorem dX2_find_40 : decode cX2_find 40 = .ok (.isub, 1) := by decide +kernel
theorem dX2_find_41 : decode cX2_find 41 = .ok (.invokevirtual 117, 3) := by decide +kernel
theorem dX2_find_44 : decode cX2_find 44 = .ok (.istore_n 3, 1) := by decide +kernel
theorem dX2_find_45 : decode cX2_find 45 = .ok (.iload_n 3, 1) := by decide +kernel
theorem dX2_find_46 : decode cX2_find 46 = .ok (.bipush (-4), 2) := by decide +kernel
theorem dX2_find_48 : decode cX2_find 48 = .ok (.if_icmp .ne 6, 3) := by decide +kernel
theorem dX2_find_51 : decode cX2_find 51 = .ok (.bipush (-2), 2) := by decide +kernel
theorem dX2_find_53 : decode cX2_find 53 = .ok (.ireturn, 1) := by decide +kernel
theorem dX2_find_54 : decode cX2_find 54 = .ok (.iload_n 3, 1) := by decide +kernel
theorem dX2_find_55 : decode cX2_find 55 = .ok (.bipush 82, 2) := by decide +kernel
theorem dX2_find_57 : decode cX2_find 57 = .ok (.if_icmp .ne 11, 3) := by decide +kernel
theorem dX2_find_60 : decode cX2_find 60 = .ok (.aload_n 0, 1) := by decide +kernel
theorem dX2_find_61 : decode cX2_find 61 = .ok (.iload_n 1, 1) := by decide +kernel
theorem dX2_find_62 : decode cX2_find 62 = .ok (.invokevirtual 123, 3) := by decide +kernel
theorem dX2_find_65 : decode cX2_find 65 = .ok (.goto 8, 3) := by decide +kernel
theorem dX2_find_68 : decode cX2_find 68 = .ok (.aload_n 0, 1) := by decide +kernel
theorem dX2_find_69 : decode cX2_find 69 = .ok (.iload_n 1, 1) := by decide +kernel
theorem dX2_find_70 : decode cX2_find 70 = .ok (.invokevirtual 126, 3) := by decide +kernel
theorem dX2_find_73 : decode cX2_find 73 = .ok (.ireturn, 1) := by decide +kernel
theorem dX2_takeAway_0 : decode cX2_takeAway 0 = .ok (.aload_n 0, 1) := by decide +kernel
theorem dX2_takeAway_1 : decode cX2_takeAway 1 = .ok (.getfield 27, 3) := by decide +kernel
theorem dX2_takeAway_4 : decode cX2_takeAway 4 = .ok (.iload_n 1, 1) := by decide +kernel
theorem dX2_takeAway_5 : decode cX2_takeAway 5 = .ok (.iconst 3, 1) := by decide +kernel
theorem dX2_takeAway_6 : decode cX2_takeAway 6 = .ok (.aload_n 0, 1) := by decide +kernel
theorem dX2_takeAway_7 : decode cX2_takeAway 7 = .ok (.getfield 21, 3) := by decide +kernel
theorem dX2_takeAway_10 : decode cX2_takeAway 10 = .ok (.iload_n 1, 1) := by decide +kernel
theorem dX2_takeAway_11 : decode cX2_takeAway 11 = .ok (.invokestatic 69, 3) := by decide +kernel
theorem dX2_takeAway_14 : decode cX2_takeAway 14 = .ok (.isub, 1) := by decide +kernel
theorem dX2_takeAway_15 : decode cX2_takeAway 15 = .ok (.invokestatic 43, 3) := by decide +kernel
theorem dX2_takeAway_18 : decode cX2_takeAway 18 = .ok (.aload_n 0, 1) := by decide +kernel
theorem dX2_takeAway_19 : decode cX2_takeAway 19 = .ok (.iload_n 1, 1) := by decide +kernel
theorem dX2_takeAway_20 : decode cX2_takeAway 20 = .ok (.putfield 58, 3) := by decide +kernel
theorem dX2_takeAway_23 : decode cX2_takeAway 23 = .ok (.aload_n 0, 1) := by decide +kernel
theorem dX2_takeAway_24 : decode cX2_takeAway 24 = .ok (.aload_n 0, 1) := by decide +kernel
theorem dX2_takeAway_25 : decode cX2_takeAway 25 = .ok (.getfield 36, 3) := by decide +kernel
theorem dX2_takeAway_28 : decode cX2_takeAway 28 = .ok (.aload_n 0, 1) := by decide +kernel
theorem dX2_takeAway_29 : decode cX2_takeAway 29 = .ok (.getfield 58, 3) := by decide +kernel
theorem dX2_takeAway_32 : decode cX2_takeAway 32 = .ok (.invokevirtual 100, 3) := by decide +kernel
theorem dX2_takeAway_35 : decode cX2_takeAway 35 = .ok (.iconst 1, 1) := by decide +kernel
theorem dX2_takeAway_36 : decode cX2_takeAway 36 = .ok (.ireturn, 1) := by decide +kernel
theorem dX2_stopTurn_0 : decode cX2_stopTurn 0 = .ok (.aload_n 0, 1) := by decide +kernel
theorem dX2_stopTurn_1 : decode cX2_stopTurn 1 = .ok (.getfield 24, 3) := by decide +kernel
theorem dX2_stopTurn_4 : decode cX2_stopTurn 4 = .ok (.iload_n 1, 1) := by decide +kernel
theorem dX2_stopTurn_5 : decode cX2_stopTurn 5 = .ok (.iconst 0, 1) := by decide +kernel
theorem dX2_stopTurn_6 : decode cX2_stopTurn 6 = .ok (.invokestatic 43, 3) := by decide +kernel
theorem dX2_stopTurn_9 : decode cX2_stopTurn 9 = .ok (.aload_n 0, 1) := by decide +kernel
theorem dX2_stopTurn_10 : decode cX2_stopTurn 10 = .ok (.getfield 36, 3) := by decide +kernel
theorem dX2_stopTurn_13 : decode cX2_stopTurn 13 = .ok (.invokevirtual 91, 3) := by decide +kernel
theorem dX2_stopTurn_16 : decode cX2_stopTurn 16 = .ok (.bipush (-4), 2) := by decide +kernel
theorem dX2_stopTurn_18 : decode cX2_stopTurn 18 = .ok (.if_icmp .eq 22, 3) := by decide +kernel
theorem dX2_stopTurn_21 : decode cX2_stopTurn 21 = .ok (.aload_n 0, 1) := by decide +kernel
theorem dX2_stopTurn_22 : decode cX2_stopTurn 22 = .ok (.getfield 27, 3) := by decide +kernel
theorem dX2_stopTurn_25 : decode cX2_stopTurn 25 = .ok (.aload_n 0, 1) := by decide +kernel
theorem dX2_stopTurn_26 : decode cX2_stopTurn 26 = .ok (.getfield 58, 3) := by decide +kernel
theorem dX2_stopTurn_29 : decode cX2_stopTurn 29 = .ok (.iconst 1, 1) := by decide +kernel
theorem dX2_stopTurn_30 : decode cX2_stopTurn 30 = .ok (.invokestatic 43, 3) := by decide +kernel
theorem dX2_stopTurn_33 : decode cX2_stopTurn 33 = .ok (.aload_n 0, 1) := by decide +kernel
theorem dX2_stopTurn_34 : decode cX2_stopTurn 34 = .ok (.getfield 36, 3) := by decide +kernel
theorem dX2_stopTurn_37 : decode cX2_stopTurn 37 = .ok (.invokevirtual 111, 3) := by decide +kernel
theorem dX2_stopTurn_40 : decode cX2_stopTurn 40 = .ok (.iconst 2, 1) := by decide +kernel
theorem dX2_stopTurn_41 : decode cX2_stopTurn 41 = .ok (.ireturn, 1) := by decide +kernel
theorem dX2_total_0 : decode cX2_total 0 = .ok (.iconst 0, 1) := by decide +kernel
theorem dX2_total_1 : decode cX2_total 1 = .ok (.istore_n 2, 1) := by decide +kernel
theorem dX2_total_2 : decode cX2_total 2 = .ok (.iconst 0, 1) := by decide +kernel
theorem dX2_total_3 : decode cX2_total 3 = .ok (.istore_n 3, 1) := by decide +kernel
theorem dX2_total_4 : decode cX2_total 4 = .ok (.iload_n 3, 1) := by decide +kernel
theorem dX2_total_5 : decode cX2_total 5 = .ok (.aload_n 0, 1) := by decide +kernel
theorem dX2_total_6 : decode cX2_total 6 = .ok (.getfield 58, 3) := by decide +kernel
theorem dX2_total_9 : decode cX2_total 9 = .ok (.if_icmp .ge 28, 3) := by decide +kernel
theorem dX2_total_12 : decode cX2_total 12 = .ok (.iload_n 3, 1) := by decide +kernel
theorem dX2_total_13 : decode cX2_total 13 = .ok (.sipush 150, 3) := by decide +kernel
theorem dX2_total_16 : decode cX2_total 16 = .ok (.if_icmp .ge 21, 3) := by decide +kernel
theorem dX2_total_19 : decode cX2_total 19 = .ok (.aload_n 0, 1) := by decide +kernel
theorem dX2_total_20 : decode cX2_total 20 = .ok (.iload_n 3, 1) := by decide +kernel
theorem dX2_total_21 : decode cX2_total 21 = .ok (.iload_n 1, 1) := by decide +kernel
theorem dX2_total_22 : decode cX2_total 22 = .ok (.invokevirtual 129, 3) := by decide +kernel
theorem dX2_total_25 : decode cX2_total 25 = .ok (.ifCond .eq 6, 3) := by decide +kernel
theorem dX2_total_28 : decode cX2_total 28 = .ok (.iinc 2 1, 3) := by decide +kernel
theorem dX2_total_31 : decode cX2_total 31 = .ok (.iinc 3 1, 3) := by decide +kernel
theorem dX2_total_34 : decode cX2_total 34 = .ok (.goto (-30), 3) := by decide +kernel
theorem dX2_total_37 : decode cX2_total 37 = .ok (.iload_n 2, 1) := by decide +kernel
theorem dX2_total_38 : decode cX2_total 38 = .ok (.ireturn, 1) := by decide +kernel
theorem dX2_counts_0 : decode cX2_counts 0 = .ok (.iload_n 2, 1) := by decide +kernel
theorem dX2_counts_1 : decode cX2_counts 1 = .ok (.ifCond .ne 5, 3) := by decide +kernel
theorem dX2_counts_4 : decode cX2_counts 4 = .ok (.iconst 1, 1) := by decide +kernel
theorem dX2_counts_5 : decode cX2_counts 5 = .ok (.ireturn, 1) := by decide +kernel
theorem dX2_counts_6 : decode cX2_counts 6 = .ok (.iload_n 2, 1) := by decide +kernel
theorem dX2_counts_7 : decode cX2_counts 7 = .ok (.iconst 1, 1) := by decide +kernel
theorem dX2_counts_8 : decode cX2_counts 8 = .ok (.if_icmp .ne 23, 3) := by decide +kernel
theorem dX2_counts_11 : decode cX2_counts 11 = .ok (.aload_n 0, 1) := by decide +kernel
theorem dX2_counts_12 : decode cX2_counts 12 = .ok (.getfield 24, 3) := by decide +kernel
theorem dX2_counts_15 : decode cX2_counts 15 = .ok (.iload_n 1, 1) := by decide +kernel
theorem dX2_counts_16 : decode cX2_counts 16 = .ok (.invokestatic 69, 3) := by decide +kernel
theorem dX2_counts_19 : decode cX2_counts 19 = .ok (.iconst 1, 1) := by decide +kernel
theorem dX2_counts_20 : decode cX2_counts 20 = .ok (.if_icmp .ne 7, 3) := by decide +kernel
theorem dX2_counts_23 : decode cX2_counts 23 = .ok (.iconst 1, 1) := by decide +kernel
theorem dX2_counts_24 : decode cX2_counts 24 = .ok (.goto 18, 3) := by decide +kernel
theorem dX2_counts_27 : decode cX2_counts 27 = .ok (.iconst 0, 1) := by decide +kernel
theorem dX2_counts_28 : decode cX2_counts 28 = .ok (.goto 14, 3) := by decide +kernel
theorem dX2_counts_31 : decode cX2_counts 31 = .ok (.aload_n 0, 1) := by decide +kernel
theorem dX2_counts_32 : decode cX2_counts 32 = .ok (.getfield 9, 3) := by decide +kernel
theorem dX2_counts_35 : decode cX2_counts 35 = .ok (.iload_n 1, 1) := by decide +kernel
theorem dX2_counts_36 : decode cX2_counts 36 = .ok (.invokestatic 69, 3) := by decide +kernel
theorem dX2_counts_39 : decode cX2_counts 39 = .ok (.invokestatic 80, 3) := by decide +kernel
theorem dX2_counts_42 : decode cX2_counts 42 = .ok (.ireturn, 1) := by decide +kernel
theorem dX3_init_0 : decode cX3_init 0 = .ok (.aload_n 0, 1) := by decide +kernel
theorem dX3_init_1 : decode cX3_init 1 = .ok (.invokespecial 3, 3) := by decide +kernel
theorem dX3_init_4 : decode cX3_init 4 = .ok (.aload_n 0, 1) := by decide +kernel
theorem dX3_init_5 : decode cX3_init 5 = .ok (.iconst 4, 1) := by decide +kernel
theorem dX3_init_6 : decode cX3_init 6 = .ok (.newarray .int, 2) := by decide +kernel
theorem dX3_init_8 : decode cX3_init 8 = .ok (.putfield 9, 3) := by decide +kernel
theorem dX3_init_11 : decode cX3_init 11 = .ok (.aload_n 0, 1) := by decide +kernel
theorem dX3_init_12 : decode cX3_init 12 = .ok (.iconst 2, 1) := by decide +kernel
theorem dX3_init_13 : decode cX3_init 13 = .ok (.newarray .int, 2) := by decide +kernel
theorem dX3_init_15 : decode cX3_init 15 = .ok (.putfield 15, 3) := by decide +kernel
theorem dX3_init_18 : decode cX3_init 18 = .ok (.return_, 1) := by decide +kernel
theorem dX3_begin_0 : decode cX3_begin 0 = .ok (.aload_n 0, 1) := by decide +kernel
theorem dX3_begin_1 : decode cX3_begin 1 = .ok (.getfield 9, 3) := by decide +kernel
theorem dX3_begin_4 : decode cX3_begin 4 = .ok (.iconst 0, 1) := by decide +kernel
theorem dX3_begin_5 : decode cX3_begin 5 = .ok (.invokestatic 18, 3) := by decide +kernel
theorem dX3_begin_8 : decode cX3_begin 8 = .ok (.aload_n 0, 1) := by decide +kernel
theorem dX3_begin_9 : decode cX3_begin 9 = .ok (.getfield 15, 3) := by decide +kernel
theorem dX3_begin_12 : decode cX3_begin 12 = .ok (.iconst 0, 1) := by decide +kernel
theorem dX3_begin_13 : decode cX3_begin 13 = .ok (.iload_n 1, 1) := by decide +kernel
theorem dX3_begin_14 : decode cX3_begin 14 = .ok (.invokestatic 24, 3) := by decide +kernel
theorem dX3_begin_17 : decode cX3_begin 17 = .ok (.aload_n 0, 1) := by decide +kernel
theorem dX3_begin_18 : decode cX3_begin 18 = .ok (.getfield 15, 3) := by decide +kernel
theorem dX3_begin_21 : decode cX3_begin 21 = .ok (.iconst 1, 1) := by decide +kernel
theorem dX3_begin_22 : decode cX3_begin 22 = .ok (.iload_n 2, 1) := by decide +kernel
theorem dX3_begin_23 : decode cX3_begin 23 = .ok (.invokestatic 24, 3) := by decide +kernel
theorem dX3_begin_26 : decode cX3_begin 26 = .ok (.aload_n 0, 1) := by decide +kernel
theorem dX3_begin_27 : decode cX3_begin 27 = .ok (.iconst 0, 1) := by decide +kernel
theorem dX3_begin_28 : decode cX3_begin 28 = .ok (.invokevirtual 28, 3) := by decide +kernel
theorem dX3_begin_31 : decode cX3_begin 31 = .ok (.return_, 1) := by decide +kernel
theorem dX3_allows_0 : decode cX3_allows 0 = .ok (.aload_n 0, 1) := by decide +kernel
theorem dX3_allows_1 : decode cX3_allows 1 = .ok (.invokevirtual 32, 3) := by decide +kernel
theorem dX3_allows_4 : decode cX3_allows 4 = .ok (.bipush (-4), 2) := by decide +kernel
theorem dX3_allows_6 : decode cX3_allows 6 = .ok (.if_icmp .eq 5, 3) := by decide +kernel
theorem dX3_allows_9 : decode cX3_allows 9 = .ok (.iconst 0, 1) := by decide +kernel
theorem dX3_allows_10 : decode cX3_allows 10 = .ok (.ireturn, 1) := by decide +kernel
theorem dX3_allows_11 : decode cX3_allows 11 = .ok (.iload_n 1, 1) := by decide +kernel
theorem dX3_allows_12 : decode cX3_allows 12 = .ok (.ifCond .ne 26, 3) := by decide +kernel
theorem dX3_allows_15 : decode cX3_allows 15 = .ok (.aload_n 0, 1) := by decide +kernel
theorem dX3_allows_16 : decode cX3_allows 16 = .ok (.getfield 36, 3) := by decide +kernel
theorem dX3_allows_19 : decode cX3_allows 19 = .ok (.bipush (-4), 2) := by decide +kernel
theorem dX3_allows_21 : decode cX3_allows 21 = .ok (.if_icmp .ne 15, 3) := by decide +kernel
theorem dX3_allows_24 : decode cX3_allows 24 = .ok (.aload_n 0, 1) := by decide +kernel
theorem dX3_allows_25 : decode cX3_allows 25 = .ok (.iload_n 2, 1) := by decide +kernel
theorem dX3_allows_26 : decode cX3_allows 26 = .ok (.invokevirtual 40, 3) := by decide +kernel
theorem dX3_allows_29 : decode cX3_allows 29 = .ok (.ifCond .ne 7, 3) := by decide +kernel
theorem dX3_allows_32 : decode cX3_allows 32 = .ok (.iconst 1, 1) := by decide +kernel
theorem dX3_allows_33 : decode cX3_allows 33 = .ok (.goto 4, 3) := by decide +kernel
theorem dX3_allows_36 : decode cX3_allows 36 = .ok (.iconst 0, 1) := by decide +kernel
theorem dX3_allows_37 : decode cX3_allows 37 = .ok (.ireturn, 1) := by decide +kernel
theorem dX3_allows_38 : decode cX3_allows 38 = .ok (.iload_n 1, 1) := by decide +kernel
theorem dX3_allows_39 : decode cX3_allows 39 = .ok (.bipush 6, 2) := by decide +kernel
theorem dX3_allows_41 : decode cX3_allows 41 = .ok (.if_icmp .ne 25, 3) := by decide +kernel
theorem dX3_allows_44 : decode cX3_allows 44 = .ok (.aload_n 0, 1) := by decide +kernel
theorem dX3_allows_45 : decode cX3_allows 45 = .ok (.getfield 36, 3) := by decide +kernel
theorem dX3_allows_48 : decode cX3_allows 48 = .ok (.bipush (-4), 2) := by decide +kernel
theorem dX3_allows_50 : decode cX3_allows 50 = .ok (.if_icmp .ne 14, 3) := by decide +kernel
theorem dX3_allows_53 : decode cX3_allows 53 = .ok (.aload_n 0, 1) := by decide +kernel
theorem dX3_allows_54 : decode cX3_allows 54 = .ok (.invokevirtual 44, 3) := by decide +kernel
theorem dX3_allows_57 : decode cX3_allows 57 = .ok (.ifCond .eq 7, 3) := by decide +kernel
theorem dX3_allows_60 : decode cX3_allows 60 = .ok (.iconst 1, 1) := by decide +kernel
theorem dX3_allows_61 : decode cX3_allows 61 = .ok (.goto 4, 3) := by decide +kernel
theorem dX3_allows_64 : decode cX3_allows 64 = .ok (.iconst 0, 1) := by decide +kernel
theorem dX3_allows_65 : decode cX3_allows 65 = .ok (.ireturn, 1) := by decide +kernel
theorem dX3_allows_66 : decode cX3_allows 66 = .ok (.aload_n 0, 1) := by decide +kernel
theorem dX3_allows_67 : decode cX3_allows 67 = .ok (.getfield 36, 3) := by decide +kernel
theorem dX3_allows_70 : decode cX3_allows 70 = .ok (.bipush (-4), 2) := by decide +kernel
theorem dX3_allows_72 : decode cX3_allows 72 = .ok (.if_icmp .ne 5, 3) := by decide +kernel
theorem dX3_allows_75 : decode cX3_allows 75 = .ok (.iconst 0, 1) := by decide +kernel
theorem dX3_allows_76 : decode cX3_allows 76 = .ok (.ireturn, 1) := by decide +kernel
theorem dX3_allows_77 : decode cX3_allows 77 = .ok (.iload_n 1, 1) := by decide +kernel
theorem dX3_allows_78 : decode cX3_allows 78 = .ok (.iconst 4, 1) := by decide +kernel
theorem dX3_allows_79 : decode cX3_allows 79 = .ok (.if_icmp .ne 20, 3) := by decide +kernel
theorem dX3_allows_82 : decode cX3_allows 82 = .ok (.aload_n 0, 1) := by decide +kernel
theorem dX3_allows_83 : decode cX3_allows 83 = .ok (.getfield 48, 3) := by decide +kernel
theorem dX3_allows_86 : decode cX3_allows 86 = .ok (.bipush (-4), 2) := by decide +kernel
theorem dX3_allows_88 : decode cX3_allows 88 = .ok (.if_icmp .eq 7, 3) := by decide +kernel
theorem dX3_allows_91 : decode cX3_allows 91 = .ok (.iconst 1, 1) := by decide +kernel
theorem dX3_allows_92 : decode cX3_allows 92 = .ok (.goto 30, 3) := by decide +kernel
theorem dX3_allows_95 : decode cX3_allows 95 = .ok (.iconst 0, 1) := by decide +kernel
theorem dX3_allows_96 : decode cX3_allows 96 = .ok (.goto 26, 3) := by decide +kernel
theorem dX3_allows_99 : decode cX3_allows 99 = .ok (.aload_n 0, 1) := by decide +kernel
theorem dX3_allows_100 : decode cX3_allows 100 = .ok (.getfield 48, 3) := by decide +kernel
theorem dX3_allows_103 : decode cX3_allows 103 = .ok (.bipush (-4), 2) := by decide +kernel
theorem dX3_allows_105 : decode cX3_allows 105 = .ok (.if_icmp .ne 16, 3) := by decide +kernel
theorem dX3_allows_108 : decode cX3_allows 108 = .ok (.aload_n 0, 1) := by decide +kernel
theorem dX3_allows_109 : decode cX3_allows 109 = .ok (.iload_n 1, 1) := by decide +kernel
theorem dX3_allows_110 : decode cX3_allows 110 = .ok (.iload_n 2, 1) := by decide +kernel
theorem dX3_allows_111 : decode cX3_allows 111 = .ok (.invokevirtual 51, 3) := by decide +kernel
theorem dX3_allows_114 : decode cX3_allows 114 = .ok (.ifCond .eq 7, 3) := by decide +kernel
theorem dX3_allows_117 : decode cX3_allows 117 = .ok (.iconst 1, 1) := by decide +kernel
theorem dX3_allows_118 : decode cX3_allows 118 = .ok (.goto 4, 3) := by decide +kernel
theorem dX3_allows_121 : decode cX3_allows 121 = .ok (.iconst 0, 1) := by decide +kernel
theorem dX3_allows_122 : decode cX3_allows 122 = .ok (.ireturn, 1) := by decide +kernel
theorem dX3_allowsFree_0 : decode cX3_allowsFree 0 = .ok (.aload_n 0, 1) := by decide +kernel
theorem dX3_allowsFree_1 : decode cX3_allowsFree 1 = .ok (.getfield 55, 3) := by decide +kernel
theorem dX3_allowsFree_4 : decode cX3_allowsFree 4 = .ok (.bipush (-4), 2) := by decide +kernel
theorem dX3_allowsFree_6 : decode cX3_allowsFree 6 = .ok (.if_icmp .eq 34, 3) := by decide +kernel
theorem dX3_allowsFree_9 : decode cX3_allowsFree 9 = .ok (.aload_n 0, 1) := by decide +kernel
theorem dX3_allowsFree_10 : decode cX3_allowsFree 10 = .ok (.aload_n 0, 1) := by decide +kernel
theorem dX3_allowsFree_11 : decode cX3_allowsFree 11 = .ok (.getfield 55, 3) := by decide +kernel
theorem dX3_allowsFree_14 : decode cX3_allowsFree 14 = .ok (.invokevirtual 40, 3) := by decide +kernel
theorem dX3_allowsFree_17 : decode cX3_allowsFree 17 = .ok (.ifCond .ne 23, 3) := by decide +kernel
theorem dX3_allowsFree_20 : decode cX3_allowsFree 20 = .ok (.aload_n 0, 1) := by decide +kernel
theorem dX3_allowsFree_21 : decode cX3_allowsFree 21 = .ok (.getfield 15, 3) := by decide +kernel
theorem dX3_allowsFree_24 : decode cX3_allowsFree 24 = .ok (.iconst 1, 1) := by decide +kernel
theorem dX3_allowsFree_25 : decode cX3_allowsFree 25 = .ok (.aload_n 0, 1) := by decide +kernel
theorem dX3_allowsFree_26 : decode cX3_allowsFree 26 = .ok (.getfield 58, 3) := by decide +kernel
theorem dX3_allowsFree_29 : decode cX3_allowsFree 29 = .ok (.isub, 1) := by decide +kernel
theorem dX3_allowsFree_30 : decode cX3_allowsFree 30 = .ok (.invokestatic 61, 3) := by decide +kernel
theorem dX3_allowsFree_33 : decode cX3_allowsFree 33 = .ok (.ifCond .le 7, 3) := by decide +kernel
theorem dX3_allowsFree_36 : decode cX3_allowsFree 36 = .ok (.iconst 1, 1) := by decide +kernel
theorem dX3_allowsFree_37 : decode cX3_allowsFree 37 = .ok (.goto 4, 3) := by decide +kernel
theorem dX3_allowsFree_40 : decode cX3_allowsFree 40 = .ok (.iconst 0, 1) := by decide +kernel
theorem dX3_allowsFree_41 : decode cX3_allowsFree 41 = .ok (.ireturn, 1) := by decide +kernel
theorem dX3_allowsFresh_0 : decode cX3_allowsFresh 0 = .ok (.iload_n 1, 1) := by decide +kernel
theorem dX3_allowsFresh_1 : decode cX3_allowsFresh 1 = .ok (.tableswitch 97 2 5 #[31, 75, 97, 53], 31) := by decide +kernel
theorem dX3_allowsFresh_32 : decode cX3_allowsFresh 32 = .ok (.aload_n 0, 1) := by decide +kernel
theorem dX3_allowsFresh_33 : decode cX3_allowsFresh 33 = .ok (.getfield 9, 3) := by decide +kernel
theorem dX3_allowsFresh_36 : decode cX3_allowsFresh 36 = .ok (.aload_n 0, 1) := by decide +kernel
theorem dX3_allowsFresh_37 : decode cX3_allowsFresh 37 = .ok (.getfield 36, 3) := by decide +kernel
theorem dX3_allowsFresh_40 : decode cX3_allowsFresh 40 = .ok (.invokestatic 61, 3) := by decide +kernel
theorem dX3_allowsFresh_43 : decode cX3_allowsFresh 43 = .ok (.bipush 6, 2) := by decide +kernel
theorem dX3_allowsFresh_45 : decode cX3_allowsFresh 45 = .ok (.if_icmp .ge 7, 3) := by decide +kernel
theorem dX3_allowsFresh_48 : decode cX3_allowsFresh 48 = .ok (.iconst 1, 1) := by decide +kernel
theorem dX3_allowsFresh_49 : decode cX3_allowsFresh 49 = .ok (.goto 4, 3) := by decide +kernel
theorem dX3_allowsFresh_52 : decode cX3_allowsFresh 52 = .ok (.iconst 0, 1) := by decide +kernel
theorem dX3_allowsFresh_53 : decode cX3_allowsFresh 53 = .ok (.ireturn, 1) := by decide +kernel
theorem dX3_allowsFresh_54 : decode cX3_allowsFresh 54 = .ok (.aload_n 0, 1) := by decide +kernel
theorem dX3_allowsFresh_55 : decode cX3_allowsFresh 55 = .ok (.getfield 9, 3) := by decide +kernel
theorem dX3_allowsFresh_58 : decode cX3_allowsFresh 58 = .ok (.aload_n 0, 1) := by decide +kernel
theorem dX3_allowsFresh_59 : decode cX3_allowsFresh 59 = .ok (.getfield 36, 3) := by decide +kernel
theorem dX3_allowsFresh_62 : decode cX3_allowsFresh 62 = .ok (.invokestatic 61, 3) := by decide +kernel
theorem dX3_allowsFresh_65 : decode cX3_allowsFresh 65 = .ok (.bipush 6, 2) := by decide +kernel
theorem dX3_allowsFresh_67 : decode cX3_allowsFresh 67 = .ok (.if_icmp .ne 7, 3) := by decide +kernel
theorem dX3_allowsFresh_70 : decode cX3_allowsFresh 70 = .ok (.iconst 1, 1) := by decide +kernel
theorem dX3_allowsFresh_71 : decode cX3_allowsFresh 71 = .ok (.goto 4, 3) := by decide +kernel
theorem dX3_allowsFresh_74 : decode cX3_allowsFresh 74 = .ok (.iconst 0, 1) := by decide +kernel
theorem dX3_allowsFresh_75 : decode cX3_allowsFresh 75 = .ok (.ireturn, 1) := by decide +kernel
theorem dX3_allowsFresh_76 : decode cX3_allowsFresh 76 = .ok (.iload_n 2, 1) := by decide +kernel
theorem dX3_allowsFresh_77 : decode cX3_allowsFresh 77 = .ok (.aload_n 0, 1) := by decide +kernel
theorem dX3_allowsFresh_78 : decode cX3_allowsFresh 78 = .ok (.getfield 36, 3) := by decide +kernel
theorem dX3_allowsFresh_81 : decode cX3_allowsFresh 81 = .ok (.if_icmp .eq 15, 3) := by decide +kernel
theorem dX3_allowsFresh_84 : decode cX3_allowsFresh 84 = .ok (.aload_n 0, 1) := by decide +kernel
theorem dX3_allowsFresh_85 : decode cX3_allowsFresh 85 = .ok (.iload_n 2, 1) := by decide +kernel
theorem dX3_allowsFresh_86 : decode cX3_allowsFresh 86 = .ok (.invokevirtual 40, 3) := by decide +kernel
theorem dX3_allowsFresh_89 : decode cX3_allowsFresh 89 = .ok (.ifCond .ne 7, 3) := by decide +kernel
theorem dX3_allowsFresh_92 : decode cX3_allowsFresh 92 = .ok (.iconst 1, 1) := by decide +kernel
theorem dX3_allowsFresh_93 : decode cX3_allowsFresh 93 = .ok (.goto 4, 3) := by decide +kernel
theorem dX3_allowsFresh_96 : decode cX3_allowsFresh 96 = .ok (.iconst 0, 1) := by decide +kernel
theorem dX3_allowsFresh_97 : decode cX3_allowsFresh 97 = .ok (.ireturn, 1) := by decide +kernel
theorem dX3_allowsFresh_98 : decode cX3_allowsFresh 98 = .ok (.iconst 1, 1) := by decide +kernel
theorem dX3_allowsFresh_99 : decode cX3_allowsFresh 99 = .ok (.ireturn, 1) := by decide +kernel
theorem dX3_isWrong_0 : decode cX3_isWrong 0 = .ok (.iload_n 1, 1) := by decide +kernel
theorem dX3_isWrong_1 : decode cX3_isWrong 1 = .ok (.ifCond .ne 19, 3) := by decide +kernel
theorem dX3_isWrong_4 : decode cX3_isWrong 4 = .ok (.iload_n 2, 1) := by decide +kernel
theorem dX3_isWrong_5 : decode cX3_isWrong 5 = .ok (.iconst 2, 1) := by decide +kernel
theorem dX3_isWrong_6 : decode cX3_isWrong 6 = .ok (.irem, 1) := by decide +kernel
theorem dX3_isWrong_7 : decode cX3_isWrong 7 = .ok (.aload_n 0, 1) := by decide +kernel
theorem dX3_isWrong_8 : decode cX3_isWrong 8 = .ok (.getfield 58, 3) := by decide +kernel
theorem dX3_isWrong_11 : decode cX3_isWrong 11 = .ok (.if_icmp .eq 7, 3) := by decide +kernel
theorem dX3_isWrong_14 : decode cX3_isWrong 14 = .ok (.iconst 1, 1) := by decide +kernel
theorem dX3_isWrong_15 : decode cX3_isWrong 15 = .ok (.goto 4, 3) := by decide +kernel
theorem dX3_isWrong_18 : decode cX3_isWrong 18 = .ok (.iconst 0, 1) := by decide +kernel
theorem dX3_isWrong_19 : decode cX3_isWrong 19 = .ok (.ireturn, 1) := by decide +kernel
theorem dX3_isWrong_20 : decode cX3_isWrong 20 = .ok (.iload_n 1, 1) := by decide +kernel
theorem dX3_isWrong_21 : decode cX3_isWrong 21 = .ok (.iconst 3, 1) := by decide +kernel
theorem dX3_isWrong_22 : decode cX3_isWrong 22 = .ok (.if_icmp .ne 18, 3) := by decide +kernel
theorem dX3_isWrong_25 : decode cX3_isWrong 25 = .ok (.aload_n 0, 1) := by decide +kernel
theorem dX3_isWrong_26 : decode cX3_isWrong 26 = .ok (.getfield 65, 3) := by decide +kernel
theorem dX3_isWrong_29 : decode cX3_isWrong 29 = .ok (.iload_n 2, 1) := by decide +kernel
theorem dX3_isWrong_30 : decode cX3_isWrong 30 = .ok (.ishr, 1) := by decide +kernel
theorem dX3_isWrong_31 : decode cX3_isWrong 31 = .ok (.iconst 1, 1) := by decide +kernel
theorem dX3_isWrong_32 : decode cX3_isWrong 32 = .ok (.iand, 1) := by decide +kernel
theorem dX3_isWrong_33 : decode cX3_isWrong 33 = .ok (.ifCond .ne 7, 3) := by decide +kernel
theorem dX3_isWrong_36 : decode cX3_isWrong 36 = .ok (.iconst 1, 1) := by decide +kernel
theorem dX3_isWrong_37 : decode cX3_isWrong 37 = .ok (.goto 4, 3) := by decide +kernel
theorem dX3_isWrong_40 : decode cX3_isWrong 40 = .ok (.iconst 0, 1) := by decide +kernel
theorem dX3_isWrong_41 : decode cX3_isWrong 41 = .ok (.ireturn, 1) := by decide +kernel
theorem dX3_lead_0 : decode cX3_lead 0 = .ok (.iload_n 1, 1) := by decide +kernel
theorem dX3_lead_1 : decode cX3_lead 1 = .ok (.tableswitch 124 0 5 #[39, 47, 54, 89, 97, 104], 39) := by decide +kernel
theorem dX3_lead_40 : decode cX3_lead 40 = .ok (.aload_n 0, 1) := by decide +kernel
theorem dX3_lead_41 : decode cX3_lead 41 = .ok (.iload_n 2, 1) := by decide +kernel
theorem dX3_lead_42 : decode cX3_lead 42 = .ok (.invokevirtual 68, 3) := by decide +kernel
theorem dX3_lead_45 : decode cX3_lead 45 = .ok (.goto 92, 3) := by decide +kernel
theorem dX3_lead_48 : decode cX3_lead 48 = .ok (.aload_n 0, 1) := by decide +kernel
theorem dX3_lead_49 : decode cX3_lead 49 = .ok (.invokevirtual 71, 3) := by decide +kernel
theorem dX3_lead_52 : decode cX3_lead 52 = .ok (.goto 85, 3) := by decide +kernel
theorem dX3_lead_55 : decode cX3_lead 55 = .ok (.aload_n 0, 1) := by decide +kernel
theorem dX3_lead_56 : decode cX3_lead 56 = .ok (.getfield 9, 3) := by decide +kernel
theorem dX3_lead_59 : decode cX3_lead 59 = .ok (.aload_n 0, 1) := by decide +kernel
theorem dX3_lead_60 : decode cX3_lead 60 = .ok (.getfield 36, 3) := by decide +kernel
theorem dX3_lead_63 : decode cX3_lead 63 = .ok (.aload_n 0, 1) := by decide +kernel
theorem dX3_lead_64 : decode cX3_lead 64 = .ok (.getfield 9, 3) := by decide +kernel
theorem dX3_lead_67 : decode cX3_lead 67 = .ok (.aload_n 0, 1) := by decide +kernel
theorem dX3_lead_68 : decode cX3_lead 68 = .ok (.getfield 36, 3) := by decide +kernel
theorem dX3_lead_71 : decode cX3_lead 71 = .ok (.invokestatic 61, 3) := by decide +kernel
theorem dX3_lead_74 : decode cX3_lead 74 = .ok (.iconst 1, 1) := by decide +kernel
theorem dX3_lead_75 : decode cX3_lead 75 = .ok (.iadd, 1) := by decide +kernel
theorem dX3_lead_76 : decode cX3_lead 76 = .ok (.invokestatic 24, 3) := by decide +kernel
theorem dX3_lead_79 : decode cX3_lead 79 = .ok (.aload_n 0, 1) := by decide +kernel
theorem dX3_lead_80 : decode cX3_lead 80 = .ok (.aload_n 0, 1) := by decide +kernel
theorem dX3_lead_81 : decode cX3_lead 81 = .ok (.getfield 36, 3) := by decide +kernel
theorem dX3_lead_84 : decode cX3_lead 84 = .ok (.invokevirtual 68, 3) := by decide +kernel
theorem dX3_lead_87 : decode cX3_lead 87 = .ok (.goto 50, 3) := by decide +kernel
theorem dX3_lead_90 : decode cX3_lead 90 = .ok (.aload_n 0, 1) := by decide +kernel
theorem dX3_lead_91 : decode cX3_lead 91 = .ok (.iload_n 2, 1) := by decide +kernel
theorem dX3_lead_92 : decode cX3_lead 92 = .ok (.invokevirtual 74, 3) := by decide +kernel
theorem dX3_lead_95 : decode cX3_lead 95 = .ok (.goto 42, 3) := by decide +kernel
theorem dX3_lead_98 : decode cX3_lead 98 = .ok (.aload_n 0, 1) := by decide +kernel
theorem dX3_lead_99 : decode cX3_lead 99 = .ok (.invokevirtual 77, 3) := by decide +kernel
theorem dX3_lead_102 : decode cX3_lead 102 = .ok (.goto 35, 3) := by decide +kernel
theorem dX3_lead_105 : decode cX3_lead 105 = .ok (.aload_n 0, 1) := by decide +kernel
theorem dX3_lead_106 : decode cX3_lead 106 = .ok (.getfield 9, 3) := by decide +kernel
theorem dX3_lead_109 : decode cX3_lead 109 = .ok (.aload_n 0, 1) := by decide +kernel
theorem dX3_lead_110 : decode cX3_lead 110 = .ok (.getfield 36, 3) := by decide +kernel
theorem dX3_lead_113 : decode cX3_lead 113 = .ok (.bipush 7, 2) := by decide +kernel
theorem dX3_lead_115 : decode cX3_lead 115 = .ok (.invokestatic 24, 3) := by decide +kernel
theorem dX3_lead_118 : decode cX3_lead 118 = .ok (.aload_n 0, 1) := by decide +kernel
theorem dX3_lead_119 : decode cX3_lead 119 = .ok (.invokevirtual 71, 3) := by decide +kernel
theorem dX3_lead_122 : decode cX3_lead 122 = .ok (.goto 15, 3) := by decide +kernel
theorem dX3_lead_125 : decode cX3_lead 125 = .ok (.aload_n 0, 1) := by decide +kernel
theorem dX3_lead_126 : decode cX3_lead 126 = .ok (.invokevirtual 80, 3) := by decide +kernel
theorem dX3_lead_129 : decode cX3_lead 129 = .ok (.aload_n 0, 1) := by decide +kernel
theorem dX3_lead_130 : decode cX3_lead 130 = .ok (.aload_n 0, 1) := by decide +kernel
theorem dX3_lead_131 : decode cX3_lead 131 = .ok (.getfield 55, 3) := by decide +kernel
theorem dX3_lead_134 : decode cX3_lead 134 = .ok (.invokevirtual 68, 3) := by decide +kernel
theorem dX3_lead_137 : decode cX3_lead 137 = .ok (.return_, 1) := by decide +kernel
theorem dX3_bringIn_0 : decode cX3_bringIn 0 = .ok (.aload_n 0, 1) := by decide +kernel
theorem dX3_bringIn_1 : decode cX3_bringIn 1 = .ok (.iload_n 1, 1) := by decide +kernel
theorem dX3_bringIn_2 : decode cX3_bringIn 2 = .ok (.putfield 36, 3) := by decide +kernel
theorem dX3_bringIn_5 : decode cX3_bringIn 5 = .ok (.aload_n 0, 1) := by decide +kernel
theorem dX3_bringIn_6 : decode cX3_bringIn 6 = .ok (.iconst 1, 1) := by decide +kernel
theorem dX3_bringIn_7 : decode cX3_bringIn 7 = .ok (.putfield 83, 3) := by decide +kernel
theorem dX3_bringIn_10 : decode cX3_bringIn 10 = .ok (.aload_n 0, 1) := by decide +kernel
theorem dX3_bringIn_11 : decode cX3_bringIn 11 = .ok (.iconst 0, 1) := by decide +kernel
theorem dX3_bringIn_12 : decode cX3_bringIn 12 = .ok (.putfield 65, 3) := by decide +kernel
theorem dX3_bringIn_15 : decode cX3_bringIn 15 = .ok (.iconst 0, 1) := by decide +kernel
theorem dX3_bringIn_16 : decode cX3_bringIn 16 = .ok (.istore_n 2, 1) := by decide +kernel
theorem dX3_bringIn_17 : decode cX3_bringIn 17 = .ok (.iload_n 2, 1) := by decide +kernel
theorem dX3_bringIn_18 : decode cX3_bringIn 18 = .ok (.iconst 4, 1) := by decide +kernel
theorem dX3_bringIn_19 : decode cX3_bringIn 19 = .ok (.if_icmp .ge 39, 3) := by decide +kernel
theorem dX3_bringIn_22 : decode cX3_bringIn 22 = .ok (.iload_n 2, 1) := by decide +kernel
theorem dX3_bringIn_23 : decode cX3_bringIn 23 = .ok (.iload_n 1, 1) := by decide +kernel
theorem dX3_bringIn_24 : decode cX3_bringIn 24 = .ok (.if_icmp .eq 28, 3) := by decide +kernel
theorem dX3_bringIn_27 : decode cX3_bringIn 27 = .ok (.aload_n 0, 1) := by decide +kernel
theorem dX3_bringIn_28 : decode cX3_bringIn 28 = .ok (.getfield 9, 3) := by decide +kernel
theorem dX3_bringIn_31 : decode cX3_bringIn 31 = .ok (.iload_n 2, 1) := by decide +kernel
theorem dX3_bringIn_32 : decode cX3_bringIn 32 = .ok (.invokestatic 61, 3) := by decide +kernel
theorem dX3_bringIn_35 : decode cX3_bringIn 35 = .ok (.bipush 7, 2) := by decide +kernel
theorem dX3_bringIn_37 : decode cX3_bringIn 37 = .ok (.if_icmp .eq 15, 3) := by decide +kernel
theorem dX3_bringIn_40 : decode cX3_bringIn 40 = .ok (.aload_n 0, 1) := by decide +kernel
theorem dX3_bringIn_41 : decode cX3_bringIn 41 = .ok (.dup, 1) := by decide +kernel
theorem dX3_bringIn_42 : decode cX3_bringIn 42 = .ok (.getfield 65, 3) := by decide +kernel
theorem dX3_bringIn_45 : decode cX3_bringIn 45 = .ok (.iconst 1, 1) := by decide +kernel
theorem dX3_bringIn_46 : decode cX3_bringIn 46 = .ok (.iload_n 2, 1) := by decide +kernel
theorem dX3_bringIn_47 : decode cX3_bringIn 47 = .ok (.ishl, 1) := by decide +kernel
theorem dX3_bringIn_48 : decode cX3_bringIn 48 = .ok (.ior, 1) := by decide +kernel
theorem dX3_bringIn_49 : decode cX3_bringIn 49 = .ok (.putfield 65, 3) := by decide +kernel
theorem dX3_bringIn_52 : decode cX3_bringIn 52 = .ok (.iinc 2 1, 3) := by decide +kernel
theorem dX3_bringIn_55 : decode cX3_bringIn 55 = .ok (.goto (-38), 3) := by decide +kernel
theorem dX3_bringIn_58 : decode cX3_bringIn 58 = .ok (.return_, 1) := by decide +kernel
theorem dX3_roquet_0 : decode cX3_roquet 0 = .ok (.aload_n 0, 1) := by decide +kernel
theorem dX3_roquet_1 : decode cX3_roquet 1 = .ok (.dup, 1) := by decide +kernel
theorem dX3_roquet_2 : decode cX3_roquet 2 = .ok (.getfield 83, 3) := by decide +kernel
theorem dX3_roquet_5 : decode cX3_roquet 5 = .ok (.iconst 1, 1) := by decide +kernel
theorem dX3_roquet_6 : decode cX3_roquet 6 = .ok (.isub, 1) := by decide +kernel
theorem dX3_roquet_7 : decode cX3_roquet 7 = .ok (.putfield 83, 3) := by decide +kernel
theorem dX3_roquet_10 : decode cX3_roquet 10 = .ok (.aload_n 0, 1) := by decide +kernel
theorem dX3_roquet_11 : decode cX3_roquet 11 = .ok (.dup, 1) := by decide +kernel
theorem dX3_roquet_12 : decode cX3_roquet 12 = .ok (.getfield 65, 3) := by decide +kernel
theorem dX3_roquet_15 : decode cX3_roquet 15 = .ok (.iconst 1, 1) := by decide +kernel
theorem dX3_roquet_16 : decode cX3_roquet 16 = .ok (.iload_n 1, 1) := by decide +kernel
theorem dX3_roquet_17 : decode cX3_roquet 17 = .ok (.ishl, 1) := by decide +kernel
theorem dX3_roquet_18 : decode cX3_roquet 18 = .ok (.iconst (-1), 1) := by decide +kernel
theorem dX3_roquet_19 : decode cX3_roquet 19 = .ok (.ixor, 1) := by decide +kernel
theorem dX3_roquet_20 : decode cX3_roquet 20 = .ok (.iand, 1) := by decide +kernel
theorem dX3_roquet_21 : decode cX3_roquet 21 = .ok (.putfield 65, 3) := by decide +kernel
theorem dX3_roquet_24 : decode cX3_roquet 24 = .ok (.aload_n 0, 1) := by decide +kernel
theorem dX3_roquet_25 : decode cX3_roquet 25 = .ok (.iload_n 1, 1) := by decide +kernel
theorem dX3_roquet_26 : decode cX3_roquet 26 = .ok (.putfield 48, 3) := by decide +kernel
theorem dX3_roquet_29 : decode cX3_roquet 29 = .ok (.return_, 1) := by decide +kernel
theorem dX3_croquet_0 : decode cX3_croquet 0 = .ok (.aload_n 0, 1) := by decide +kernel
theorem dX3_croquet_1 : decode cX3_croquet 1 = .ok (.iconst 1, 1) := by decide +kernel
theorem dX3_croquet_2 : decode cX3_croquet 2 = .ok (.putfield 83, 3) := by decide +kernel
theorem dX3_croquet_5 : decode cX3_croquet 5 = .ok (.aload_n 0, 1) := by decide +kernel
theorem dX3_croquet_6 : decode cX3_croquet 6 = .ok (.bipush (-4), 2) := by decide +kernel
theorem dX3_croquet_8 : decode cX3_croquet 8 = .ok (.putfield 48, 3) := by decide +kernel
theorem dX3_croquet_11 : decode cX3_croquet 11 = .ok (.return_, 1) := by decide +kernel
theorem dX3_spendFree_0 : decode cX3_spendFree 0 = .ok (.aload_n 0, 1) := by decide +kernel
theorem dX3_spendFree_1 : decode cX3_spendFree 1 = .ok (.iconst 1, 1) := by decide +kernel
theorem dX3_spendFree_2 : decode cX3_spendFree 2 = .ok (.aload_n 0, 1) := by decide +kernel
theorem dX3_spendFree_3 : decode cX3_spendFree 3 = .ok (.getfield 58, 3) := by decide +kernel
theorem dX3_spendFree_6 : decode cX3_spendFree 6 = .ok (.isub, 1) := by decide +kernel
theorem dX3_spendFree_7 : decode cX3_spendFree 7 = .ok (.putfield 58, 3) := by decide +kernel
theorem dX3_spendFree_10 : decode cX3_spendFree 10 = .ok (.aload_n 0, 1) := by decide +kernel
theorem dX3_spendFree_11 : decode cX3_spendFree 11 = .ok (.getfield 15, 3) := by decide +kernel
theorem dX3_spendFree_14 : decode cX3_spendFree 14 = .ok (.aload_n 0, 1) := by decide +kernel
theorem dX3_spendFree_15 : decode cX3_spendFree 15 = .ok (.getfield 58, 3) := by decide +kernel
theorem dX3_spendFree_18 : decode cX3_spendFree 18 = .ok (.aload_n 0, 1) := by decide +kernel
theorem dX3_spendFree_19 : decode cX3_spendFree 19 = .ok (.getfield 15, 3) := by decide +kernel
theorem dX3_spendFree_22 : decode cX3_spendFree 22 = .ok (.aload_n 0, 1) := by decide +kernel
theorem dX3_spendFree_23 : decode cX3_spendFree 23 = .ok (.getfield 58, 3) := by decide +kernel
theorem dX3_spendFree_26 : decode cX3_spendFree 26 = .ok (.invokestatic 61, 3) := by decide +kernel
theorem dX3_spendFree_29 : decode cX3_spendFree 29 = .ok (.iconst 1, 1) := by decide +kernel
theorem dX3_spendFree_30 : decode cX3_spendFree 30 = .ok (.isub, 1) := by decide +kernel
theorem dX3_spendFree_31 : decode cX3_spendFree 31 = .ok (.invokestatic 24, 3) := by decide +kernel
theorem dX3_spendFree_34 : decode cX3_spendFree 34 = .ok (.return_, 1) := by decide +kernel
theorem dX3_endTurn_0 : decode cX3_endTurn 0 = .ok (.aload_n 0, 1) := by decide +kernel
theorem dX3_endTurn_1 : decode cX3_endTurn 1 = .ok (.getfield 36, 3) := by decide +kernel
theorem dX3_endTurn_4 : decode cX3_endTurn 4 = .ok (.bipush (-4), 2) := by decide +kernel
theorem dX3_endTurn_6 : decode cX3_endTurn 6 = .ok (.if_icmp .eq 23, 3) := by decide +kernel
theorem dX3_endTurn_9 : decode cX3_endTurn 9 = .ok (.aload_n 0, 1) := by decide +kernel
theorem dX3_endTurn_10 : decode cX3_endTurn 10 = .ok (.getfield 36, 3) := by decide +kernel
theorem dX3_endTurn_13 : decode cX3_endTurn 13 = .ok (.istore_n 1, 1) := by decide +kernel
theorem dX3_endTurn_14 : decode cX3_endTurn 14 = .ok (.aload_n 0, 1) := by decide +kernel
theorem dX3_endTurn_15 : decode cX3_endTurn 15 = .ok (.iconst 1, 1) := by decide +kernel
theorem dX3_endTurn_16 : decode cX3_endTurn 16 = .ok (.aload_n 0, 1) := by decide +kernel
theorem dX3_endTurn_17 : decode cX3_endTurn 17 = .ok (.getfield 58, 3) := by decide +kernel
theorem dX3_endTurn_20 : decode cX3_endTurn 20 = .ok (.isub, 1) := by decide +kernel
theorem dX3_endTurn_21 : decode cX3_endTurn 21 = .ok (.invokevirtual 28, 3) := by decide +kernel
theorem dX3_endTurn_24 : decode cX3_endTurn 24 = .ok (.aload_n 0, 1) := by decide +kernel
theorem dX3_endTurn_25 : decode cX3_endTurn 25 = .ok (.iload_n 1, 1) := by decide +kernel
theorem dX3_endTurn_26 : decode cX3_endTurn 26 = .ok (.putfield 55, 3) := by decide +kernel
theorem dX3_endTurn_29 : decode cX3_endTurn 29 = .ok (.return_, 1) := by decide +kernel
theorem dX3_stopFor_0 : decode cX3_stopFor 0 = .ok (.aload_n 0, 1) := by decide +kernel
theorem dX3_stopFor_1 : decode cX3_stopFor 1 = .ok (.iload_n 1, 1) := by decide +kernel
theorem dX3_stopFor_2 : decode cX3_stopFor 2 = .ok (.putfield 58, 3) := by decide +kernel
theorem dX3_stopFor_5 : decode cX3_stopFor 5 = .ok (.aload_n 0, 1) := by decide +kernel
theorem dX3_stopFor_6 : decode cX3_stopFor 6 = .ok (.bipush (-4), 2) := by decide +kernel
theorem dX3_stopFor_8 : decode cX3_stopFor 8 = .ok (.putfield 36, 3) := by decide +kernel
theorem dX3_stopFor_11 : decode cX3_stopFor 11 = .ok (.aload_n 0, 1) := by decide +kernel
theorem dX3_stopFor_12 : decode cX3_stopFor 12 = .ok (.iconst 0, 1) := by decide +kernel
theorem dX3_stopFor_13 : decode cX3_stopFor 13 = .ok (.putfield 83, 3) := by decide +kernel
theorem dX3_stopFor_16 : decode cX3_stopFor 16 = .ok (.aload_n 0, 1) := by decide +kernel
theorem dX3_stopFor_17 : decode cX3_stopFor 17 = .ok (.iconst 0, 1) := by decide +kernel
theorem dX3_stopFor_18 : decode cX3_stopFor 18 = .ok (.putfield 65, 3) := by decide +kernel
theorem dX3_stopFor_21 : decode cX3_stopFor 21 = .ok (.aload_n 0, 1) := by decide +kernel
theorem dX3_stopFor_22 : decode cX3_stopFor 22 = .ok (.bipush (-4), 2) := by decide +kernel
theorem dX3_stopFor_24 : decode cX3_stopFor 24 = .ok (.putfield 48, 3) := by decide +kernel
theorem dX3_stopFor_27 : decode cX3_stopFor 27 = .ok (.aload_n 0, 1) := by decide +kernel
theorem dX3_stopFor_28 : decode cX3_stopFor 28 = .ok (.bipush (-4), 2) := by decide +kernel
theorem dX3_stopFor_30 : decode cX3_stopFor 30 = .ok (.putfield 55, 3) := by decide +kernel
theorem dX3_stopFor_33 : decode cX3_stopFor 33 = .ok (.return_, 1) := by decide +kernel
theorem dX3_isOut_0 : decode cX3_isOut 0 = .ok (.aload_n 0, 1) := by decide +kernel
theorem dX3_isOut_1 : decode cX3_isOut 1 = .ok (.getfield 9, 3) := by decide +kernel
theorem dX3_isOut_4 : decode cX3_isOut 4 = .ok (.iload_n 1, 1) := by decide +kernel
theorem dX3_isOut_5 : decode cX3_isOut 5 = .ok (.invokestatic 61, 3) := by decide +kernel
theorem dX3_isOut_8 : decode cX3_isOut 8 = .ok (.bipush 7, 2) := by decide +kernel
theorem dX3_isOut_10 : decode cX3_isOut 10 = .ok (.if_icmp .ne 7, 3) := by decide +kernel
theorem dX3_isOut_13 : decode cX3_isOut 13 = .ok (.iconst 1, 1) := by decide +kernel
theorem dX3_isOut_14 : decode cX3_isOut 14 = .ok (.goto 4, 3) := by decide +kernel
theorem dX3_isOut_17 : decode cX3_isOut 17 = .ok (.iconst 0, 1) := by decide +kernel
theorem dX3_isOut_18 : decode cX3_isOut 18 = .ok (.ireturn, 1) := by decide +kernel
theorem dX3_winner_0 : decode cX3_winner 0 = .ok (.aload_n 0, 1) := by decide +kernel
theorem dX3_winner_1 : decode cX3_winner 1 = .ok (.iconst 0, 1) := by decide +kernel
theorem dX3_winner_2 : decode cX3_winner 2 = .ok (.invokevirtual 40, 3) := by decide +kernel
theorem dX3_winner_5 : decode cX3_winner 5 = .ok (.ifCond .eq 13, 3) := by decide +kernel
theorem dX3_winner_8 : decode cX3_winner 8 = .ok (.aload_n 0, 1) := by decide +kernel
theorem dX3_winner_9 : decode cX3_winner 9 = .ok (.iconst 2, 1) := by decide +kernel
theorem dX3_winner_10 : decode cX3_winner 10 = .ok (.invokevirtual 40, 3) := by decide +kernel
theorem dX3_winner_13 : decode cX3_winner 13 = .ok (.ifCond .eq 5, 3) := by decide +kernel
theorem dX3_winner_16 : decode cX3_winner 16 = .ok (.iconst 0, 1) := by decide +kernel
theorem dX3_winner_17 : decode cX3_winner 17 = .ok (.ireturn, 1) := by decide +kernel
theorem dX3_winner_18 : decode cX3_winner 18 = .ok (.aload_n 0, 1) := by decide +kernel
theorem dX3_winner_19 : decode cX3_winner 19 = .ok (.iconst 1, 1) := by decide +kernel
theorem dX3_winner_20 : decode cX3_winner 20 = .ok (.invokevirtual 40, 3) := by decide +kernel
theorem dX3_winner_23 : decode cX3_winner 23 = .ok (.ifCond .eq 15, 3) := by decide +kernel
theorem dX3_winner_26 : decode cX3_winner 26 = .ok (.aload_n 0, 1) := by decide +kernel
theorem dX3_winner_27 : decode cX3_winner 27 = .ok (.iconst 3, 1) := by decide +kernel
theorem dX3_winner_28 : decode cX3_winner 28 = .ok (.invokevirtual 40, 3) := by decide +kernel
theorem dX3_winner_31 : decode cX3_winner 31 = .ok (.ifCond .eq 7, 3) := by decide +kernel
theorem dX3_winner_34 : decode cX3_winner 34 = .ok (.iconst 1, 1) := by decide +kernel
theorem dX3_winner_35 : decode cX3_winner 35 = .ok (.goto 5, 3) := by decide +kernel
theorem dX3_winner_38 : decode cX3_winner 38 = .ok (.bipush (-4), 2) := by decide +kernel
theorem dX3_winner_40 : decode cX3_winner 40 = .ok (.ireturn, 1) := by decide +kernel
theorem dX3_side_0 : decode cX3_side 0 = .ok (.aload_n 0, 1) := by decide +kernel
theorem dX3_side_1 : decode cX3_side 1 = .ok (.getfield 58, 3) := by decide +kernel
theorem dX3_side_4 : decode cX3_side 4 = .ok (.ireturn, 1) := by decide +kernel
theorem dX3_inPlay_0 : decode cX3_inPlay 0 = .ok (.aload_n 0, 1) := by decide +kernel
theorem dX3_inPlay_1 : decode cX3_inPlay 1 = .ok (.getfield 36, 3) := by decide +kernel
theorem dX3_inPlay_4 : decode cX3_inPlay 4 = .ok (.ireturn, 1) := by decide +kernel
theorem dX3_tell_0 : decode cX3_tell 0 = .ok (.iload_n 1, 1) := by decide +kernel
theorem dX3_tell_1 : decode cX3_tell 1 = .ok (.tableswitch 111 0 11 #[63, 68, 73, 78, 83, 111, 111, 111, 111, 88, 97, 106], 63) := by decide +kernel
theorem dX3_tell_64 : decode cX3_tell 64 = .ok (.aload_n 0, 1) := by decide +kernel
theorem dX3_tell_65 : decode cX3_tell 65 = .ok (.getfield 58, 3) := by decide +kernel
theorem dX3_tell_68 : decode cX3_tell 68 = .ok (.ireturn, 1) := by decide +kernel
theorem dX3_tell_69 : decode cX3_tell 69 = .ok (.aload_n 0, 1) := by decide +kernel
theorem dX3_tell_70 : decode cX3_tell 70 = .ok (.getfield 36, 3) := by decide +kernel
theorem dX3_tell_73 : decode cX3_tell 73 = .ok (.ireturn, 1) := by decide +kernel
theorem dX3_tell_74 : decode cX3_tell 74 = .ok (.aload_n 0, 1) := by decide +kernel
theorem dX3_tell_75 : decode cX3_tell 75 = .ok (.getfield 83, 3) := by decide +kernel
theorem dX3_tell_78 : decode cX3_tell 78 = .ok (.ireturn, 1) := by decide +kernel
theorem dX3_tell_79 : decode cX3_tell 79 = .ok (.aload_n 0, 1) := by decide +kernel
theorem dX3_tell_80 : decode cX3_tell 80 = .ok (.getfield 65, 3) := by decide +kernel
theorem dX3_tell_83 : decode cX3_tell 83 = .ok (.ireturn, 1) := by decide +kernel
theorem dX3_tell_84 : decode cX3_tell 84 = .ok (.aload_n 0, 1) := by decide +kernel
theorem dX3_tell_85 : decode cX3_tell 85 = .ok (.getfield 48, 3) := by decide +kernel
theorem dX3_tell_88 : decode cX3_tell 88 = .ok (.ireturn, 1) := by decide +kernel
theorem dX3_tell_89 : decode cX3_tell 89 = .ok (.aload_n 0, 1) := by decide +kernel
theorem dX3_tell_90 : decode cX3_tell 90 = .ok (.getfield 15, 3) := by decide +kernel
theorem dX3_tell_93 : decode cX3_tell 93 = .ok (.iconst 0, 1) := by decide +kernel
theorem dX3_tell_94 : decode cX3_tell 94 = .ok (.invokestatic 61, 3) := by decide +kernel
theorem dX3_tell_97 : decode cX3_tell 97 = .ok (.ireturn, 1) := by decide +kernel
theorem dX3_tell_98 : decode cX3_tell 98 = .ok (.aload_n 0, 1) := by decide +kernel
theorem dX3_tell_99 : decode cX3_tell 99 = .ok (.getfield 15, 3) := by decide +kernel
theorem dX3_tell_102 : decode cX3_tell 102 = .ok (.iconst 1, 1) := by decide +kernel
theorem dX3_tell_103 : decode cX3_tell 103 = .ok (.invokestatic 61, 3) := by decide +kernel
theorem dX3_tell_106 : decode cX3_tell 106 = .ok (.ireturn, 1) := by decide +kernel
theorem dX3_tell_107 : decode cX3_tell 107 = .ok (.aload_n 0, 1) := by decide +kernel
theorem dX3_tell_108 : decode cX3_tell 108 = .ok (.invokevirtual 32, 3) := by decide +kernel
theorem dX3_tell_111 : decode cX3_tell 111 = .ok (.ireturn, 1) := by decide +kernel
theorem dX3_tell_112 : decode cX3_tell 112 = .ok (.aload_n 0, 1) := by decide +kernel
theorem dX3_tell_113 : decode cX3_tell 113 = .ok (.getfield 9, 3) := by decide +kernel
theorem dX3_tell_116 : decode cX3_tell 116 = .ok (.iload_n 1, 1) := by decide +kernel
theorem dX3_tell_117 : decode cX3_tell 117 = .ok (.iconst 5, 1) := by decide +kernel
theorem dX3_tell_118 : decode cX3_tell 118 = .ok (.isub, 1) := by decide +kernel
theorem dX3_tell_119 : decode cX3_tell 119 = .ok (.invokestatic 61, 3) := by decide +kernel
theorem dX3_tell_122 : decode cX3_tell 122 = .ok (.ireturn, 1) := by decide +kernel
theorem dX4_init_0 : decode cX4_init 0 = .ok (.aload_n 0, 1) := by decide +kernel
theorem dX4_init_1 : decode cX4_init 1 = .ok (.invokespecial 3, 3) := by decide +kernel
theorem dX4_init_4 : decode cX4_init 4 = .ok (.aload_n 0, 1) := by decide +kernel
theorem dX4_init_5 : decode cX4_init 5 = .ok (.bipush 8, 2) := by decide +kernel
theorem dX4_init_7 : decode cX4_init 7 = .ok (.newarray .int, 2) := by decide +kernel
theorem dX4_init_9 : decode cX4_init 9 = .ok (.putfield 9, 3) := by decide +kernel
theorem dX4_init_12 : decode cX4_init 12 = .ok (.aload_n 0, 1) := by decide +kernel
theorem dX4_init_13 : decode cX4_init 13 = .ok (.getfield 9, 3) := by decide +kernel
theorem dX4_init_16 : decode cX4_init 16 = .ok (.sipush 1000, 3) := by decide +kernel
theorem dX4_init_19 : decode cX4_init 19 = .ok (.invokestatic 15, 3) := by decide +kernel
theorem dX4_init_22 : decode cX4_init 22 = .ok (.return_, 1) := by decide +kernel
theorem dX4_put_0 : decode cX4_put 0 = .ok (.aload_n 0, 1) := by decide +kernel
theorem dX4_put_1 : decode cX4_put 1 = .ok (.getfield 9, 3) := by decide +kernel
theorem dX4_put_4 : decode cX4_put 4 = .ok (.iload_n 1, 1) := by decide +kernel
theorem dX4_put_5 : decode cX4_put 5 = .ok (.invokestatic 21, 3) := by decide +kernel
theorem dX4_put_8 : decode cX4_put 8 = .ok (.istore_n 3, 1) := by decide +kernel
theorem dX4_put_9 : decode cX4_put 9 = .ok (.aload_n 0, 1) := by decide +kernel
theorem dX4_put_10 : decode cX4_put 10 = .ok (.getfield 9, 3) := by decide +kernel
theorem dX4_put_13 : decode cX4_put 13 = .ok (.iload_n 1, 1) := by decide +kernel
theorem dX4_put_14 : decode cX4_put 14 = .ok (.iload_n 2, 1) := by decide +kernel
theorem dX4_put_15 : decode cX4_put 15 = .ok (.invokestatic 25, 3) := by decide +kernel
theorem dX4_put_18 : decode cX4_put 18 = .ok (.iload_n 3, 1) := by decide +kernel
theorem dX4_put_19 : decode cX4_put 19 = .ok (.ireturn, 1) := by decide +kernel
theorem dX4_handicapOf_0 : decode cX4_handicapOf 0 = .ok (.bipush 20, 2) := by decide +kernel
theorem dX4_handicapOf_2 : decode cX4_handicapOf 2 = .ok (.aload_n 0, 1) := by decide +kernel
theorem dX4_handicapOf_3 : decode cX4_handicapOf 3 = .ok (.getfield 9, 3) := by decide +kernel
theorem dX4_handicapOf_6 : decode cX4_handicapOf 6 = .ok (.iload_n 1, 1) := by decide +kernel
theorem dX4_handicapOf_7 : decode cX4_handicapOf 7 = .ok (.invokestatic 21, 3) := by decide +kernel
theorem dX4_handicapOf_10 : decode cX4_handicapOf 10 = .ok (.bipush 100, 2) := by decide +kernel
theorem dX4_handicapOf_12 : decode cX4_handicapOf 12 = .ok (.idiv, 1) := by decide +kernel
theorem dX4_handicapOf_13 : decode cX4_handicapOf 13 = .ok (.isub, 1) := by decide +kernel
theorem dX4_handicapOf_14 : decode cX4_handicapOf 14 = .ok (.ireturn, 1) := by decide +kernel
theorem dX4_freeTurnsOfOther_0 : decode cX4_freeTurnsOfOther 0 = .ok (.aload_n 0, 1) := by decide +kernel
theorem dX4_freeTurnsOfOther_1 : decode cX4_freeTurnsOfOther 1 = .ok (.iload_n 2, 1) := by decide +kernel
theorem dX4_freeTurnsOfOther_2 : decode cX4_freeTurnsOfOther 2 = .ok (.invokevirtual 29, 3) := by decide +kernel
theorem dX4_freeTurnsOfOther_5 : decode cX4_freeTurnsOfOther 5 = .ok (.aload_n 0, 1) := by decide +kernel
theorem dX4_freeTurnsOfOther_6 : decode cX4_freeTurnsOfOther 6 = .ok (.iload_n 1, 1) := by decide +kernel
theorem dX4_freeTurnsOfOther_7 : decode cX4_freeTurnsOfOther 7 = .ok (.invokevirtual 29, 3) := by decide +kernel
theorem dX4_freeTurnsOfOther_10 : decode cX4_freeTurnsOfOther 10 = .ok (.isub, 1) := by decide +kernel
theorem dX4_freeTurnsOfOther_11 : decode cX4_freeTurnsOfOther 11 = .ok (.istore_n 3, 1) := by decide +kernel
theorem dX4_freeTurnsOfOther_12 : decode cX4_freeTurnsOfOther 12 = .ok (.iload_n 3, 1) := by decide +kernel
theorem dX4_freeTurnsOfOther_13 : decode cX4_freeTurnsOfOther 13 = .ok (.invokestatic 33, 3) := by decide +kernel
theorem dX4_freeTurnsOfOther_16 : decode cX4_freeTurnsOfOther 16 = .ok (.iconst 1, 1) := by decide +kernel
theorem dX4_freeTurnsOfOther_17 : decode cX4_freeTurnsOfOther 17 = .ok (.iadd, 1) := by decide +kernel
theorem dX4_freeTurnsOfOther_18 : decode cX4_freeTurnsOfOther 18 = .ok (.iconst 2, 1) := by decide +kernel
theorem dX4_freeTurnsOfOther_19 : decode cX4_freeTurnsOfOther 19 = .ok (.idiv, 1) := by decide +kernel
theorem dX4_freeTurnsOfOther_20 : decode cX4_freeTurnsOfOther 20 = .ok (.istore 4, 2) := by decide +kernel
theorem dX4_freeTurnsOfOther_22 : decode cX4_freeTurnsOfOther 22 = .ok (.iload_n 3, 1) := by decide +kernel
theorem dX4_freeTurnsOfOther_23 : decode cX4_freeTurnsOfOther 23 = .ok (.ifCond .ge 9, 3) := by decide +kernel
theorem dX4_freeTurnsOfOther_26 : decode cX4_freeTurnsOfOther 26 = .ok (.iload 4, 2) := by decide +kernel
theorem dX4_freeTurnsOfOther_28 : decode cX4_freeTurnsOfOther 28 = .ok (.ineg, 1) := by decide +kernel
theorem dX4_freeTurnsOfOther_29 : decode cX4_freeTurnsOfOther 29 = .ok (.goto 5, 3) := by decide +kernel
theorem dX4_freeTurnsOfOther_32 : decode cX4_freeTurnsOfOther 32 = .ok (.iload 4, 2) := by decide +kernel
theorem dX4_freeTurnsOfOther_34 : decode cX4_freeTurnsOfOther 34 = .ok (.ireturn, 1) := by decide +kernel
theorem dX5_init_0 : decode cX5_init 0 = .ok (.aload_n 0, 1) := by decide +kernel
theorem dX5_init_1 : decode cX5_init 1 = .ok (.invokespecial 3, 3) := by decide +kernel
theorem dX5_init_4 : decode cX5_init 4 = .ok (.aload_n 0, 1) := by decide +kernel
theorem dX5_init_5 : decode cX5_init 5 = .ok (.new 9, 3) := by decide +kernel
theorem dX5_init_8 : decode cX5_init 8 = .ok (.dup, 1) := by decide +kernel
theorem dX5_init_9 : decode cX5_init 9 = .ok (.invokespecial 11, 3) := by decide +kernel
theorem dX5_init_12 : decode cX5_init 12 = .ok (.putfield 12, 3) := by decide +kernel
theorem dX5_init_15 : decode cX5_init 15 = .ok (.aload_n 0, 1) := by decide +kernel
theorem dX5_init_16 : decode cX5_init 16 = .ok (.new 16, 3) := by decide +kernel
theorem dX5_init_19 : decode cX5_init 19 = .ok (.dup, 1) := by decide +kernel
theorem dX5_init_20 : decode cX5_init 20 = .ok (.invokespecial 18, 3) := by decide +kernel
theorem dX5_init_23 : decode cX5_init 23 = .ok (.putfield 19, 3) := by decide +kernel
theorem dX5_init_26 : decode cX5_init 26 = .ok (.aload_n 0, 1) := by decide +kernel
theorem dX5_init_27 : decode cX5_init 27 = .ok (.new 23, 3) := by decide +kernel
theorem dX5_init_30 : decode cX5_init 30 = .ok (.dup, 1) := by decide +kernel
theorem dX5_init_31 : decode cX5_init 31 = .ok (.invokespecial 25, 3) := by decide +kernel
theorem dX5_init_34 : decode cX5_init 34 = .ok (.putfield 26, 3) := by decide +kernel
theorem dX5_init_37 : decode cX5_init 37 = .ok (.aload_n 0, 1) := by decide +kernel
theorem dX5_init_38 : decode cX5_init 38 = .ok (.new 30, 3) := by decide +kernel
theorem dX5_init_41 : decode cX5_init 41 = .ok (.dup, 1) := by decide +kernel
theorem dX5_init_42 : decode cX5_init 42 = .ok (.invokespecial 32, 3) := by decide +kernel
theorem dX5_init_45 : decode cX5_init 45 = .ok (.putfield 33, 3) := by decide +kernel
theorem dX5_init_48 : decode cX5_init 48 = .ok (.return_, 1) := by decide +kernel
theorem dX5_game_0 : decode cX5_game 0 = .ok (.iload_n 1, 1) := by decide +kernel
theorem dX5_game_1 : decode cX5_game 1 = .ok (.invokestatic 37, 3) := by decide +kernel
theorem dX5_game_4 : decode cX5_game 4 = .ok (.ifCond .eq 15, 3) := by decide +kernel
theorem dX5_game_7 : decode cX5_game 7 = .ok (.iload_n 2, 1) := by decide +kernel
theorem dX5_game_8 : decode cX5_game 8 = .ok (.invokestatic 37, 3) := by decide +kernel
theorem dX5_game_11 : decode cX5_game 11 = .ok (.ifCond .eq 8, 3) := by decide +kernel
theorem dX5_game_14 : decode cX5_game 14 = .ok (.iload_n 1, 1) := by decide +kernel
theorem dX5_game_15 : decode cX5_game 15 = .ok (.iload_n 2, 1) := by decide +kernel
theorem dX5_game_16 : decode cX5_game 16 = .ok (.if_icmp .ne 6, 3) := by decide +kernel
theorem dX5_game_19 : decode cX5_game 19 = .ok (.bipush (-101), 2) := by decide +kernel
theorem dX5_game_21 : decode cX5_game 21 = .ok (.ireturn, 1) := by decide +kernel
theorem dX5_game_22 : decode cX5_game 22 = .ok (.aload_n 0, 1) := by decide +kernel
theorem dX5_game_23 : decode cX5_game 23 = .ok (.getfield 26, 3) := by decide +kernel
theorem dX5_game_26 : decode cX5_game 26 = .ok (.iload_n 1, 1) := by decide +kernel
theorem dX5_game_27 : decode cX5_game 27 = .ok (.iload_n 2, 1) := by decide +kernel
theorem dX5_game_28 : decode cX5_game 28 = .ok (.invokevirtual 41, 3) := by decide +kernel
theorem dX5_game_31 : decode cX5_game 31 = .ok (.istore_n 3, 1) := by decide +kernel
theorem dX5_game_32 : decode cX5_game 32 = .ok (.aload_n 0, 1) := by decide +kernel
theorem dX5_game_33 : decode cX5_game 33 = .ok (.getfield 12, 3) := by decide +kernel
theorem dX5_game_36 : decode cX5_game 36 = .ok (.iload_n 1, 1) := by decide +kernel
theorem dX5_game_37 : decode cX5_game 37 = .ok (.iload_n 2, 1) := by decide +kernel
theorem dX5_game_38 : decode cX5_game 38 = .ok (.iconst 0, 1) := by decide +kernel
theorem dX5_game_39 : decode cX5_game 39 = .ok (.iload_n 3, 1) := by decide +kernel
theorem dX5_game_40 : decode cX5_game 40 = .ok (.ineg, 1) := by decide +kernel
theorem dX5_game_41 : decode cX5_game 41 = .ok (.invokestatic 45, 3) := by decide +kernel
theorem dX5_game_44 : decode cX5_game 44 = .ok (.iconst 0, 1) := by decide +kernel
theorem dX5_game_45 : decode cX5_game 45 = .ok (.iload_n 3, 1) := by decide +kernel
theorem dX5_game_46 : decode cX5_game 46 = .ok (.invokestatic 45, 3) := by decide +kernel
theorem dX5_game_49 : decode cX5_game 49 = .ok (.invokevirtual 50, 3) := by decide +kernel
theorem dX5_game_52 : decode cX5_game 52 = .ok (.iload_n 3, 1) := by decide +kernel
theorem dX5_game_53 : decode cX5_game 53 = .ok (.ireturn, 1) := by decide +kernel
theorem dX5_stroke_0 : decode cX5_stroke 0 = .ok (.iload_n 1, 1) := by decide +kernel
theorem dX5_stroke_1 : decode cX5_stroke 1 = .ok (.iconst 0, 1) := by decide +kernel
theorem dX5_stroke_2 : decode cX5_stroke 2 = .ok (.bipush 6, 2) := by decide +kernel
theorem dX5_stroke_4 : decode cX5_stroke 4 = .ok (.invokestatic 54, 3) := by decide +kernel
theorem dX5_stroke_7 : decode cX5_stroke 7 = .ok (.ifCond .ne 5, 3) := by decide +kernel
theorem dX5_stroke_10 : decode cX5_stroke 10 = .ok (.iconst (-1), 1) := by decide +kernel
theorem dX5_stroke_11 : decode cX5_stroke 11 = .ok (.ireturn, 1) := by decide +kernel
theorem dX5_stroke_12 : decode cX5_stroke 12 = .ok (.iload_n 1, 1) := by decide +kernel
theorem dX5_stroke_13 : decode cX5_stroke 13 = .ok (.ifCond .eq 8, 3) := by decide +kernel
theorem dX5_stroke_16 : decode cX5_stroke 16 = .ok (.iload_n 1, 1) := by decide +kernel
theorem dX5_stroke_17 : decode cX5_stroke 17 = .ok (.iconst 3, 1) := by decide +kernel
theorem dX5_stroke_18 : decode cX5_stroke 18 = .ok (.if_icmp .ne 7, 3) := by decide +kernel
theorem dX5_stroke_21 : decode cX5_stroke 21 = .ok (.iconst 1, 1) := by decide +kernel
theorem dX5_stroke_22 : decode cX5_stroke 22 = .ok (.goto 4, 3) := by decide +kernel
theorem dX5_stroke_25 : decode cX5_stroke 25 = .ok (.iconst 0, 1) := by decide +kernel
theorem dX5_stroke_26 : decode cX5_stroke 26 = .ok (.istore_n 3, 1) := by decide +kernel
theorem dX5_stroke_27 : decode cX5_stroke 27 = .ok (.iload_n 3, 1) := by decide +kernel
theorem dX5_stroke_28 : decode cX5_stroke 28 = .ok (.ifCond .eq 14, 3) := by decide +kernel
theorem dX5_stroke_31 : decode cX5_stroke 31 = .ok (.iload_n 2, 1) := by decide +kernel
theorem dX5_stroke_32 : decode cX5_stroke 32 = .ok (.iconst 0, 1) := by decide +kernel
theorem dX5_stroke_33 : decode cX5_stroke 33 = .ok (.iconst 3, 1) := by decide +kernel
theorem dX5_stroke_34 : decode cX5_stroke 34 = .ok (.invokestatic 54, 3) := by decide +kernel
theorem dX5_stroke_37 : decode cX5_stroke 37 = .ok (.ifCond .ne 5, 3) := by decide +kernel
theorem dX5_stroke_40 : decode cX5_stroke 40 = .ok (.iconst (-1), 1) := by decide +kernel
theorem dX5_stroke_41 : decode cX5_stroke 41 = .ok (.ireturn, 1) := by decide +kernel
theorem dX5_stroke_42 : decode cX5_stroke 42 = .ok (.aload_n 0, 1) := by decide +kernel
theorem dX5_stroke_43 : decode cX5_stroke 43 = .ok (.getfield 12, 3) := by decide +kernel
theorem dX5_stroke_46 : decode cX5_stroke 46 = .ok (.iload_n 1, 1) := by decide +kernel
theorem dX5_stroke_47 : decode cX5_stroke 47 = .ok (.iload_n 3, 1) := by decide +kernel
theorem dX5_stroke_48 : decode cX5_stroke 48 = .ok (.ifCond .eq 7, 3) := by decide +kernel
theorem dX5_stroke_51 : decode cX5_stroke 51 = .ok (.iload_n 2, 1) := by decide +kernel
theorem dX5_stroke_52 : decode cX5_stroke 52 = .ok (.goto 4, 3) := by decide +kernel
theorem dX5_stroke_55 : decode cX5_stroke 55 = .ok (.iconst 0, 1) := by decide +kernel
theorem dX5_stroke_56 : decode cX5_stroke 56 = .ok (.invokevirtual 58, 3) := by decide +kernel
theorem dX5_stroke_59 : decode cX5_stroke 59 = .ok (.ireturn, 1) := by decide +kernel
theorem dX5_told_0 : decode cX5_told 0 = .ok (.iload_n 1, 1) := by decide +kernel
theorem dX5_told_1 : decode cX5_told 1 = .ok (.ifCond .lt 12, 3) := by decide +kernel
theorem dX5_told_4 : decode cX5_told 4 = .ok (.iload_n 2, 1) := by decide +kernel
theorem dX5_told_5 : decode cX5_told 5 = .ok (.iconst 0, 1) := by decide +kernel
theorem dX5_told_6 : decode cX5_told 6 = .ok (.iconst 3, 1) := by decide +kernel
theorem dX5_told_7 : decode cX5_told 7 = .ok (.invokestatic 54, 3) := by decide +kernel
theorem dX5_told_10 : decode cX5_told 10 = .ok (.ifCond .ne 7, 3) := by decide +kernel
theorem dX5_told_13 : decode cX5_told 13 = .ok (.iconst (-1), 1) := by decide +kernel
theorem dX5_told_14 : decode cX5_told 14 = .ok (.goto 12, 3) := by decide +kernel
theorem dX5_told_17 : decode cX5_told 17 = .ok (.aload_n 0, 1) := by decide +kernel
theorem dX5_told_18 : decode cX5_told 18 = .ok (.getfield 12, 3) := by decide +kernel
theorem dX5_told_21 : decode cX5_told 21 = .ok (.iload_n 1, 1) := by decide +kernel
theorem dX5_told_22 : decode cX5_told 22 = .ok (.iload_n 2, 1) := by decide +kernel
theorem dX5_told_23 : decode cX5_told 23 = .ok (.invokevirtual 61, 3) := by decide +kernel
theorem dX5_told_26 : decode cX5_told 26 = .ok (.ireturn, 1) := by decide +kernel
theorem dX5_state_0 : decode cX5_state 0 = .ok (.iload_n 2, 1) := by decide +kernel
theorem dX5_state_1 : decode cX5_state 1 = .ok (.iconst 0, 1) := by decide +kernel
theorem dX5_state_2 : decode cX5_state 2 = .ok (.bipush 11, 2) := by decide +kernel
theorem dX5_state_4 : decode cX5_state 4 = .ok (.invokestatic 54, 3) := by decide +kernel
theorem dX5_state_7 : decode cX5_state 7 = .ok (.ifCond .eq 15, 3) := by decide +kernel
theorem dX5_state_10 : decode cX5_state 10 = .ok (.aload_n 0, 1) := by decide +kernel
theorem dX5_state_11 : decode cX5_state 11 = .ok (.getfield 12, 3) := by decide +kernel
theorem dX5_state_14 : decode cX5_state 14 = .ok (.iload_n 1, 1) := by decide +kernel
theorem dX5_state_15 : decode cX5_state 15 = .ok (.iload_n 2, 1) := by decide +kernel
theorem dX5_state_16 : decode cX5_state 16 = .ok (.invokevirtual 68, 3) := by decide +kernel
theorem dX5_state_19 : decode cX5_state 19 = .ok (.goto 4, 3) := by decide +kernel
theorem dX5_state_22 : decode cX5_state 22 = .ok (.iconst (-1), 1) := by decide +kernel
theorem dX5_state_23 : decode cX5_state 23 = .ok (.ireturn, 1) := by decide +kernel
theorem dX5_found_0 : decode cX5_found 0 = .ok (.aload_n 0, 1) := by decide +kernel
theorem dX5_found_1 : decode cX5_found 1 = .ok (.getfield 12, 3) := by decide +kernel
theorem dX5_found_4 : decode cX5_found 4 = .ok (.iload_n 1, 1) := by decide +kernel
theorem dX5_found_5 : decode cX5_found 5 = .ok (.aload_n 0, 1) := by decide +kernel
theorem dX5_found_6 : decode cX5_found 6 = .ok (.getfield 19, 3) := by decide +kernel
theorem dX5_found_9 : decode cX5_found 9 = .ok (.invokevirtual 71, 3) := by decide +kernel
theorem dX5_found_12 : decode cX5_found 12 = .ok (.ireturn, 1) := by decide +kernel
theorem dX5_type_0 : decode cX5_type 0 = .ok (.aload_n 0, 1) := by decide +kernel
theorem dX5_type_1 : decode cX5_type 1 = .ok (.getfield 19, 3) := by decide +kernel
theorem dX5_type_4 : decode cX5_type 4 = .ok (.lload_n 1, 1) := by decide +kernel
theorem dX5_type_5 : decode cX5_type 5 = .ok (.iload_n 3, 1) := by decide +kernel
theorem dX5_type_6 : decode cX5_type 6 = .ok (.invokevirtual 75, 3) := by decide +kernel
theorem dX5_type_9 : decode cX5_type 9 = .ok (.ireturn, 1) := by decide +kernel
theorem dX5_laws_0 : decode cX5_laws 0 = .ok (.aload_n 0, 1) := by decide +kernel
theorem dX5_laws_1 : decode cX5_laws 1 = .ok (.getfield 19, 3) := by decide +kernel
theorem dX5_laws_4 : decode cX5_laws 4 = .ok (.invokevirtual 79, 3) := by decide +kernel
theorem dX5_laws_7 : decode cX5_laws 7 = .ok (.ireturn, 1) := by decide +kernel
theorem dX5_count_0 : decode cX5_count 0 = .ok (.iload_n 1, 1) := by decide +kernel
theorem dX5_count_1 : decode cX5_count 1 = .ok (.iconst 0, 1) := by decide +kernel
theorem dX5_count_2 : decode cX5_count 2 = .ok (.iconst 2, 1) := by decide +kernel
theorem dX5_count_3 : decode cX5_count 3 = .ok (.invokestatic 54, 3) := by decide +kernel
theorem dX5_count_6 : decode cX5_count 6 = .ok (.ifCond .eq 14, 3) := by decide +kernel
theorem dX5_count_9 : decode cX5_count 9 = .ok (.aload_n 0, 1) := by decide +kernel
theorem dX5_count_10 : decode cX5_count 10 = .ok (.getfield 12, 3) := by decide +kernel
theorem dX5_count_13 : decode cX5_count 13 = .ok (.iload_n 1, 1) := by decide +kernel
theorem dX5_count_14 : decode cX5_count 14 = .ok (.invokevirtual 83, 3) := by decide +kernel
theorem dX5_count_17 : decode cX5_count 17 = .ok (.goto 4, 3) := by decide +kernel
theorem dX5_count_20 : decode cX5_count 20 = .ok (.iconst (-1), 1) := by decide +kernel
theorem dX5_count_21 : decode cX5_count 21 = .ok (.ireturn, 1) := by decide +kernel
theorem dX5_index_0 : decode cX5_index 0 = .ok (.iload_n 1, 1) := by decide +kernel
theorem dX5_index_1 : decode cX5_index 1 = .ok (.invokestatic 37, 3) := by decide +kernel
theorem dX5_index_4 : decode cX5_index 4 = .ok (.ifCond .eq 26, 3) := by decide +kernel
theorem dX5_index_7 : decode cX5_index 7 = .ok (.iload_n 2, 1) := by decide +kernel
theorem dX5_index_8 : decode cX5_index 8 = .ok (.iconst 0, 1) := by decide +kernel
theorem dX5_index_9 : decode cX5_index 9 = .ok (.sipush 2000, 3) := by decide +kernel
theorem dX5_index_12 : decode cX5_index 12 = .ok (.invokestatic 54, 3) := by decide +kernel
theorem dX5_index_15 : decode cX5_index 15 = .ok (.ifCond .eq 15, 3) := by decide +kernel
theorem dX5_index_18 : decode cX5_index 18 = .ok (.aload_n 0, 1) := by decide +kernel
theorem dX5_index_19 : decode cX5_index 19 = .ok (.getfield 26, 3) := by decide +kernel
theorem dX5_index_22 : decode cX5_index 22 = .ok (.iload_n 1, 1) := by decide +kernel
theorem dX5_index_23 : decode cX5_index 23 = .ok (.iload_n 2, 1) := by decide +kernel
theorem dX5_index_24 : decode cX5_index 24 = .ok (.invokevirtual 86, 3) := by decide +kernel
theorem dX5_index_27 : decode cX5_index 27 = .ok (.goto 4, 3) := by decide +kernel
theorem dX5_index_30 : decode cX5_index 30 = .ok (.iconst (-1), 1) := by decide +kernel
theorem dX5_index_31 : decode cX5_index 31 = .ok (.ireturn, 1) := by decide +kernel
theorem dX5_within_0 : decode cX5_within 0 = .ok (.iload_n 0, 1) := by decide +kernel
theorem dX5_within_1 : decode cX5_within 1 = .ok (.iload_n 1, 1) := by decide +kernel
theorem dX5_within_2 : decode cX5_within 2 = .ok (.if_icmp .lt 12, 3) := by decide +kernel
theorem dX5_within_5 : decode cX5_within 5 = .ok (.iload_n 0, 1) := by decide +kernel
theorem dX5_within_6 : decode cX5_within 6 = .ok (.iload_n 2, 1) := by decide +kernel
theorem dX5_within_7 : decode cX5_within 7 = .ok (.if_icmp .gt 7, 3) := by decide +kernel
theorem dX5_within_10 : decode cX5_within 10 = .ok (.iconst 1, 1) := by decide +kernel
theorem dX5_within_11 : decode cX5_within 11 = .ok (.goto 4, 3) := by decide +kernel
theorem dX5_within_14 : decode cX5_within 14 = .ok (.iconst 0, 1) := by decide +kernel
theorem dX5_within_15 : decode cX5_within 15 = .ok (.ireturn, 1) := by decide +kernel
theorem dX5_isPlayer_0 : decode cX5_isPlayer 0 = .ok (.iload_n 0, 1) := by decide +kernel
theorem dX5_isPlayer_1 : decode cX5_isPlayer 1 = .ok (.iconst 0, 1) := by decide +kernel
theorem dX5_isPlayer_2 : decode cX5_isPlayer 2 = .ok (.bipush 7, 2) := by decide +kernel
theorem dX5_isPlayer_4 : decode cX5_isPlayer 4 = .ok (.invokestatic 54, 3) := by decide +kernel
theorem dX5_isPlayer_7 : decode cX5_isPlayer 7 = .ok (.ireturn, 1) := by decide +kernel
theorem dX5_at_0 : decode cX5_at 0 = .ok (.iload_n 1, 1) := by decide +kernel
theorem dX5_at_1 : decode cX5_at 1 = .ok (.ifCond .lt 15, 3) := by decide +kernel
theorem dX5_at_4 : decode cX5_at 4 = .ok (.iload_n 1, 1) := by decide +kernel
theorem dX5_at_5 : decode cX5_at 5 = .ok (.aload_n 0, 1) := by decide +kernel
theorem dX5_at_6 : decode cX5_at 6 = .ok (.arraylength, 1) := by decide +kernel
theorem dX5_at_7 : decode cX5_at 7 = .ok (.if_icmp .ge 9, 3) := by decide +kernel
theorem dX5_at_10 : decode cX5_at 10 = .ok (.aload_n 0, 1) := by decide +kernel
theorem dX5_at_11 : decode cX5_at 11 = .ok (.iload_n 1, 1) := by decide +kernel
theorem dX5_at_12 : decode cX5_at 12 = .ok (.iaload, 1) := by decide +kernel
theorem dX5_at_13 : decode cX5_at 13 = .ok (.goto 5, 3) := by decide +kernel
theorem dX5_at_16 : decode cX5_at 16 = .ok (.bipush (-4), 2) := by decide +kernel
theorem dX5_at_18 : decode cX5_at 18 = .ok (.ireturn, 1) := by decide +kernel
theorem dX5_set_0 : decode cX5_set 0 = .ok (.iload_n 1, 1) := by decide +kernel
theorem dX5_set_1 : decode cX5_set 1 = .ok (.ifCond .lt 13, 3) := by decide +kernel
theorem dX5_set_4 : decode cX5_set 4 = .ok (.iload_n 1, 1) := by decide +kernel
theorem dX5_set_5 : decode cX5_set 5 = .ok (.aload_n 0, 1) := by decide +kernel
theorem dX5_set_6 : decode cX5_set 6 = .ok (.arraylength, 1) := by decide +kernel
theorem dX5_set_7 : decode cX5_set 7 = .ok (.if_icmp .ge 7, 3) := by decide +kernel
theorem dX5_set_10 : decode cX5_set 10 = .ok (.aload_n 0, 1) := by decide +kernel
theorem dX5_set_11 : decode cX5_set 11 = .ok (.iload_n 1, 1) := by decide +kernel
theorem dX5_set_12 : decode cX5_set 12 = .ok (.iload_n 2, 1) := by decide +kernel
theorem dX5_set_13 : decode cX5_set 13 = .ok (.iastore, 1) := by decide +kernel
theorem dX5_set_14 : decode cX5_set 14 = .ok (.return_, 1) := by decide +kernel
theorem dJ9_abs_0f7a4_0 : decode cJ9_abs_0f7a4 0 = .ok (.iload_n 0, 1) := by decide +kernel
theorem dJ9_abs_0f7a4_1 : decode cJ9_abs_0f7a4 1 = .ok (.ifCond .ge 8, 3) := by decide +kernel
theorem dJ9_abs_0f7a4_4 : decode cJ9_abs_0f7a4 4 = .ok (.iload_n 0, 1) := by decide +kernel
theorem dJ9_abs_0f7a4_5 : decode cJ9_abs_0f7a4 5 = .ok (.ineg, 1) := by decide +kernel
theorem dJ9_abs_0f7a4_6 : decode cJ9_abs_0f7a4 6 = .ok (.goto 4, 3) := by decide +kernel
theorem dJ9_abs_0f7a4_9 : decode cJ9_abs_0f7a4 9 = .ok (.iload_n 0, 1) := by decide +kernel
theorem dJ9_abs_0f7a4_10 : decode cJ9_abs_0f7a4 10 = .ok (.ireturn, 1) := by decide +kernel
theorem dJ9_max_7cf53_0 : decode cJ9_max_7cf53 0 = .ok (.iload_n 0, 1) := by decide +kernel
theorem dJ9_max_7cf53_1 : decode cJ9_max_7cf53 1 = .ok (.iload_n 1, 1) := by decide +kernel
theorem dJ9_max_7cf53_2 : decode cJ9_max_7cf53 2 = .ok (.if_icmp .lt 7, 3) := by decide +kernel
theorem dJ9_max_7cf53_5 : decode cJ9_max_7cf53 5 = .ok (.iload_n 0, 1) := by decide +kernel
theorem dJ9_max_7cf53_6 : decode cJ9_max_7cf53 6 = .ok (.goto 4, 3) := by decide +kernel
theorem dJ9_max_7cf53_9 : decode cJ9_max_7cf53 9 = .ok (.iload_n 1, 1) := by decide +kernel
theorem dJ9_max_7cf53_10 : decode cJ9_max_7cf53 10 = .ok (.ireturn, 1) := by decide +kernel
theorem dJ9_min_7cf53_0 : decode cJ9_min_7cf53 0 = .ok (.iload_n 0, 1) := by decide +kernel
theorem dJ9_min_7cf53_1 : decode cJ9_min_7cf53 1 = .ok (.iload_n 1, 1) := by decide +kernel
theorem dJ9_min_7cf53_2 : decode cJ9_min_7cf53 2 = .ok (.if_icmp .gt 7, 3) := by decide +kernel
theorem dJ9_min_7cf53_5 : decode cJ9_min_7cf53 5 = .ok (.iload_n 0, 1) := by decide +kernel
theorem dJ9_min_7cf53_6 : decode cJ9_min_7cf53 6 = .ok (.goto 4, 3) := by decide +kernel
theorem dJ9_min_7cf53_9 : decode cJ9_min_7cf53 9 = .ok (.iload_n 1, 1) := by decide +kernel
theorem dJ9_min_7cf53_10 : decode cJ9_min_7cf53 10 = .ok (.ireturn, 1) := by decide +kernel
theorem dJ7_fill_53178_0 : decode cJ7_fill_53178 0 = .ok (.iconst 0, 1) := by decide +kernel
theorem dJ7_fill_53178_1 : decode cJ7_fill_53178 1 = .ok (.istore_n 2, 1) := by decide +kernel
theorem dJ7_fill_53178_2 : decode cJ7_fill_53178 2 = .ok (.aload_n 0, 1) := by decide +kernel
theorem dJ7_fill_53178_3 : decode cJ7_fill_53178 3 = .ok (.arraylength, 1) := by decide +kernel
theorem dJ7_fill_53178_4 : decode cJ7_fill_53178 4 = .ok (.istore_n 3, 1) := by decide +kernel
theorem dJ7_fill_53178_5 : decode cJ7_fill_53178 5 = .ok (.iload_n 2, 1) := by decide +kernel
theorem dJ7_fill_53178_6 : decode cJ7_fill_53178 6 = .ok (.iload_n 3, 1) := by decide +kernel
theorem dJ7_fill_53178_7 : decode cJ7_fill_53178 7 = .ok (.if_icmp .ge 13, 3) := by decide +kernel
theorem dJ7_fill_53178_10 : decode cJ7_fill_53178 10 = .ok (.aload_n 0, 1) := by decide +kernel
theorem dJ7_fill_53178_11 : decode cJ7_fill_53178 11 = .ok (.iload_n 2, 1) := by decide +kernel
theorem dJ7_fill_53178_12 : decode cJ7_fill_53178 12 = .ok (.iload_n 1, 1) := by decide +kernel
theorem dJ7_fill_53178_13 : decode cJ7_fill_53178 13 = .ok (.iastore, 1) := by decide +kernel
theorem dJ7_fill_53178_14 : decode cJ7_fill_53178 14 = .ok (.iinc 2 1, 3) := by decide +kernel
theorem dJ7_fill_53178_17 : decode cJ7_fill_53178 17 = .ok (.goto (-12), 3) := by decide +kernel
theorem dJ7_fill_53178_20 : decode cJ7_fill_53178 20 = .ok (.return_, 1) := by decide +kernel
theorem dL_cell_0 : decode cL_cell 0 = .ok (.iload_n 1, 1) := by decide +kernel
theorem dL_cell_1 : decode cL_cell 1 = .ok (.aload_n 0, 1) := by decide +kernel
theorem dL_cell_2 : decode cL_cell 2 = .ok (.arraylength, 1) := by decide +kernel
theorem dL_cell_3 : decode cL_cell 3 = .ok (.if_icmp .ge 9, 3) := by decide +kernel
theorem dL_cell_6 : decode cL_cell 6 = .ok (.aload_n 0, 1) := by decide +kernel
theorem dL_cell_7 : decode cL_cell 7 = .ok (.iload_n 1, 1) := by decide +kernel
theorem dL_cell_8 : decode cL_cell 8 = .ok (.iaload, 1) := by decide +kernel
theorem dL_cell_9 : decode cL_cell 9 = .ok (.goto 9, 3) := by decide +kernel
theorem dL_cell_12 : decode cL_cell 12 = .ok (.ldc 7, 2) := by decide +kernel
theorem dL_cell_14 : decode cL_cell 14 = .ok (.iload_n 1, 1) := by decide +kernel
theorem dL_cell_15 : decode cL_cell 15 = .ok (.iconst 3, 1) := by decide +kernel
theorem dL_cell_16 : decode cL_cell 16 = .ok (.iadd, 1) := by decide +kernel
theorem dL_cell_17 : decode cL_cell 17 = .ok (.imul, 1) := by decide +kernel
theorem dL_cell_18 : decode cL_cell 18 = .ok (.ireturn, 1) := by decide +kernel
theorem dL_some_0 : decode cL_some 0 = .ok (.iload_n 0, 1) := by decide +kernel
theorem dL_some_1 : decode cL_some 1 = .ok (.ldc 8, 2) := by decide +kernel
theorem dL_some_3 : decode cL_some 3 = .ok (.iand, 1) := by decide +kernel
theorem dL_some_4 : decode cL_some 4 = .ok (.iload_n 1, 1) := by decide +kernel
theorem dL_some_5 : decode cL_some 5 = .ok (.irem, 1) := by decide +kernel
theorem dL_some_6 : decode cL_some 6 = .ok (.ireturn, 1) := by decide +kernel
theorem dL_told_0 : decode cL_told 0 = .ok (.lconst 0, 1) := by decide +kernel
theorem dL_told_1 : decode cL_told 1 = .ok (.lstore_n 2, 1) := by decide +kernel
theorem dL_told_2 : decode cL_told 2 = .ok (.iconst 0, 1) := by decide +kernel
theorem dL_told_3 : decode cL_told 3 = .ok (.istore 4, 2) := by decide +kernel
theorem dL_told_5 : decode cL_told 5 = .ok (.iload 4, 2) := by decide +kernel
theorem dL_told_7 : decode cL_told 7 = .ok (.bipush 12, 2) := by decide +kernel
theorem dL_told_9 : decode cL_told 9 = .ok (.if_icmp .ge 28, 3) := by decide +kernel
theorem dL_told_12 : decode cL_told 12 = .ok (.ldc2_w 11, 3) := by decide +kernel
theorem dL_told_15 : decode cL_told 15 = .ok (.lload_n 2, 1) := by decide +kernel
theorem dL_told_16 : decode cL_told 16 = .ok (.lmul, 1) := by decide +kernel
theorem dL_told_17 : decode cL_told 17 = .ok (.aload_n 0, 1) := by decide +kernel
theorem dL_told_18 : decode cL_told 18 = .ok (.iload_n 1, 1) := by decide +kernel
theorem dL_told_19 : decode cL_told 19 = .ok (.iload 4, 2) := by decide +kernel
theorem dL_told_21 : decode cL_told 21 = .ok (.invokevirtual 13, 3) := by decide +kernel
theorem dL_told_24 : decode cL_told 24 = .ok (.i2l, 1) := by decide +kernel
theorem dL_told_25 : decode cL_told 25 = .ok (.ladd, 1) := by decide +kernel
theorem dL_told_26 : decode cL_told 26 = .ok (.ldc2_w 19, 3) := by decide +kernel
theorem dL_told_29 : decode cL_told 29 = .ok (.ladd, 1) := by decide +kernel
theorem dL_told_30 : decode cL_told 30 = .ok (.lstore_n 2, 1) := by decide +kernel
theorem dL_told_31 : decode cL_told 31 = .ok (.iinc 4 1, 3) := by decide +kernel
theorem dL_told_34 : decode cL_told 34 = .ok (.goto (-29), 3) := by decide +kernel
theorem dL_told_37 : decode cL_told 37 = .ok (.lload_n 2, 1) := by decide +kernel
theorem dL_told_38 : decode cL_told 38 = .ok (.lreturn, 1) := by decide +kernel
theorem dL_laws_0 : decode cL_laws 0 = .ok (.aload_n 0, 1) := by decide +kernel
theorem dL_laws_1 : decode cL_laws 1 = .ok (.ldc2_w 21, 3) := by decide +kernel
theorem dL_laws_4 : decode cL_laws 4 = .ok (.iconst 1, 1) := by decide +kernel
theorem dL_laws_5 : decode cL_laws 5 = .ok (.invokevirtual 23, 3) := by decide +kernel
theorem dL_laws_8 : decode cL_laws 8 = .ok (.iconst 1, 1) := by decide +kernel
theorem dL_laws_9 : decode cL_laws 9 = .ok (.if_icmp .ne 62, 3) := by decide +kernel
theorem dL_laws_12 : decode cL_laws 12 = .ok (.aload_n 0, 1) := by decide +kernel
theorem dL_laws_13 : decode cL_laws 13 = .ok (.ldc2_w 27, 3) := by decide +kernel
theorem dL_laws_16 : decode cL_laws 16 = .ok (.iload_n 1, 1) := by decide +kernel
theorem dL_laws_17 : decode cL_laws 17 = .ok (.bipush 10, 2) := by decide +kernel
theorem dL_laws_19 : decode cL_laws 19 = .ok (.idiv, 1) := by decide +kernel
theorem dL_laws_20 : decode cL_laws 20 = .ok (.i2l, 1) := by decide +kernel
theorem dL_laws_21 : decode cL_laws 21 = .ok (.ladd, 1) := by decide +kernel
theorem dL_laws_22 : decode cL_laws 22 = .ok (.ldc2_w 29, 3) := by decide +kernel
theorem dL_laws_25 : decode cL_laws 25 = .ok (.lmul, 1) := by decide +kernel
theorem dL_laws_26 : decode cL_laws 26 = .ok (.ldc2_w 27, 3) := by decide +kernel
theorem dL_laws_29 : decode cL_laws 29 = .ok (.ladd, 1) := by decide +kernel
theorem dL_laws_30 : decode cL_laws 30 = .ok (.iload_n 1, 1) := by decide +kernel
theorem dL_laws_31 : decode cL_laws 31 = .ok (.bipush 10, 2) := by decide +kernel
theorem dL_laws_33 : decode cL_laws 33 = .ok (.irem, 1) := by decide +kernel
theorem dL_laws_34 : decode cL_laws 34 = .ok (.i2l, 1) := by decide +kernel
theorem dL_laws_35 : decode cL_laws 35 = .ok (.ladd, 1) := by decide +kernel
theorem dL_laws_36 : decode cL_laws 36 = .ok (.iconst 2, 1) := by decide +kernel
theorem dL_laws_37 : decode cL_laws 37 = .ok (.invokevirtual 23, 3) := by decide +kernel
theorem dL_laws_40 : decode cL_laws 40 = .ok (.iconst 3, 1) := by decide +kernel
theorem dL_laws_41 : decode cL_laws 41 = .ok (.if_icmp .ne 30, 3) := by decide +kernel
theorem dL_laws_44 : decode cL_laws 44 = .ok (.aload_n 0, 1) := by decide +kernel
theorem dL_laws_45 : decode cL_laws 45 = .ok (.iload_n 2, 1) := by decide +kernel
theorem dL_laws_46 : decode cL_laws 46 = .ok (.i2l, 1) := by decide +kernel
theorem dL_laws_47 : decode cL_laws 47 = .ok (.iconst 1, 1) := by decide +kernel
theorem dL_laws_48 : decode cL_laws 48 = .ok (.invokevirtual 23, 3) := by decide +kernel
theorem dL_laws_51 : decode cL_laws 51 = .ok (.iconst 4, 1) := by decide +kernel
theorem dL_laws_52 : decode cL_laws 52 = .ok (.if_icmp .ne 19, 3) := by decide +kernel
theorem dL_laws_55 : decode cL_laws 55 = .ok (.aload_n 0, 1) := by decide +kernel
theorem dL_laws_56 : decode cL_laws 56 = .ok (.ldc2_w 31, 3) := by decide +kernel
theorem dL_laws_59 : decode cL_laws 59 = .ok (.iconst 1, 1) := by decide +kernel
theorem dL_laws_60 : decode cL_laws 60 = .ok (.invokevirtual 23, 3) := by decide +kernel
theorem dL_laws_63 : decode cL_laws 63 = .ok (.iconst 5, 1) := by decide +kernel
theorem dL_laws_64 : decode cL_laws 64 = .ok (.if_icmp .ne 7, 3) := by decide +kernel
theorem dL_laws_67 : decode cL_laws 67 = .ok (.iconst 1, 1) := by decide +kernel
theorem dL_laws_68 : decode cL_laws 68 = .ok (.goto 4, 3) := by decide +kernel
theorem dL_laws_71 : decode cL_laws 71 = .ok (.iconst 0, 1) := by decide +kernel
theorem dL_laws_72 : decode cL_laws 72 = .ok (.istore 5, 2) := by decide +kernel
theorem dL_laws_74 : decode cL_laws 74 = .ok (.iload 5, 2) := by decide +kernel
theorem dL_laws_76 : decode cL_laws 76 = .ok (.ifCond .eq 74, 3) := by decide +kernel
theorem dL_laws_79 : decode cL_laws 79 = .ok (.aload_n 0, 1) := by decide +kernel
theorem dL_laws_80 : decode cL_laws 80 = .ok (.ldc2_w 33, 3) := by decide +kernel
theorem dL_laws_83 : decode cL_laws 83 = .ok (.iconst 1, 1) := by decide +kernel
theorem dL_laws_84 : decode cL_laws 84 = .ok (.invokevirtual 23, 3) := by decide +kernel
theorem dL_laws_87 : decode cL_laws 87 = .ok (.bipush 6, 2) := by decide +kernel
theorem dL_laws_89 : decode cL_laws 89 = .ok (.if_icmp .ne 61, 3) := by decide +kernel
theorem dL_laws_92 : decode cL_laws 92 = .ok (.aload_n 0, 1) := by decide +kernel
theorem dL_laws_93 : decode cL_laws 93 = .ok (.ldc2_w 27, 3) := by decide +kernel
theorem dL_laws_96 : decode cL_laws 96 = .ok (.iload_n 3, 1) := by decide +kernel
theorem dL_laws_97 : decode cL_laws 97 = .ok (.bipush 10, 2) := by decide +kernel
theorem dL_laws_99 : decode cL_laws 99 = .ok (.idiv, 1) := by decide +kernel
theorem dL_laws_100 : decode cL_laws 100 = .ok (.i2l, 1) := by decide +kernel
theorem dL_laws_101 : decode cL_laws 101 = .ok (.ladd, 1) := by decide +kernel
theorem dL_laws_102 : decode cL_laws 102 = .ok (.ldc2_w 29, 3) := by decide +kernel
theorem dL_laws_105 : decode cL_laws 105 = .ok (.lmul, 1) := by decide +kernel
theorem dL_laws_106 : decode cL_laws 106 = .ok (.ldc2_w 27, 3) := by decide +kernel
theorem dL_laws_109 : decode cL_laws 109 = .ok (.ladd, 1) := by decide +kernel
theorem dL_laws_110 : decode cL_laws 110 = .ok (.iload_n 3, 1) := by decide +kernel
theorem dL_laws_111 : decode cL_laws 111 = .ok (.bipush 10, 2) := by decide +kernel
theorem dL_laws_113 : decode cL_laws 113 = .ok (.irem, 1) := by decide +kernel
theorem dL_laws_114 : decode cL_laws 114 = .ok (.i2l, 1) := by decide +kernel
theorem dL_laws_115 : decode cL_laws 115 = .ok (.ladd, 1) := by decide +kernel
theorem dL_laws_116 : decode cL_laws 116 = .ok (.iconst 2, 1) := by decide +kernel
theorem dL_laws_117 : decode cL_laws 117 = .ok (.invokevirtual 23, 3) := by decide +kernel
theorem dL_laws_120 : decode cL_laws 120 = .ok (.bipush 8, 2) := by decide +kernel
theorem dL_laws_122 : decode cL_laws 122 = .ok (.if_icmp .ne 28, 3) := by decide +kernel
theorem dL_laws_125 : decode cL_laws 125 = .ok (.aload_n 0, 1) := by decide +kernel
theorem dL_laws_126 : decode cL_laws 126 = .ok (.iload 4, 2) := by decide +kernel
theorem dL_laws_128 : decode cL_laws 128 = .ok (.i2l, 1) := by decide +kernel
theorem dL_laws_129 : decode cL_laws 129 = .ok (.iconst 1, 1) := by decide +kernel
theorem dL_laws_130 : decode cL_laws 130 = .ok (.invokevirtual 23, 3) := by decide +kernel
theorem dL_laws_133 : decode cL_laws 133 = .ok (.bipush 9, 2) := by decide +kernel
theorem dL_laws_135 : decode cL_laws 135 = .ok (.if_icmp .ne 15, 3) := by decide +kernel
theorem dL_laws_138 : decode cL_laws 138 = .ok (.aload_n 0, 1) := by decide +kernel
theorem dL_laws_139 : decode cL_laws 139 = .ok (.invokevirtual 35, 3) := by decide +kernel
theorem dL_laws_142 : decode cL_laws 142 = .ok (.iconst 2, 1) := by decide +kernel
theorem dL_laws_143 : decode cL_laws 143 = .ok (.if_icmp .ne 7, 3) := by decide +kernel
theorem dL_laws_146 : decode cL_laws 146 = .ok (.iconst 1, 1) := by decide +kernel
theorem dL_laws_147 : decode cL_laws 147 = .ok (.goto 4, 3) := by decide +kernel
theorem dL_laws_150 : decode cL_laws 150 = .ok (.iconst 0, 1) := by decide +kernel
theorem dL_laws_151 : decode cL_laws 151 = .ok (.ireturn, 1) := by decide +kernel
theorem dL_law_0 : decode cL_law 0 = .ok (.new 14, 3) := by decide +kernel
theorem dL_law_3 : decode cL_law 3 = .ok (.dup, 1) := by decide +kernel
theorem dL_law_4 : decode cL_law 4 = .ok (.invokespecial 39, 3) := by decide +kernel
theorem dL_law_7 : decode cL_law 7 = .ok (.astore_n 1, 1) := by decide +kernel
theorem dL_law_8 : decode cL_law 8 = .ok (.aload_n 0, 1) := by decide +kernel
theorem dL_law_9 : decode cL_law 9 = .ok (.bipush 63, 2) := by decide +kernel
theorem dL_law_11 : decode cL_law 11 = .ok (.invokestatic 40, 3) := by decide +kernel
theorem dL_law_14 : decode cL_law 14 = .ok (.istore_n 2, 1) := by decide +kernel
theorem dL_law_15 : decode cL_law 15 = .ok (.aload_n 1, 1) := by decide +kernel
theorem dL_law_16 : decode cL_law 16 = .ok (.iload_n 2, 1) := by decide +kernel
theorem dL_law_17 : decode cL_law 17 = .ok (.bipush 20, 2) := by decide +kernel
theorem dL_law_19 : decode cL_law 19 = .ok (.invokestatic 44, 3) := by decide +kernel
theorem dL_law_22 : decode cL_law 22 = .ok (.iload_n 2, 1) := by decide +kernel
theorem dL_law_23 : decode cL_law 23 = .ok (.bipush 8, 2) := by decide +kernel
theorem dL_law_25 : decode cL_law 25 = .ok (.ishr, 1) := by decide +kernel
theorem dL_law_26 : decode cL_law 26 = .ok (.iconst 1, 1) := by decide +kernel
theorem dL_law_27 : decode cL_law 27 = .ok (.iand, 1) := by decide +kernel
theorem dL_law_28 : decode cL_law 28 = .ok (.ifCond .ne 8, 3) := by decide +kernel
theorem dL_law_31 : decode cL_law 31 = .ok (.bipush 82, 2) := by decide +kernel
theorem dL_law_33 : decode cL_law 33 = .ok (.goto 5, 3) := by decide +kernel
theorem dL_law_36 : decode cL_law 36 = .ok (.bipush 78, 2) := by decide +kernel
theorem dL_law_38 : decode cL_law 38 = .ok (.iload_n 2, 1) := by decide +kernel
theorem dL_law_39 : decode cL_law 39 = .ok (.iconst 4, 1) := by decide +kernel
theorem dL_law_40 : decode cL_law 40 = .ok (.ishr, 1) := by decide +kernel
theorem dL_law_41 : decode cL_law 41 = .ok (.bipush 20, 2) := by decide +kernel
theorem dL_law_43 : decode cL_law 43 = .ok (.invokestatic 44, 3) := by decide +kernel
theorem dL_law_46 : decode cL_law 46 = .ok (.iload_n 2, 1) := by decide +kernel
theorem dL_law_47 : decode cL_law 47 = .ok (.bipush 9, 2) := by decide +kernel
theorem dL_law_49 : decode cL_law 49 = .ok (.ishr, 1) := by decide +kernel
theorem dL_law_50 : decode cL_law 50 = .ok (.iconst 1, 1) := by decide +kernel
theorem dL_law_51 : decode cL_law 51 = .ok (.iand, 1) := by decide +kernel
theorem dL_law_52 : decode cL_law 52 = .ok (.ifCond .ne 8, 3) := by decide +kernel
theorem dL_law_55 : decode cL_law 55 = .ok (.bipush 82, 2) := by decide +kernel
theorem dL_law_57 : decode cL_law 57 = .ok (.goto 5, 3) := by decide +kernel
theorem dL_law_60 : decode cL_law 60 = .ok (.bipush 78, 2) := by decide +kernel
theorem dL_law_62 : decode cL_law 62 = .ok (.invokestatic 47, 3) := by decide +kernel
theorem dL_law_65 : decode cL_law 65 = .ok (.ifCond .eq 36, 3) := by decide +kernel
theorem dL_law_68 : decode cL_law 68 = .ok (.aload_n 1, 1) := by decide +kernel
theorem dL_law_69 : decode cL_law 69 = .ok (.iconst 3, 1) := by decide +kernel
theorem dL_law_70 : decode cL_law 70 = .ok (.iload_n 2, 1) := by decide +kernel
theorem dL_law_71 : decode cL_law 71 = .ok (.bipush 10, 2) := by decide +kernel
theorem dL_law_73 : decode cL_law 73 = .ok (.ishr, 1) := by decide +kernel
theorem dL_law_74 : decode cL_law 74 = .ok (.sipush 2001, 3) := by decide +kernel
theorem dL_law_77 : decode cL_law 77 = .ok (.invokestatic 44, 3) := by decide +kernel
theorem dL_law_80 : decode cL_law 80 = .ok (.invokevirtual 50, 3) := by decide +kernel
theorem dL_law_83 : decode cL_law 83 = .ok (.sipush 1000, 3) := by decide +kernel
theorem dL_law_86 : decode cL_law 86 = .ok (.if_icmp .ne 15, 3) := by decide +kernel
theorem dL_law_89 : decode cL_law 89 = .ok (.aload_n 1, 1) := by decide +kernel
theorem dL_law_90 : decode cL_law 90 = .ok (.iconst 3, 1) := by decide +kernel
theorem dL_law_91 : decode cL_law 91 = .ok (.bipush 6, 2) := by decide +kernel
theorem dL_law_93 : decode cL_law 93 = .ok (.invokevirtual 53, 3) := by decide +kernel
theorem dL_law_96 : decode cL_law 96 = .ok (.bipush (-20), 2) := by decide +kernel
theorem dL_law_98 : decode cL_law 98 = .ok (.if_icmp .ge 5, 3) := by decide +kernel
theorem dL_law_101 : decode cL_law 101 = .ok (.iconst 0, 1) := by decide +kernel
theorem dL_law_102 : decode cL_law 102 = .ok (.ireturn, 1) := by decide +kernel
theorem dL_law_103 : decode cL_law 103 = .ok (.bipush 64, 2) := by decide +kernel
theorem dL_law_105 : decode cL_law 105 = .ok (.newarray .long, 2) := by decide +kernel
theorem dL_law_107 : decode cL_law 107 = .ok (.astore_n 3, 1) := by decide +kernel
theorem dL_law_108 : decode cL_law 108 = .ok (.iconst 0, 1) := by decide +kernel
theorem dL_law_109 : decode cL_law 109 = .ok (.istore 4, 2) := by decide +kernel
theorem dL_law_111 : decode cL_law 111 = .ok (.aload_n 3, 1) := by decide +kernel
theorem dL_law_112 : decode cL_law 112 = .ok (.iconst 0, 1) := by decide +kernel
theorem dL_law_113 : decode cL_law 113 = .ok (.aload_n 1, 1) := by decide +kernel
theorem dL_law_114 : decode cL_law 114 = .ok (.iconst 0, 1) := by decide +kernel
theorem dL_law_115 : decode cL_law 115 = .ok (.invokestatic 56, 3) := by decide +kernel
theorem dL_law_118 : decode cL_law 118 = .ok (.lastore, 1) := by decide +kernel
theorem dL_law_119 : decode cL_law 119 = .ok (.iconst 0, 1) := by decide +kernel
theorem dL_law_120 : decode cL_law 120 = .ok (.istore 5, 2) := by decide +kernel
theorem dL_law_122 : decode cL_law 122 = .ok (.iload 5, 2) := by decide +kernel
theorem dL_law_124 : decode cL_law 124 = .ok (.bipush 55, 2) := by decide +kernel
theorem dL_law_126 : decode cL_law 126 = .ok (.if_icmp .ge 352, 3) := by decide +kernel
theorem dL_law_129 : decode cL_law 129 = .ok (.aload_n 0, 1) := by decide +kernel
theorem dL_law_130 : decode cL_law 130 = .ok (.iload 5, 2) := by decide +kernel
theorem dL_law_132 : decode cL_law 132 = .ok (.invokestatic 40, 3) := by decide +kernel
theorem dL_law_135 : decode cL_law 135 = .ok (.istore 6, 2) := by decide +kernel
theorem dL_law_137 : decode cL_law 137 = .ok (.iload 6, 2) := by decide +kernel
theorem dL_law_139 : decode cL_law 139 = .ok (.bipush 7, 2) := by decide +kernel
theorem dL_law_141 : decode cL_law 141 = .ok (.invokestatic 44, 3) := by decide +kernel
theorem dL_law_144 : decode cL_law 144 = .ok (.istore 7, 2) := by decide +kernel
theorem dL_law_146 : decode cL_law 146 = .ok (.aload_n 1, 1) := by decide +kernel
theorem dL_law_147 : decode cL_law 147 = .ok (.iload 4, 2) := by decide +kernel
theorem dL_law_149 : decode cL_law 149 = .ok (.iconst 1, 1) := by decide +kernel
theorem dL_law_150 : decode cL_law 150 = .ok (.invokevirtual 13, 3) := by decide +kernel
theorem dL_law_153 : decode cL_law 153 = .ok (.istore 8, 2) := by decide +kernel
theorem dL_law_155 : decode cL_law 155 = .ok (.aload_n 1, 1) := by decide +kernel
theorem dL_law_156 : decode cL_law 156 = .ok (.iload 4, 2) := by decide +kernel
theorem dL_law_158 : decode cL_law 158 = .ok (.iconst 4, 1) := by decide +kernel
theorem dL_law_159 : decode cL_law 159 = .ok (.invokevirtual 13, 3) := by decide +kernel
theorem dL_law_162 : decode cL_law 162 = .ok (.ifCond .lt 7, 3) := by decide +kernel
theorem dL_law_165 : decode cL_law 165 = .ok (.iconst 4, 1) := by decide +kernel
theorem dL_law_166 : decode cL_law 166 = .ok (.goto 21, 3) := by decide +kernel
theorem dL_law_169 : decode cL_law 169 = .ok (.iload 8, 2) := by decide +kernel
theorem dL_law_171 : decode cL_law 171 = .ok (.ifCond .ge 14, 3) := by decide +kernel
theorem dL_law_174 : decode cL_law 174 = .ok (.iload 7, 2) := by decide +kernel
theorem dL_law_176 : decode cL_law 176 = .ok (.bipush 6, 2) := by decide +kernel
theorem dL_law_178 : decode cL_law 178 = .ok (.if_icmp .eq 7, 3) := by decide +kernel
theorem dL_law_181 : decode cL_law 181 = .ok (.iconst 0, 1) := by decide +kernel
theorem dL_law_182 : decode cL_law 182 = .ok (.goto 5, 3) := by decide +kernel
theorem dL_law_185 : decode cL_law 185 = .ok (.iload 7, 2) := by decide +kernel
theorem dL_law_187 : decode cL_law 187 = .ok (.istore 7, 2) := by decide +kernel
theorem dL_law_189 : decode cL_law 189 = .ok (.aload_n 1, 1) := by decide +kernel
theorem dL_law_190 : decode cL_law 190 = .ok (.iload 7, 2) := by decide +kernel
theorem dL_law_192 : decode cL_law 192 = .ok (.iload 6, 2) := by decide +kernel
theorem dL_law_194 : decode cL_law 194 = .ok (.iconst 3, 1) := by decide +kernel
theorem dL_law_195 : decode cL_law 195 = .ok (.ishr, 1) := by decide +kernel
theorem dL_law_196 : decode cL_law 196 = .ok (.iconst 4, 1) := by decide +kernel
theorem dL_law_197 : decode cL_law 197 = .ok (.invokestatic 44, 3) := by decide +kernel
theorem dL_law_200 : decode cL_law 200 = .ok (.invokevirtual 60, 3) := by decide +kernel
theorem dL_law_203 : decode cL_law 203 = .ok (.istore 9, 2) := by decide +kernel
theorem dL_law_205 : decode cL_law 205 = .ok (.iload 9, 2) := by decide +kernel
theorem dL_law_207 : decode cL_law 207 = .ok (.ifCond .lt 51, 3) := by decide +kernel
theorem dL_law_210 : decode cL_law 210 = .ok (.iload 9, 2) := by decide +kernel
theorem dL_law_212 : decode cL_law 212 = .ok (.iload 4, 2) := by decide +kernel
theorem dL_law_214 : decode cL_law 214 = .ok (.if_icmp .ne 15, 3) := by decide +kernel
theorem dL_law_217 : decode cL_law 217 = .ok (.aload_n 1, 1) := by decide +kernel
theorem dL_law_218 : decode cL_law 218 = .ok (.iconst 0, 1) := by decide +kernel
theorem dL_law_219 : decode cL_law 219 = .ok (.invokevirtual 63, 3) := by decide +kernel
theorem dL_law_222 : decode cL_law 222 = .ok (.iload 4, 2) := by decide +kernel
theorem dL_law_224 : decode cL_law 224 = .ok (.iconst 1, 1) := by decide +kernel
theorem dL_law_225 : decode cL_law 225 = .ok (.iadd, 1) := by decide +kernel
theorem dL_law_226 : decode cL_law 226 = .ok (.if_icmp .eq 5, 3) := by decide +kernel
theorem dL_law_229 : decode cL_law 229 = .ok (.iconst 0, 1) := by decide +kernel
theorem dL_law_230 : decode cL_law 230 = .ok (.ireturn, 1) := by decide +kernel
theorem dL_law_231 : decode cL_law 231 = .ok (.iload 4, 2) := by decide +kernel
theorem dL_law_233 : decode cL_law 233 = .ok (.iconst 1, 1) := by decide +kernel
theorem dL_law_234 : decode cL_law 234 = .ok (.iadd, 1) := by decide +kernel
theorem dL_law_235 : decode cL_law 235 = .ok (.istore 4, 2) := by decide +kernel
theorem dL_law_237 : decode cL_law 237 = .ok (.aload_n 3, 1) := by decide +kernel
theorem dL_law_238 : decode cL_law 238 = .ok (.iload 4, 2) := by decide +kernel
theorem dL_law_240 : decode cL_law 240 = .ok (.aload_n 1, 1) := by decide +kernel
theorem dL_law_241 : decode cL_law 241 = .ok (.iload 4, 2) := by decide +kernel
theorem dL_law_243 : decode cL_law 243 = .ok (.invokestatic 56, 3) := by decide +kernel
theorem dL_law_246 : decode cL_law 246 = .ok (.lastore, 1) := by decide +kernel
theorem dL_law_247 : decode cL_law 247 = .ok (.aload_n 3, 1) := by decide +kernel
theorem dL_law_248 : decode cL_law 248 = .ok (.iload 4, 2) := by decide +kernel
theorem dL_law_250 : decode cL_law 250 = .ok (.laload, 1) := by decide +kernel
theorem dL_law_251 : decode cL_law 251 = .ok (.lconst 0, 1) := by decide +kernel
theorem dL_law_252 : decode cL_law 252 = .ok (.lcmp, 1) := by decide +kernel
theorem dL_law_253 : decode cL_law 253 = .ok (.ifCond .ge 5, 3) := by decide +kernel
theorem dL_law_256 : decode cL_law 256 = .ok (.iconst 0, 1) := by decide +kernel
theorem dL_law_257 : decode cL_law 257 = .ok (.ireturn, 1) := by decide +kernel
theorem dL_law_258 : decode cL_law 258 = .ok (.iload 6, 2) := by decide +kernel
theorem dL_law_260 : decode cL_law 260 = .ok (.bipush 6, 2) := by decide +kernel
theorem dL_law_262 : decode cL_law 262 = .ok (.ishr, 1) := by decide +kernel
theorem dL_law_263 : decode cL_law 263 = .ok (.iconst 4, 1) := by decide +kernel
theorem dL_law_264 : decode cL_law 264 = .ok (.invokestatic 44, 3) := by decide +kernel
theorem dL_law_267 : decode cL_law 267 = .ok (.ifCond .ne 161, 3) := by decide +kernel
theorem dL_law_270 : decode cL_law 270 = .ok (.iload 4, 2) := by decide +kernel
theorem dL_law_272 : decode cL_law 272 = .ok (.ifCond .le 156, 3) := by decide +kernel
theorem dL_law_275 : decode cL_law 275 = .ok (.iload 6, 2) := by decide +kernel
theorem dL_law_277 : decode cL_law 277 = .ok (.bipush 8, 2) := by decide +kernel
theorem dL_law_279 : decode cL_law 279 = .ok (.ishr, 1) := by decide +kernel
theorem dL_law_280 : decode cL_law 280 = .ok (.iload 4, 2) := by decide +kernel
theorem dL_law_282 : decode cL_law 282 = .ok (.invokestatic 44, 3) := by decide +kernel
theorem dL_law_285 : decode cL_law 285 = .ok (.istore 10, 2) := by decide +kernel
theorem dL_law_287 : decode cL_law 287 = .ok (.aload_n 1, 1) := by decide +kernel
theorem dL_law_288 : decode cL_law 288 = .ok (.iload 10, 2) := by decide +kernel
theorem dL_law_290 : decode cL_law 290 = .ok (.iconst 3, 1) := by decide +kernel
theorem dL_law_291 : decode cL_law 291 = .ok (.invokevirtual 67, 3) := by decide +kernel
theorem dL_law_294 : decode cL_law 294 = .ok (.iconst 1, 1) := by decide +kernel
theorem dL_law_295 : decode cL_law 295 = .ok (.if_icmp .ne 7, 3) := by decide +kernel
theorem dL_law_298 : decode cL_law 298 = .ok (.iconst 1, 1) := by decide +kernel
theorem dL_law_299 : decode cL_law 299 = .ok (.goto 4, 3) := by decide +kernel
theorem dL_law_302 : decode cL_law 302 = .ok (.iconst 0, 1) := by decide +kernel
theorem dL_law_303 : decode cL_law 303 = .ok (.istore 11, 2) := by decide +kernel
theorem dL_law_305 : decode cL_law 305 = .ok (.aload_n 1, 1) := by decide +kernel
theorem dL_law_306 : decode cL_law 306 = .ok (.iload 10, 2) := by decide +kernel
theorem dL_law_308 : decode cL_law 308 = .ok (.iconst 0, 1) := by decide +kernel
theorem dL_law_309 : decode cL_law 309 = .ok (.invokevirtual 67, 3) := by decide +kernel
theorem dL_law_312 : decode cL_law 312 = .ok (.istore 12, 2) := by decide +kernel
theorem dL_law_314 : decode cL_law 314 = .ok (.aload_n 1, 1) := by decide +kernel
theorem dL_law_315 : decode cL_law 315 = .ok (.iload 10, 2) := by decide +kernel
theorem dL_law_317 : decode cL_law 317 = .ok (.invokevirtual 69, 3) := by decide +kernel
theorem dL_law_320 : decode cL_law 320 = .ok (.istore 13, 2) := by decide +kernel
theorem dL_law_322 : decode cL_law 322 = .ok (.iload 13, 2) := by decide +kernel
theorem dL_law_324 : decode cL_law 324 = .ok (.bipush (-2), 2) := by decide +kernel
theorem dL_law_326 : decode cL_law 326 = .ok (.if_icmp .eq 8, 3) := by decide +kernel
theorem dL_law_329 : decode cL_law 329 = .ok (.iload 11, 2) := by decide +kernel
theorem dL_law_331 : decode cL_law 331 = .ok (.ifCond .eq 9, 3) := by decide +kernel
theorem dL_law_334 : decode cL_law 334 = .ok (.iload 13, 2) := by decide +kernel
theorem dL_law_336 : decode cL_law 336 = .ok (.iconst (-1), 1) := by decide +kernel
theorem dL_law_337 : decode cL_law 337 = .ok (.if_icmp .ne 5, 3) := by decide +kernel
theorem dL_law_340 : decode cL_law 340 = .ok (.iconst 0, 1) := by decide +kernel
theorem dL_law_341 : decode cL_law 341 = .ok (.ireturn, 1) := by decide +kernel
theorem dL_law_342 : decode cL_law 342 = .ok (.iload 13, 2) := by decide +kernel
theorem dL_law_344 : decode cL_law 344 = .ok (.iconst 1, 1) := by decide +kernel
theorem dL_law_345 : decode cL_law 345 = .ok (.if_icmp .ne 31, 3) := by decide +kernel
theorem dL_law_348 : decode cL_law 348 = .ok (.iload 10, 2) := by decide +kernel
theorem dL_law_350 : decode cL_law 350 = .ok (.istore 4, 2) := by decide +kernel
theorem dL_law_352 : decode cL_law 352 = .ok (.aload_n 1, 1) := by decide +kernel
theorem dL_law_353 : decode cL_law 353 = .ok (.iload 4, 2) := by decide +kernel
theorem dL_law_355 : decode cL_law 355 = .ok (.iconst 1, 1) := by decide +kernel
theorem dL_law_356 : decode cL_law 356 = .ok (.invokevirtual 13, 3) := by decide +kernel
theorem dL_law_359 : decode cL_law 359 = .ok (.bipush (-4), 2) := by decide +kernel
theorem dL_law_361 : decode cL_law 361 = .ok (.if_icmp .ne 13, 3) := by decide +kernel
theorem dL_law_364 : decode cL_law 364 = .ok (.aload_n 1, 1) := by decide +kernel
theorem dL_law_365 : decode cL_law 365 = .ok (.iload 4, 2) := by decide +kernel
theorem dL_law_367 : decode cL_law 367 = .ok (.iconst 2, 1) := by decide +kernel
theorem dL_law_368 : decode cL_law 368 = .ok (.invokevirtual 13, 3) := by decide +kernel
theorem dL_law_371 : decode cL_law 371 = .ok (.ifCond .eq 5, 3) := by decide +kernel
theorem dL_law_374 : decode cL_law 374 = .ok (.iconst 0, 1) := by decide +kernel
theorem dL_law_375 : decode cL_law 375 = .ok (.ireturn, 1) := by decide +kernel
theorem dL_law_376 : decode cL_law 376 = .ok (.iload 13, 2) := by decide +kernel
theorem dL_law_378 : decode cL_law 378 = .ok (.iconst 2, 1) := by decide +kernel
theorem dL_law_379 : decode cL_law 379 = .ok (.if_icmp .ne 39, 3) := by decide +kernel
theorem dL_law_382 : decode cL_law 382 = .ok (.aload_n 1, 1) := by decide +kernel
theorem dL_law_383 : decode cL_law 383 = .ok (.iload 10, 2) := by decide +kernel
theorem dL_law_385 : decode cL_law 385 = .ok (.iconst 3, 1) := by decide +kernel
theorem dL_law_386 : decode cL_law 386 = .ok (.invokevirtual 67, 3) := by decide +kernel
theorem dL_law_389 : decode cL_law 389 = .ok (.ifCond .ne 27, 3) := by decide +kernel
theorem dL_law_392 : decode cL_law 392 = .ok (.aload_n 1, 1) := by decide +kernel
theorem dL_law_393 : decode cL_law 393 = .ok (.iload 10, 2) := by decide +kernel
theorem dL_law_395 : decode cL_law 395 = .ok (.iconst 0, 1) := by decide +kernel
theorem dL_law_396 : decode cL_law 396 = .ok (.invokevirtual 67, 3) := by decide +kernel
theorem dL_law_399 : decode cL_law 399 = .ok (.iload 12, 2) := by decide +kernel
theorem dL_law_401 : decode cL_law 401 = .ok (.if_icmp .ne 15, 3) := by decide +kernel
theorem dL_law_404 : decode cL_law 404 = .ok (.aload_n 1, 1) := by decide +kernel
theorem dL_law_405 : decode cL_law 405 = .ok (.iload 4, 2) := by decide +kernel
theorem dL_law_407 : decode cL_law 407 = .ok (.iconst 1, 1) := by decide +kernel
theorem dL_law_408 : decode cL_law 408 = .ok (.invokevirtual 13, 3) := by decide +kernel
theorem dL_law_411 : decode cL_law 411 = .ok (.bipush (-4), 2) := by decide +kernel
theorem dL_law_413 : decode cL_law 413 = .ok (.if_icmp .eq 5, 3) := by decide +kernel
theorem dL_law_416 : decode cL_law 416 = .ok (.iconst 0, 1) := by decide +kernel
theorem dL_law_417 : decode cL_law 417 = .ok (.ireturn, 1) := by decide +kernel
theorem dL_law_418 : decode cL_law 418 = .ok (.aload_n 3, 1) := by decide +kernel
theorem dL_law_419 : decode cL_law 419 = .ok (.iload 4, 2) := by decide +kernel
theorem dL_law_421 : decode cL_law 421 = .ok (.aload_n 1, 1) := by decide +kernel
theorem dL_law_422 : decode cL_law 422 = .ok (.iload 4, 2) := by decide +kernel
theorem dL_law_424 : decode cL_law 424 = .ok (.invokestatic 56, 3) := by decide +kernel
theorem dL_law_427 : decode cL_law 427 = .ok (.lastore, 1) := by decide +kernel
theorem dL_law_428 : decode cL_law 428 = .ok (.aload_n 1, 1) := by decide +kernel
theorem dL_law_429 : decode cL_law 429 = .ok (.iconst 0, 1) := by decide +kernel
theorem dL_law_430 : decode cL_law 430 = .ok (.invokevirtual 63, 3) := by decide +kernel
theorem dL_law_433 : decode cL_law 433 = .ok (.iload 4, 2) := by decide +kernel
theorem dL_law_435 : decode cL_law 435 = .ok (.if_icmp .eq 5, 3) := by decide +kernel
theorem dL_law_438 : decode cL_law 438 = .ok (.iconst 0, 1) := by decide +kernel
theorem dL_law_439 : decode cL_law 439 = .ok (.ireturn, 1) := by decide +kernel
theorem dL_law_440 : decode cL_law 440 = .ok (.iconst 0, 1) := by decide +kernel
theorem dL_law_441 : decode cL_law 441 = .ok (.istore 10, 2) := by decide +kernel
theorem dL_law_443 : decode cL_law 443 = .ok (.iload 10, 2) := by decide +kernel
theorem dL_law_445 : decode cL_law 445 = .ok (.iload 4, 2) := by decide +kernel
theorem dL_law_447 : decode cL_law 447 = .ok (.if_icmp .gt 25, 3) := by decide +kernel
theorem dL_law_450 : decode cL_law 450 = .ok (.aload_n 1, 1) := by decide +kernel
theorem dL_law_451 : decode cL_law 451 = .ok (.iload 10, 2) := by decide +kernel
theorem dL_law_453 : decode cL_law 453 = .ok (.invokestatic 56, 3) := by decide +kernel
theorem dL_law_456 : decode cL_law 456 = .ok (.aload_n 3, 1) := by decide +kernel
theorem dL_law_457 : decode cL_law 457 = .ok (.iload 10, 2) := by decide +kernel
theorem dL_law_459 : decode cL_law 459 = .ok (.laload, 1) := by decide +kernel
theorem dL_law_460 : decode cL_law 460 = .ok (.lcmp, 1) := by decide +kernel
theorem dL_law_461 : decode cL_law 461 = .ok (.ifCond .eq 5, 3) := by decide +kernel
theorem dL_law_464 : decode cL_law 464 = .ok (.iconst 0, 1) := by decide +kernel
theorem dL_law_465 : decode cL_law 465 = .ok (.ireturn, 1) := by decide +kernel
theorem dL_law_466 : decode cL_law 466 = .ok (.iinc 10 1, 3) := by decide +kernel
theorem dL_law_469 : decode cL_law 469 = .ok (.goto (-26), 3) := by decide +kernel
theorem dL_law_472 : decode cL_law 472 = .ok (.iinc 5 1, 3) := by decide +kernel
theorem dL_law_475 : decode cL_law 475 = .ok (.goto (-353), 3) := by decide +kernel
theorem dL_law_478 : decode cL_law 478 = .ok (.iconst 0, 1) := by decide +kernel
theorem dL_law_479 : decode cL_law 479 = .ok (.istore 5, 2) := by decide +kernel
theorem dL_law_481 : decode cL_law 481 = .ok (.iconst 0, 1) := by decide +kernel
theorem dL_law_482 : decode cL_law 482 = .ok (.istore 6, 2) := by decide +kernel
theorem dL_law_484 : decode cL_law 484 = .ok (.iload 6, 2) := by decide +kernel
theorem dL_law_486 : decode cL_law 486 = .ok (.iload 4, 2) := by decide +kernel
theorem dL_law_488 : decode cL_law 488 = .ok (.if_icmp .ge 80, 3) := by decide +kernel
theorem dL_law_491 : decode cL_law 491 = .ok (.iload 5, 2) := by decide +kernel
theorem dL_law_493 : decode cL_law 493 = .ok (.aload_n 1, 1) := by decide +kernel
theorem dL_law_494 : decode cL_law 494 = .ok (.iload 6, 2) := by decide +kernel
theorem dL_law_496 : decode cL_law 496 = .ok (.iconst 3, 1) := by decide +kernel
theorem dL_law_497 : decode cL_law 497 = .ok (.invokevirtual 67, 3) := by decide +kernel
theorem dL_law_500 : decode cL_law 500 = .ok (.iadd, 1) := by decide +kernel
theorem dL_law_501 : decode cL_law 501 = .ok (.istore 5, 2) := by decide +kernel
theorem dL_law_503 : decode cL_law 503 = .ok (.iconst 0, 1) := by decide +kernel
theorem dL_law_504 : decode cL_law 504 = .ok (.istore 7, 2) := by decide +kernel
theorem dL_law_506 : decode cL_law 506 = .ok (.iload 7, 2) := by decide +kernel
theorem dL_law_508 : decode cL_law 508 = .ok (.iconst 4, 1) := by decide +kernel
theorem dL_law_509 : decode cL_law 509 = .ok (.if_icmp .ge 53, 3) := by decide +kernel
theorem dL_law_512 : decode cL_law 512 = .ok (.aload_n 1, 1) := by decide +kernel
theorem dL_law_513 : decode cL_law 513 = .ok (.iload 6, 2) := by decide +kernel
theorem dL_law_515 : decode cL_law 515 = .ok (.iconst 5, 1) := by decide +kernel
theorem dL_law_516 : decode cL_law 516 = .ok (.iload 7, 2) := by decide +kernel
theorem dL_law_518 : decode cL_law 518 = .ok (.iadd, 1) := by decide +kernel
theorem dL_law_519 : decode cL_law 519 = .ok (.invokevirtual 13, 3) := by decide +kernel
theorem dL_law_522 : decode cL_law 522 = .ok (.istore 8, 2) := by decide +kernel
theorem dL_law_524 : decode cL_law 524 = .ok (.aload_n 1, 1) := by decide +kernel
theorem dL_law_525 : decode cL_law 525 = .ok (.iload 6, 2) := by decide +kernel
theorem dL_law_527 : decode cL_law 527 = .ok (.iconst 1, 1) := by decide +kernel
theorem dL_law_528 : decode cL_law 528 = .ok (.iadd, 1) := by decide +kernel
theorem dL_law_529 : decode cL_law 529 = .ok (.iconst 5, 1) := by decide +kernel
theorem dL_law_530 : decode cL_law 530 = .ok (.iload 7, 2) := by decide +kernel
theorem dL_law_532 : decode cL_law 532 = .ok (.iadd, 1) := by decide +kernel
theorem dL_law_533 : decode cL_law 533 = .ok (.invokevirtual 13, 3) := by decide +kernel
theorem dL_law_536 : decode cL_law 536 = .ok (.istore 9, 2) := by decide +kernel
theorem dL_law_538 : decode cL_law 538 = .ok (.iload 9, 2) := by decide +kernel
theorem dL_law_540 : decode cL_law 540 = .ok (.iload 8, 2) := by decide +kernel
theorem dL_law_542 : decode cL_law 542 = .ok (.if_icmp .eq 14, 3) := by decide +kernel
theorem dL_law_545 : decode cL_law 545 = .ok (.iload 9, 2) := by decide +kernel
theorem dL_law_547 : decode cL_law 547 = .ok (.iload 8, 2) := by decide +kernel
theorem dL_law_549 : decode cL_law 549 = .ok (.iconst 1, 1) := by decide +kernel
theorem dL_law_550 : decode cL_law 550 = .ok (.iadd, 1) := by decide +kernel
theorem dL_law_551 : decode cL_law 551 = .ok (.if_icmp .eq 5, 3) := by decide +kernel
theorem dL_law_554 : decode cL_law 554 = .ok (.iconst 0, 1) := by decide +kernel
theorem dL_law_555 : decode cL_law 555 = .ok (.ireturn, 1) := by decide +kernel
theorem dL_law_556 : decode cL_law 556 = .ok (.iinc 7 1, 3) := by decide +kernel
theorem dL_law_559 : decode cL_law 559 = .ok (.goto (-53), 3) := by decide +kernel
theorem dL_law_562 : decode cL_law 562 = .ok (.iinc 6 1, 3) := by decide +kernel
theorem dL_law_565 : decode cL_law 565 = .ok (.goto (-81), 3) := by decide +kernel
theorem dL_law_568 : decode cL_law 568 = .ok (.aload_n 1, 1) := by decide +kernel
theorem dL_law_569 : decode cL_law 569 = .ok (.iconst 1, 1) := by decide +kernel
theorem dL_law_570 : decode cL_law 570 = .ok (.invokevirtual 63, 3) := by decide +kernel
theorem dL_law_573 : decode cL_law 573 = .ok (.iload 5, 2) := by decide +kernel
theorem dL_law_575 : decode cL_law 575 = .ok (.if_icmp .ne 7, 3) := by decide +kernel
theorem dL_law_578 : decode cL_law 578 = .ok (.iconst 1, 1) := by decide +kernel
theorem dL_law_579 : decode cL_law 579 = .ok (.goto 4, 3) := by decide +kernel
theorem dL_law_582 : decode cL_law 582 = .ok (.iconst 0, 1) := by decide +kernel
theorem dL_law_583 : decode cL_law 583 = .ok (.ireturn, 1) := by decide +kernel
