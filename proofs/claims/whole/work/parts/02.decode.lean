-- names of the classes, fields, methods; decode rows: out of the claim's own printed NAMES text, by wip/gen/names.py
theorem dX0_init_0 : decode cX0_init 0 = .ok (.aload_n 0, 1) := by decide +kernel
theorem dX0_init_1 : decode cX0_init 1 = .ok (.invokespecial 3, 3) := by decide +kernel
theorem dX0_init_4 : decode cX0_init 4 = .ok (.aload_n 0, 1) := by decide +kernel
theorem dX0_init_5 : decode cX0_init 5 = .ok (.bipush 30, 2) := by decide +kernel
theorem dX0_init_7 : decode cX0_init 7 = .ok (.newarray .int, 2) := by decide +kernel
theorem dX0_init_9 : decode cX0_init 9 = .ok (.putfield 11, 3) := by decide +kernel
theorem dX0_init_12 : decode cX0_init 12 = .ok (.aload_n 0, 1) := by decide +kernel
theorem dX0_init_13 : decode cX0_init 13 = .ok (.iconst 2, 1) := by decide +kernel
theorem dX0_init_14 : decode cX0_init 14 = .ok (.newarray .int, 2) := by decide +kernel
theorem dX0_init_16 : decode cX0_init 16 = .ok (.putfield 15, 3) := by decide +kernel
theorem dX0_init_19 : decode cX0_init 19 = .ok (.aload_n 0, 1) := by decide +kernel
theorem dX0_init_20 : decode cX0_init 20 = .ok (.iconst 2, 1) := by decide +kernel
theorem dX0_init_21 : decode cX0_init 21 = .ok (.newarray .int, 2) := by decide +kernel
theorem dX0_init_23 : decode cX0_init 23 = .ok (.putfield 18, 3) := by decide +kernel
theorem dX0_init_26 : decode cX0_init 26 = .ok (.aload_n 0, 1) := by decide +kernel
theorem dX0_init_27 : decode cX0_init 27 = .ok (.iconst 2, 1) := by decide +kernel
theorem dX0_init_28 : decode cX0_init 28 = .ok (.newarray .int, 2) := by decide +kernel
theorem dX0_init_30 : decode cX0_init 30 = .ok (.putfield 21, 3) := by decide +kernel
theorem dX0_init_33 : decode cX0_init 33 = .ok (.aload_n 0, 1) := by decide +kernel
theorem dX0_init_34 : decode cX0_init 34 = .ok (.iconst 2, 1) := by decide +kernel
theorem dX0_init_35 : decode cX0_init 35 = .ok (.newarray .int, 2) := by decide +kernel
theorem dX0_init_37 : decode cX0_init 37 = .ok (.putfield 24, 3) := by decide +kernel
theorem dX0_init_40 : decode cX0_init 40 = .ok (.aload_n 0, 1) := by decide +kernel
theorem dX0_init_41 : decode cX0_init 41 = .ok (.getfield 15, 3) := by decide +kernel
theorem dX0_init_44 : decode cX0_init 44 = .ok (.iconst 0, 1) := by decide +kernel
theorem dX0_init_45 : decode cX0_init 45 = .ok (.iconst 5, 1) := by decide +kernel
theorem dX0_init_46 : decode cX0_init 46 = .ok (.invokestatic 27, 3) := by decide +kernel
theorem dX0_init_49 : decode cX0_init 49 = .ok (.aload_n 0, 1) := by decide +kernel
theorem dX0_init_50 : decode cX0_init 50 = .ok (.getfield 18, 3) := by decide +kernel
theorem dX0_init_53 : decode cX0_init 53 = .ok (.iconst 0, 1) := by decide +kernel
theorem dX0_init_54 : decode cX0_init 54 = .ok (.bipush 82, 2) := by decide +kernel
theorem dX0_init_56 : decode cX0_init 56 = .ok (.invokestatic 27, 3) := by decide +kernel
theorem dX0_init_59 : decode cX0_init 59 = .ok (.aload_n 0, 1) := by decide +kernel
theorem dX0_init_60 : decode cX0_init 60 = .ok (.getfield 15, 3) := by decide +kernel
theorem dX0_init_63 : decode cX0_init 63 = .ok (.iconst 1, 1) := by decide +kernel
theorem dX0_init_64 : decode cX0_init 64 = .ok (.iconst 2, 1) := by decide +kernel
theorem dX0_init_65 : decode cX0_init 65 = .ok (.invokestatic 27, 3) := by decide +kernel
theorem dX0_init_68 : decode cX0_init 68 = .ok (.aload_n 0, 1) := by decide +kernel
theorem dX0_init_69 : decode cX0_init 69 = .ok (.getfield 18, 3) := by decide +kernel
theorem dX0_init_72 : decode cX0_init 72 = .ok (.iconst 1, 1) := by decide +kernel
theorem dX0_init_73 : decode cX0_init 73 = .ok (.bipush 78, 2) := by decide +kernel
theorem dX0_init_75 : decode cX0_init 75 = .ok (.invokestatic 27, 3) := by decide +kernel
theorem dX0_init_78 : decode cX0_init 78 = .ok (.return_, 1) := by decide +kernel
theorem dX0_letterFor_0 : decode cX0_letterFor 0 = .ok (.iload_n 1, 1) := by decide +kernel
theorem dX0_letterFor_1 : decode cX0_letterFor 1 = .ok (.ifCond .ne 7, 3) := by decide +kernel
theorem dX0_letterFor_4 : decode cX0_letterFor 4 = .ok (.iconst 0, 1) := by decide +kernel
theorem dX0_letterFor_5 : decode cX0_letterFor 5 = .ok (.goto 4, 3) := by decide +kernel
theorem dX0_letterFor_8 : decode cX0_letterFor 8 = .ok (.iconst 1, 1) := by decide +kernel
theorem dX0_letterFor_9 : decode cX0_letterFor 9 = .ok (.istore_n 3, 1) := by decide +kernel
theorem dX0_letterFor_10 : decode cX0_letterFor 10 = .ok (.iload_n 2, 1) := by decide +kernel
theorem dX0_letterFor_11 : decode cX0_letterFor 11 = .ok (.aload_n 0, 1) := by decide +kernel
theorem dX0_letterFor_12 : decode cX0_letterFor 12 = .ok (.getfield 15, 3) := by decide +kernel
theorem dX0_letterFor_15 : decode cX0_letterFor 15 = .ok (.iload_n 3, 1) := by decide +kernel
theorem dX0_letterFor_16 : decode cX0_letterFor 16 = .ok (.invokestatic 31, 3) := by decide +kernel
theorem dX0_letterFor_19 : decode cX0_letterFor 19 = .ok (.if_icmp .gt 14, 3) := by decide +kernel
theorem dX0_letterFor_22 : decode cX0_letterFor 22 = .ok (.aload_n 0, 1) := by decide +kernel
theorem dX0_letterFor_23 : decode cX0_letterFor 23 = .ok (.getfield 18, 3) := by decide +kernel
theorem dX0_letterFor_26 : decode cX0_letterFor 26 = .ok (.iload_n 3, 1) := by decide +kernel
theorem dX0_letterFor_27 : decode cX0_letterFor 27 = .ok (.invokestatic 31, 3) := by decide +kernel
theorem dX0_letterFor_30 : decode cX0_letterFor 30 = .ok (.goto 5, 3) := by decide +kernel
theorem dX0_letterFor_33 : decode cX0_letterFor 33 = .ok (.bipush (-4), 2) := by decide +kernel
theorem dX0_letterFor_35 : decode cX0_letterFor 35 = .ok (.ireturn, 1) := by decide +kernel
theorem dX0_append_0 : decode cX0_append 0 = .ok (.iload_n 3, 1) := by decide +kernel
theorem dX0_append_1 : decode cX0_append 1 = .ok (.iconst 1, 1) := by decide +kernel
theorem dX0_append_2 : decode cX0_append 2 = .ok (.bipush 8, 2) := by decide +kernel
theorem dX0_append_4 : decode cX0_append 4 = .ok (.invokestatic 35, 3) := by decide +kernel
theorem dX0_append_7 : decode cX0_append 7 = .ok (.ifCond .ne 5, 3) := by decide +kernel
theorem dX0_append_10 : decode cX0_append 10 = .ok (.iconst (-1), 1) := by decide +kernel
theorem dX0_append_11 : decode cX0_append 11 = .ok (.ireturn, 1) := by decide +kernel
theorem dX0_append_12 : decode cX0_append 12 = .ok (.iconst 0, 1) := by decide +kernel
theorem dX0_append_13 : decode cX0_append 13 = .ok (.istore 4, 2) := by decide +kernel
theorem dX0_append_15 : decode cX0_append 15 = .ok (.iload 4, 2) := by decide +kernel
theorem dX0_append_17 : decode cX0_append 17 = .ok (.iload_n 3, 1) := by decide +kernel
theorem dX0_append_18 : decode cX0_append 18 = .ok (.if_icmp .ge 27, 3) := by decide +kernel
theorem dX0_append_21 : decode cX0_append 21 = .ok (.lload_n 1, 1) := by decide +kernel
theorem dX0_append_22 : decode cX0_append 22 = .ok (.iload 4, 2) := by decide +kernel
theorem dX0_append_24 : decode cX0_append 24 = .ok (.invokestatic 39, 3) := by decide +kernel
theorem dX0_append_27 : decode cX0_append 27 = .ok (.bipush 32, 2) := by decide +kernel
theorem dX0_append_29 : decode cX0_append 29 = .ok (.bipush 126, 2) := by decide +kernel
theorem dX0_append_31 : decode cX0_append 31 = .ok (.invokestatic 35, 3) := by decide +kernel
theorem dX0_append_34 : decode cX0_append 34 = .ok (.ifCond .ne 5, 3) := by decide +kernel
theorem dX0_append_37 : decode cX0_append 37 = .ok (.iconst (-1), 1) := by decide +kernel
theorem dX0_append_38 : decode cX0_append 38 = .ok (.ireturn, 1) := by decide +kernel
theorem dX0_append_39 : decode cX0_append 39 = .ok (.iinc 4 1, 3) := by decide +kernel
theorem dX0_append_42 : decode cX0_append 42 = .ok (.goto (-27), 3) := by decide +kernel
theorem dX0_append_45 : decode cX0_append 45 = .ok (.aload_n 0, 1) := by decide +kernel
theorem dX0_append_46 : decode cX0_append 46 = .ok (.getfield 43, 3) := by decide +kernel
theorem dX0_append_49 : decode cX0_append 49 = .ok (.iload_n 3, 1) := by decide +kernel
theorem dX0_append_50 : decode cX0_append 50 = .ok (.iadd, 1) := by decide +kernel
theorem dX0_append_51 : decode cX0_append 51 = .ok (.bipush 30, 2) := by decide +kernel
theorem dX0_append_53 : decode cX0_append 53 = .ok (.if_icmp .le 6, 3) := by decide +kernel
theorem dX0_append_56 : decode cX0_append 56 = .ok (.bipush (-3), 2) := by decide +kernel
theorem dX0_append_58 : decode cX0_append 58 = .ok (.ireturn, 1) := by decide +kernel
theorem dX0_append_59 : decode cX0_append 59 = .ok (.iload_n 3, 1) := by decide +kernel
theorem dX0_append_60 : decode cX0_append 60 = .ok (.iconst 1, 1) := by decide +kernel
theorem dX0_append_61 : decode cX0_append 61 = .ok (.isub, 1) := by decide +kernel
theorem dX0_append_62 : decode cX0_append 62 = .ok (.istore 4, 2) := by decide +kernel
theorem dX0_append_64 : decode cX0_append 64 = .ok (.iload 4, 2) := by decide +kernel
theorem dX0_append_66 : decode cX0_append 66 = .ok (.ifCond .lt 36, 3) := by decide +kernel
theorem dX0_append_69 : decode cX0_append 69 = .ok (.aload_n 0, 1) := by decide +kernel
theorem dX0_append_70 : decode cX0_append 70 = .ok (.getfield 11, 3) := by decide +kernel
theorem dX0_append_73 : decode cX0_append 73 = .ok (.aload_n 0, 1) := by decide +kernel
theorem dX0_append_74 : decode cX0_append 74 = .ok (.getfield 43, 3) := by decide +kernel
theorem dX0_append_77 : decode cX0_append 77 = .ok (.lload_n 1, 1) := by decide +kernel
theorem dX0_append_78 : decode cX0_append 78 = .ok (.iload 4, 2) := by decide +kernel
theorem dX0_append_80 : decode cX0_append 80 = .ok (.invokestatic 39, 3) := by decide +kernel
theorem dX0_append_83 : decode cX0_append 83 = .ok (.invokestatic 27, 3) := by decide +kernel
theorem dX0_append_86 : decode cX0_append 86 = .ok (.aload_n 0, 1) := by decide +kernel
theorem dX0_append_87 : decode cX0_append 87 = .ok (.dup, 1) := by decide +kernel
theorem dX0_append_88 : decode cX0_append 88 = .ok (.getfield 43, 3) := by decide +kernel
theorem dX0_append_91 : decode cX0_append 91 = .ok (.iconst 1, 1) := by decide +kernel
theorem dX0_append_92 : decode cX0_append 92 = .ok (.iadd, 1) := by decide +kernel
theorem dX0_append_93 : decode cX0_append 93 = .ok (.putfield 43, 3) := by decide +kernel
theorem dX0_append_96 : decode cX0_append 96 = .ok (.iinc 4 (-1), 3) := by decide +kernel
theorem dX0_append_99 : decode cX0_append 99 = .ok (.goto (-35), 3) := by decide +kernel
theorem dX0_append_102 : decode cX0_append 102 = .ok (.aload_n 0, 1) := by decide +kernel
theorem dX0_append_103 : decode cX0_append 103 = .ok (.getfield 43, 3) := by decide +kernel
theorem dX0_append_106 : decode cX0_append 106 = .ok (.ireturn, 1) := by decide +kernel
theorem dX0_byteOf_0 : decode cX0_byteOf 0 = .ok (.lload_n 0, 1) := by decide +kernel
theorem dX0_byteOf_1 : decode cX0_byteOf 1 = .ok (.bipush 8, 2) := by decide +kernel
theorem dX0_byteOf_3 : decode cX0_byteOf 3 = .ok (.iload_n 2, 1) := by decide +kernel
theorem dX0_byteOf_4 : decode cX0_byteOf 4 = .ok (.imul, 1) := by decide +kernel
theorem dX0_byteOf_5 : decode cX0_byteOf 5 = .ok (.lushr, 1) := by decide +kernel
theorem dX0_byteOf_6 : decode cX0_byteOf 6 = .ok (.ldc2_w 47, 3) := by decide +kernel
theorem dX0_byteOf_9 : decode cX0_byteOf 9 = .ok (.land, 1) := by decide +kernel
theorem dX0_byteOf_10 : decode cX0_byteOf 10 = .ok (.l2i, 1) := by decide +kernel
theorem dX0_byteOf_11 : decode cX0_byteOf 11 = .ok (.ireturn, 1) := by decide +kernel
theorem dX0_takeTape_0 : decode cX0_takeTape 0 = .ok (.aload_n 0, 1) := by decide +kernel
theorem dX0_takeTape_1 : decode cX0_takeTape 1 = .ok (.iconst 0, 1) := by decide +kernel
theorem dX0_takeTape_2 : decode cX0_takeTape 2 = .ok (.putfield 49, 3) := by decide +kernel
theorem dX0_takeTape_5 : decode cX0_takeTape 5 = .ok (.aload_n 0, 1) := by decide +kernel
theorem dX0_takeTape_6 : decode cX0_takeTape 6 = .ok (.getfield 24, 3) := by decide +kernel
theorem dX0_takeTape_9 : decode cX0_takeTape 9 = .ok (.bipush (-4), 2) := by decide +kernel
theorem dX0_takeTape_11 : decode cX0_takeTape 11 = .ok (.invokestatic 52, 3) := by decide +kernel
theorem dX0_takeTape_14 : decode cX0_takeTape 14 = .ok (.aload_n 0, 1) := by decide +kernel
theorem dX0_takeTape_15 : decode cX0_takeTape 15 = .ok (.invokevirtual 58, 3) := by decide +kernel
theorem dX0_takeTape_18 : decode cX0_takeTape 18 = .ok (.istore_n 1, 1) := by decide +kernel
theorem dX0_takeTape_19 : decode cX0_takeTape 19 = .ok (.iload_n 1, 1) := by decide +kernel
theorem dX0_takeTape_20 : decode cX0_takeTape 20 = .ok (.ifCond .lt 7, 3) := by decide +kernel
theorem dX0_takeTape_23 : decode cX0_takeTape 23 = .ok (.aload_n 0, 1) := by decide +kernel
theorem dX0_takeTape_24 : decode cX0_takeTape 24 = .ok (.invokevirtual 62, 3) := by decide +kernel
theorem dX0_takeTape_27 : decode cX0_takeTape 27 = .ok (.aload_n 0, 1) := by decide +kernel
theorem dX0_takeTape_28 : decode cX0_takeTape 28 = .ok (.iconst 0, 1) := by decide +kernel
theorem dX0_takeTape_29 : decode cX0_takeTape 29 = .ok (.putfield 43, 3) := by decide +kernel
theorem dX0_takeTape_32 : decode cX0_takeTape 32 = .ok (.iload_n 1, 1) := by decide +kernel
theorem dX0_takeTape_33 : decode cX0_takeTape 33 = .ok (.ireturn, 1) := by decide +kernel
theorem dX0_adoptDraft_0 : decode cX0_adoptDraft 0 = .ok (.iconst 0, 1) := by decide +kernel
theorem dX0_adoptDraft_1 : decode cX0_adoptDraft 1 = .ok (.istore_n 1, 1) := by decide +kernel
theorem dX0_adoptDraft_2 : decode cX0_adoptDraft 2 = .ok (.iload_n 1, 1) := by decide +kernel
theorem dX0_adoptDraft_3 : decode cX0_adoptDraft 3 = .ok (.iconst 2, 1) := by decide +kernel
theorem dX0_adoptDraft_4 : decode cX0_adoptDraft 4 = .ok (.if_icmp .ge 41, 3) := by decide +kernel
theorem dX0_adoptDraft_7 : decode cX0_adoptDraft 7 = .ok (.aload_n 0, 1) := by decide +kernel
theorem dX0_adoptDraft_8 : decode cX0_adoptDraft 8 = .ok (.getfield 15, 3) := by decide +kernel
theorem dX0_adoptDraft_11 : decode cX0_adoptDraft 11 = .ok (.iload_n 1, 1) := by decide +kernel
theorem dX0_adoptDraft_12 : decode cX0_adoptDraft 12 = .ok (.aload_n 0, 1) := by decide +kernel
theorem dX0_adoptDraft_13 : decode cX0_adoptDraft 13 = .ok (.getfield 21, 3) := by decide +kernel
theorem dX0_adoptDraft_16 : decode cX0_adoptDraft 16 = .ok (.iload_n 1, 1) := by decide +kernel
theorem dX0_adoptDraft_17 : decode cX0_adoptDraft 17 = .ok (.invokestatic 31, 3) := by decide +kernel
theorem dX0_adoptDraft_20 : decode cX0_adoptDraft 20 = .ok (.invokestatic 27, 3) := by decide +kernel
theorem dX0_adoptDraft_23 : decode cX0_adoptDraft 23 = .ok (.aload_n 0, 1) := by decide +kernel
theorem dX0_adoptDraft_24 : decode cX0_adoptDraft 24 = .ok (.getfield 18, 3) := by decide +kernel
theorem dX0_adoptDraft_27 : decode cX0_adoptDraft 27 = .ok (.iload_n 1, 1) := by decide +kernel
theorem dX0_adoptDraft_28 : decode cX0_adoptDraft 28 = .ok (.aload_n 0, 1) := by decide +kernel
theorem dX0_adoptDraft_29 : decode cX0_adoptDraft 29 = .ok (.getfield 24, 3) := by decide +kernel
theorem dX0_adoptDraft_32 : decode cX0_adoptDraft 32 = .ok (.iload_n 1, 1) := by decide +kernel
theorem dX0_adoptDraft_33 : decode cX0_adoptDraft 33 = .ok (.invokestatic 31, 3) := by decide +kernel
theorem dX0_adoptDraft_36 : decode cX0_adoptDraft 36 = .ok (.invokestatic 27, 3) := by decide +kernel
theorem dX0_adoptDraft_39 : decode cX0_adoptDraft 39 = .ok (.iinc 1 1, 3) := by decide +kernel
theorem dX0_adoptDraft_42 : decode cX0_adoptDraft 42 = .ok (.goto (-40), 3) := by decide +kernel
theorem dX0_adoptDraft_45 : decode cX0_adoptDraft 45 = .ok (.return_, 1) := by decide +kernel
theorem dX0_read_0 : decode cX0_read 0 = .ok (.aload_n 0, 1) := by decide +kernel
theorem dX0_read_1 : decode cX0_read 1 = .ok (.invokevirtual 65, 3) := by decide +kernel
theorem dX0_read_4 : decode cX0_read 4 = .ok (.ifCond .eq 5, 3) := by decide +kernel
theorem dX0_read_7 : decode cX0_read 7 = .ok (.iconst 0, 1) := by decide +kernel
theorem dX0_read_8 : decode cX0_read 8 = .ok (.ireturn, 1) := by decide +kernel
theorem dX0_read_9 : decode cX0_read 9 = .ok (.aload_n 0, 1) := by decide +kernel
theorem dX0_read_10 : decode cX0_read 10 = .ok (.invokevirtual 69, 3) := by decide +kernel
theorem dX0_read_13 : decode cX0_read 13 = .ok (.ifCond .ne 11, 3) := by decide +kernel
theorem dX0_read_16 : decode cX0_read 16 = .ok (.bipush (-20), 2) := by decide +kernel
theorem dX0_read_18 : decode cX0_read 18 = .ok (.aload_n 0, 1) := by decide +kernel
theorem dX0_read_19 : decode cX0_read 19 = .ok (.getfield 49, 3) := by decide +kernel
theorem dX0_read_22 : decode cX0_read 22 = .ok (.isub, 1) := by decide +kernel
theorem dX0_read_23 : decode cX0_read 23 = .ok (.ireturn, 1) := by decide +kernel
theorem dX0_read_24 : decode cX0_read 24 = .ok (.aload_n 0, 1) := by decide +kernel
theorem dX0_read_25 : decode cX0_read 25 = .ok (.invokevirtual 65, 3) := by decide +kernel
theorem dX0_read_28 : decode cX0_read 28 = .ok (.ifCond .eq 5, 3) := by decide +kernel
theorem dX0_read_31 : decode cX0_read 31 = .ok (.iconst 1, 1) := by decide +kernel
theorem dX0_read_32 : decode cX0_read 32 = .ok (.ireturn, 1) := by decide +kernel
theorem dX0_read_33 : decode cX0_read 33 = .ok (.aload_n 0, 1) := by decide +kernel
theorem dX0_read_34 : decode cX0_read 34 = .ok (.invokevirtual 72, 3) := by decide +kernel
theorem dX0_read_37 : decode cX0_read 37 = .ok (.bipush 59, 2) := by decide +kernel
theorem dX0_read_39 : decode cX0_read 39 = .ok (.if_icmp .eq 11, 3) := by decide +kernel
theorem dX0_read_42 : decode cX0_read 42 = .ok (.bipush (-20), 2) := by decide +kernel
theorem dX0_read_44 : decode cX0_read 44 = .ok (.aload_n 0, 1) := by decide +kernel
theorem dX0_read_45 : decode cX0_read 45 = .ok (.getfield 49, 3) := by decide +kernel
theorem dX0_read_48 : decode cX0_read 48 = .ok (.isub, 1) := by decide +kernel
theorem dX0_read_49 : decode cX0_read 49 = .ok (.ireturn, 1) := by decide +kernel
theorem dX0_read_50 : decode cX0_read 50 = .ok (.aload_n 0, 1) := by decide +kernel
theorem dX0_read_51 : decode cX0_read 51 = .ok (.dup, 1) := by decide +kernel
theorem dX0_read_52 : decode cX0_read 52 = .ok (.getfield 49, 3) := by decide +kernel
theorem dX0_read_55 : decode cX0_read 55 = .ok (.iconst 1, 1) := by decide +kernel
theorem dX0_read_56 : decode cX0_read 56 = .ok (.iadd, 1) := by decide +kernel
theorem dX0_read_57 : decode cX0_read 57 = .ok (.putfield 49, 3) := by decide +kernel
theorem dX0_read_60 : decode cX0_read 60 = .ok (.aload_n 0, 1) := by decide +kernel
theorem dX0_read_61 : decode cX0_read 61 = .ok (.invokevirtual 69, 3) := by decide +kernel
theorem dX0_read_64 : decode cX0_read 64 = .ok (.ifCond .eq 14, 3) := by decide +kernel
theorem dX0_read_67 : decode cX0_read 67 = .ok (.aload_n 0, 1) := by decide +kernel
theorem dX0_read_68 : decode cX0_read 68 = .ok (.invokevirtual 65, 3) := by decide +kernel
theorem dX0_read_71 : decode cX0_read 71 = .ok (.ifCond .eq 7, 3) := by decide +kernel
theorem dX0_read_74 : decode cX0_read 74 = .ok (.iconst 2, 1) := by decide +kernel
theorem dX0_read_75 : decode cX0_read 75 = .ok (.goto 10, 3) := by decide +kernel
theorem dX0_read_78 : decode cX0_read 78 = .ok (.bipush (-20), 2) := by decide +kernel
theorem dX0_read_80 : decode cX0_read 80 = .ok (.aload_n 0, 1) := by decide +kernel
theorem dX0_read_81 : decode cX0_read 81 = .ok (.getfield 49, 3) := by decide +kernel
theorem dX0_read_84 : decode cX0_read 84 = .ok (.isub, 1) := by decide +kernel
theorem dX0_read_85 : decode cX0_read 85 = .ok (.ireturn, 1) := by decide +kernel
theorem dX0_readClause_0 : decode cX0_readClause 0 = .ok (.aload_n 0, 1) := by decide +kernel
theorem dX0_readClause_1 : decode cX0_readClause 1 = .ok (.invokevirtual 75, 3) := by decide +kernel
theorem dX0_readClause_4 : decode cX0_readClause 4 = .ok (.aload_n 0, 1) := by decide +kernel
theorem dX0_readClause_5 : decode cX0_readClause 5 = .ok (.invokevirtual 72, 3) := by decide +kernel
theorem dX0_readClause_8 : decode cX0_readClause 8 = .ok (.istore_n 1, 1) := by decide +kernel
theorem dX0_readClause_9 : decode cX0_readClause 9 = .ok (.iload_n 1, 1) := by decide +kernel
theorem dX0_readClause_10 : decode cX0_readClause 10 = .ok (.bipush 112, 2) := by decide +kernel
theorem dX0_readClause_12 : decode cX0_readClause 12 = .ok (.if_icmp .eq 11, 3) := by decide +kernel
theorem dX0_readClause_15 : decode cX0_readClause 15 = .ok (.iload_n 1, 1) := by decide +kernel
theorem dX0_readClause_16 : decode cX0_readClause 16 = .ok (.bipush 114, 2) := by decide +kernel
theorem dX0_readClause_18 : decode cX0_readClause 18 = .ok (.if_icmp .eq 5, 3) := by decide +kernel
theorem dX0_readClause_21 : decode cX0_readClause 21 = .ok (.iconst 0, 1) := by decide +kernel
theorem dX0_readClause_22 : decode cX0_readClause 22 = .ok (.ireturn, 1) := by decide +kernel
theorem dX0_readClause_23 : decode cX0_readClause 23 = .ok (.aload_n 0, 1) := by decide +kernel
theorem dX0_readClause_24 : decode cX0_readClause 24 = .ok (.dup, 1) := by decide +kernel
theorem dX0_readClause_25 : decode cX0_readClause 25 = .ok (.getfield 49, 3) := by decide +kernel
theorem dX0_readClause_28 : decode cX0_readClause 28 = .ok (.iconst 1, 1) := by decide +kernel
theorem dX0_readClause_29 : decode cX0_readClause 29 = .ok (.iadd, 1) := by decide +kernel
theorem dX0_readClause_30 : decode cX0_readClause 30 = .ok (.putfield 49, 3) := by decide +kernel
theorem dX0_readClause_33 : decode cX0_readClause 33 = .ok (.aload_n 0, 1) := by decide +kernel
theorem dX0_readClause_34 : decode cX0_readClause 34 = .ok (.invokevirtual 75, 3) := by decide +kernel
theorem dX0_readClause_37 : decode cX0_readClause 37 = .ok (.aload_n 0, 1) := by decide +kernel
theorem dX0_readClause_38 : decode cX0_readClause 38 = .ok (.invokevirtual 78, 3) := by decide +kernel
theorem dX0_readClause_41 : decode cX0_readClause 41 = .ok (.istore_n 2, 1) := by decide +kernel
theorem dX0_readClause_42 : decode cX0_readClause 42 = .ok (.iload_n 2, 1) := by decide +kernel
theorem dX0_readClause_43 : decode cX0_readClause 43 = .ok (.bipush (-4), 2) := by decide +kernel
theorem dX0_readClause_45 : decode cX0_readClause 45 = .ok (.if_icmp .ne 5, 3) := by decide +kernel
theorem dX0_readClause_48 : decode cX0_readClause 48 = .ok (.iconst 0, 1) := by decide +kernel
theorem dX0_readClause_49 : decode cX0_readClause 49 = .ok (.ireturn, 1) := by decide +kernel
theorem dX0_readClause_50 : decode cX0_readClause 50 = .ok (.aload_n 0, 1) := by decide +kernel
theorem dX0_readClause_51 : decode cX0_readClause 51 = .ok (.invokevirtual 75, 3) := by decide +kernel
theorem dX0_readClause_54 : decode cX0_readClause 54 = .ok (.aload_n 0, 1) := by decide +kernel
theorem dX0_readClause_55 : decode cX0_readClause 55 = .ok (.invokevirtual 72, 3) := by decide +kernel
theorem dX0_readClause_58 : decode cX0_readClause 58 = .ok (.istore_n 3, 1) := by decide +kernel
theorem dX0_readClause_59 : decode cX0_readClause 59 = .ok (.iload_n 3, 1) := by decide +kernel
theorem dX0_readClause_60 : decode cX0_readClause 60 = .ok (.bipush 82, 2) := by decide +kernel
theorem dX0_readClause_62 : decode cX0_readClause 62 = .ok (.if_icmp .eq 11, 3) := by decide +kernel
theorem dX0_readClause_65 : decode cX0_readClause 65 = .ok (.iload_n 3, 1) := by decide +kernel
theorem dX0_readClause_66 : decode cX0_readClause 66 = .ok (.bipush 78, 2) := by decide +kernel
theorem dX0_readClause_68 : decode cX0_readClause 68 = .ok (.if_icmp .eq 5, 3) := by decide +kernel
theorem dX0_readClause_71 : decode cX0_readClause 71 = .ok (.iconst 0, 1) := by decide +kernel
theorem dX0_readClause_72 : decode cX0_readClause 72 = .ok (.ireturn, 1) := by decide +kernel
theorem dX0_readClause_73 : decode cX0_readClause 73 = .ok (.aload_n 0, 1) := by decide +kernel
theorem dX0_readClause_74 : decode cX0_readClause 74 = .ok (.dup, 1) := by decide +kernel
theorem dX0_readClause_75 : decode cX0_readClause 75 = .ok (.getfield 49, 3) := by decide +kernel
theorem dX0_readClause_78 : decode cX0_readClause 78 = .ok (.iconst 1, 1) := by decide +kernel
theorem dX0_readClause_79 : decode cX0_readClause 79 = .ok (.iadd, 1) := by decide +kernel
theorem dX0_readClause_80 : decode cX0_readClause 80 = .ok (.putfield 49, 3) := by decide +kernel
theorem dX0_readClause_83 : decode cX0_readClause 83 = .ok (.aload_n 0, 1) := by decide +kernel
theorem dX0_readClause_84 : decode cX0_readClause 84 = .ok (.getfield 21, 3) := by decide +kernel
theorem dX0_readClause_87 : decode cX0_readClause 87 = .ok (.iload_n 1, 1) := by decide +kernel
theorem dX0_readClause_88 : decode cX0_readClause 88 = .ok (.bipush 112, 2) := by decide +kernel
theorem dX0_readClause_90 : decode cX0_readClause 90 = .ok (.if_icmp .ne 7, 3) := by decide +kernel
theorem dX0_readClause_93 : decode cX0_readClause 93 = .ok (.iconst 0, 1) := by decide +kernel
theorem dX0_readClause_94 : decode cX0_readClause 94 = .ok (.goto 4, 3) := by decide +kernel
theorem dX0_readClause_97 : decode cX0_readClause 97 = .ok (.iconst 1, 1) := by decide +kernel
theorem dX0_readClause_98 : decode cX0_readClause 98 = .ok (.iload_n 2, 1) := by decide +kernel
theorem dX0_readClause_99 : decode cX0_readClause 99 = .ok (.invokestatic 27, 3) := by decide +kernel
theorem dX0_readClause_102 : decode cX0_readClause 102 = .ok (.aload_n 0, 1) := by decide +kernel
theorem dX0_readClause_103 : decode cX0_readClause 103 = .ok (.getfield 24, 3) := by decide +kernel
theorem dX0_readClause_106 : decode cX0_readClause 106 = .ok (.iload_n 1, 1) := by decide +kernel
theorem dX0_readClause_107 : decode cX0_readClause 107 = .ok (.bipush 112, 2) := by decide +kernel
theorem dX0_readClause_109 : decode cX0_readClause 109 = .ok (.if_icmp .ne 7, 3) := by decide +kernel
theorem dX0_readClause_112 : decode cX0_readClause 112 = .ok (.iconst 0, 1) := by decide +kernel
theorem dX0_readClause_113 : decode cX0_readClause 113 = .ok (.goto 4, 3) := by decide +kernel
theorem dX0_readClause_116 : decode cX0_readClause 116 = .ok (.iconst 1, 1) := by decide +kernel
theorem dX0_readClause_117 : decode cX0_readClause 117 = .ok (.iload_n 3, 1) := by decide +kernel
theorem dX0_readClause_118 : decode cX0_readClause 118 = .ok (.invokestatic 27, 3) := by decide +kernel
theorem dX0_readClause_121 : decode cX0_readClause 121 = .ok (.iconst 1, 1) := by decide +kernel
theorem dX0_readClause_122 : decode cX0_readClause 122 = .ok (.ireturn, 1) := by decide +kernel
theorem dX0_readNumber_0 : decode cX0_readNumber 0 = .ok (.aload_n 0, 1) := by decide +kernel
theorem dX0_readNumber_1 : decode cX0_readNumber 1 = .ok (.getfield 49, 3) := by decide +kernel
theorem dX0_readNumber_4 : decode cX0_readNumber 4 = .ok (.istore_n 1, 1) := by decide +kernel
theorem dX0_readNumber_5 : decode cX0_readNumber 5 = .ok (.iconst 0, 1) := by decide +kernel
theorem dX0_readNumber_6 : decode cX0_readNumber 6 = .ok (.istore_n 2, 1) := by decide +kernel
theorem dX0_readNumber_7 : decode cX0_readNumber 7 = .ok (.aload_n 0, 1) := by decide +kernel
theorem dX0_readNumber_8 : decode cX0_readNumber 8 = .ok (.getfield 49, 3) := by decide +kernel
theorem dX0_readNumber_11 : decode cX0_readNumber 11 = .ok (.aload_n 0, 1) := by decide +kernel
theorem dX0_readNumber_12 : decode cX0_readNumber 12 = .ok (.getfield 43, 3) := by decide +kernel
theorem dX0_readNumber_15 : decode cX0_readNumber 15 = .ok (.if_icmp .ge 48, 3) := by decide +kernel
theorem dX0_readNumber_18 : decode cX0_readNumber 18 = .ok (.aload_n 0, 1) := by decide +kernel
theorem dX0_readNumber_19 : decode cX0_readNumber 19 = .ok (.invokevirtual 72, 3) := by decide +kernel
theorem dX0_readNumber_22 : decode cX0_readNumber 22 = .ok (.bipush 48, 2) := by decide +kernel
theorem dX0_readNumber_24 : decode cX0_readNumber 24 = .ok (.bipush 57, 2) := by decide +kernel
theorem dX0_readNumber_26 : decode cX0_readNumber 26 = .ok (.invokestatic 35, 3) := by decide +kernel
theorem dX0_readNumber_29 : decode cX0_readNumber 29 = .ok (.ifCond .eq 34, 3) := by decide +kernel
theorem dX0_readNumber_32 : decode cX0_readNumber 32 = .ok (.bipush 100, 2) := by decide +kernel
theorem dX0_readNumber_34 : decode cX0_readNumber 34 = .ok (.iload_n 2, 1) := by decide +kernel
theorem dX0_readNumber_35 : decode cX0_readNumber 35 = .ok (.bipush 10, 2) := by decide +kernel
theorem dX0_readNumber_37 : decode cX0_readNumber 37 = .ok (.imul, 1) := by decide +kernel
theorem dX0_readNumber_38 : decode cX0_readNumber 38 = .ok (.aload_n 0, 1) := by decide +kernel
theorem dX0_readNumber_39 : decode cX0_readNumber 39 = .ok (.invokevirtual 72, 3) := by decide +kernel
theorem dX0_readNumber_42 : decode cX0_readNumber 42 = .ok (.iadd, 1) := by decide +kernel
theorem dX0_readNumber_43 : decode cX0_readNumber 43 = .ok (.bipush 48, 2) := by decide +kernel
theorem dX0_readNumber_45 : decode cX0_readNumber 45 = .ok (.isub, 1) := by decide +kernel
theorem dX0_readNumber_46 : decode cX0_readNumber 46 = .ok (.invokestatic 81, 3) := by decide +kernel
theorem dX0_readNumber_49 : decode cX0_readNumber 49 = .ok (.istore_n 2, 1) := by decide +kernel
theorem dX0_readNumber_50 : decode cX0_readNumber 50 = .ok (.aload_n 0, 1) := by decide +kernel
theorem dX0_readNumber_51 : decode cX0_readNumber 51 = .ok (.dup, 1) := by decide +kernel
theorem dX0_readNumber_52 : decode cX0_readNumber 52 = .ok (.getfield 49, 3) := by decide +kernel
theorem dX0_readNumber_55 : decode cX0_readNumber 55 = .ok (.iconst 1, 1) := by decide +kernel
theorem dX0_readNumber_56 : decode cX0_readNumber 56 = .ok (.iadd, 1) := by decide +kernel
theorem dX0_readNumber_57 : decode cX0_readNumber 57 = .ok (.putfield 49, 3) := by decide +kernel
theorem dX0_readNumber_60 : decode cX0_readNumber 60 = .ok (.goto (-53), 3) := by decide +kernel
theorem dX0_readNumber_63 : decode cX0_readNumber 63 = .ok (.aload_n 0, 1) := by decide +kernel
theorem dX0_readNumber_64 : decode cX0_readNumber 64 = .ok (.getfield 49, 3) := by decide +kernel
theorem dX0_readNumber_67 : decode cX0_readNumber 67 = .ok (.iload_n 1, 1) := by decide +kernel
theorem dX0_readNumber_68 : decode cX0_readNumber 68 = .ok (.if_icmp .ne 6, 3) := by decide +kernel
theorem dX0_readNumber_71 : decode cX0_readNumber 71 = .ok (.bipush (-4), 2) := by decide +kernel
theorem dX0_readNumber_73 : decode cX0_readNumber 73 = .ok (.ireturn, 1) := by decide +kernel
theorem dX0_readNumber_74 : decode cX0_readNumber 74 = .ok (.iload_n 2, 1) := by decide +kernel
theorem dX0_readNumber_75 : decode cX0_readNumber 75 = .ok (.bipush 99, 2) := by decide +kernel
theorem dX0_readNumber_77 : decode cX0_readNumber 77 = .ok (.if_icmp .le 11, 3) := by decide +kernel
theorem dX0_readNumber_80 : decode cX0_readNumber 80 = .ok (.aload_n 0, 1) := by decide +kernel
theorem dX0_readNumber_81 : decode cX0_readNumber 81 = .ok (.iload_n 1, 1) := by decide +kernel
theorem dX0_readNumber_82 : decode cX0_readNumber 82 = .ok (.putfield 49, 3) := by decide +kernel
theorem dX0_readNumber_85 : decode cX0_readNumber 85 = .ok (.bipush (-4), 2) := by decide +kernel
theorem dX0_readNumber_87 : decode cX0_readNumber 87 = .ok (.ireturn, 1) := by decide +kernel
theorem dX0_readNumber_88 : decode cX0_readNumber 88 = .ok (.iload_n 2, 1) := by decide +kernel
theorem dX0_readNumber_89 : decode cX0_readNumber 89 = .ok (.ireturn, 1) := by decide +kernel
theorem dX0_skipBlanks_0 : decode cX0_skipBlanks 0 = .ok (.aload_n 0, 1) := by decide +kernel
theorem dX0_skipBlanks_1 : decode cX0_skipBlanks 1 = .ok (.getfield 49, 3) := by decide +kernel
theorem dX0_skipBlanks_4 : decode cX0_skipBlanks 4 = .ok (.aload_n 0, 1) := by decide +kernel
theorem dX0_skipBlanks_5 : decode cX0_skipBlanks 5 = .ok (.getfield 43, 3) := by decide +kernel
theorem dX0_skipBlanks_8 : decode cX0_skipBlanks 8 = .ok (.if_icmp .ge 25, 3) := by decide +kernel
theorem dX0_skipBlanks_11 : decode cX0_skipBlanks 11 = .ok (.aload_n 0, 1) := by decide +kernel
theorem dX0_skipBlanks_12 : decode cX0_skipBlanks 12 = .ok (.invokevirtual 72, 3) := by decide +kernel
theorem dX0_skipBlanks_15 : decode cX0_skipBlanks 15 = .ok (.bipush 32, 2) := by decide +kernel
theorem dX0_skipBlanks_17 : decode cX0_skipBlanks 17 = .ok (.if_icmp .ne 16, 3) := by decide +kernel
theorem dX0_skipBlanks_20 : decode cX0_skipBlanks 20 = .ok (.aload_n 0, 1) := by decide +kernel
theorem dX0_skipBlanks_21 : decode cX0_skipBlanks 21 = .ok (.dup, 1) := by decide +kernel
theorem dX0_skipBlanks_22 : decode cX0_skipBlanks 22 = .ok (.getfield 49, 3) := by decide +kernel
theorem dX0_skipBlanks_25 : decode cX0_skipBlanks 25 = .ok (.iconst 1, 1) := by decide +kernel
theorem dX0_skipBlanks_26 : decode cX0_skipBlanks 26 = .ok (.iadd, 1) := by decide +kernel
theorem dX0_skipBlanks_27 : decode cX0_skipBlanks 27 = .ok (.putfield 49, 3) := by decide +kernel
theorem dX0_skipBlanks_30 : decode cX0_skipBlanks 30 = .ok (.goto (-30), 3) := by decide +kernel
theorem dX0_skipBlanks_33 : decode cX0_skipBlanks 33 = .ok (.return_, 1) := by decide +kernel
theorem dX0_atEnd_0 : decode cX0_atEnd 0 = .ok (.aload_n 0, 1) := by decide +kernel
theorem dX0_atEnd_1 : decode cX0_atEnd 1 = .ok (.invokevirtual 75, 3) := by decide +kernel
theorem dX0_atEnd_4 : decode cX0_atEnd 4 = .ok (.aload_n 0, 1) := by decide +kernel
theorem dX0_atEnd_5 : decode cX0_atEnd 5 = .ok (.getfield 49, 3) := by decide +kernel
theorem dX0_atEnd_8 : decode cX0_atEnd 8 = .ok (.aload_n 0, 1) := by decide +kernel
theorem dX0_atEnd_9 : decode cX0_atEnd 9 = .ok (.getfield 43, 3) := by decide +kernel
theorem dX0_atEnd_12 : decode cX0_atEnd 12 = .ok (.if_icmp .lt 7, 3) := by decide +kernel
theorem dX0_atEnd_15 : decode cX0_atEnd 15 = .ok (.iconst 1, 1) := by decide +kernel
theorem dX0_atEnd_16 : decode cX0_atEnd 16 = .ok (.goto 4, 3) := by decide +kernel
theorem dX0_atEnd_19 : decode cX0_atEnd 19 = .ok (.iconst 0, 1) := by decide +kernel
theorem dX0_atEnd_20 : decode cX0_atEnd 20 = .ok (.ireturn, 1) := by decide +kernel
theorem dX0_here_0 : decode cX0_here 0 = .ok (.aload_n 0, 1) := by decide +kernel
theorem dX0_here_1 : decode cX0_here 1 = .ok (.getfield 49, 3) := by decide +kernel
theorem dX0_here_4 : decode cX0_here 4 = .ok (.aload_n 0, 1) := by decide +kernel
theorem dX0_here_5 : decode cX0_here 5 = .ok (.getfield 43, 3) := by decide +kernel
theorem dX0_here_8 : decode cX0_here 8 = .ok (.if_icmp .ge 17, 3) := by decide +kernel
theorem dX0_here_11 : decode cX0_here 11 = .ok (.aload_n 0, 1) := by decide +kernel
theorem dX0_here_12 : decode cX0_here 12 = .ok (.getfield 11, 3) := by decide +kernel
theorem dX0_here_15 : decode cX0_here 15 = .ok (.aload_n 0, 1) := by decide +kernel
theorem dX0_here_16 : decode cX0_here 16 = .ok (.getfield 49, 3) := by decide +kernel
theorem dX0_here_19 : decode cX0_here 19 = .ok (.invokestatic 31, 3) := by decide +kernel
theorem dX0_here_22 : decode cX0_here 22 = .ok (.goto 5, 3) := by decide +kernel
theorem dX0_here_25 : decode cX0_here 25 = .ok (.bipush (-4), 2) := by decide +kernel
theorem dX0_here_27 : decode cX0_here 27 = .ok (.ireturn, 1) := by decide +kernel
theorem dX1_init_0 : decode cX1_init 0 = .ok (.aload_n 0, 1) := by decide +kernel
theorem dX1_init_1 : decode cX1_init 1 = .ok (.invokespecial 3, 3) := by decide +kernel
theorem dX1_init_4 : decode cX1_init 4 = .ok (.aload_n 0, 1) := by decide +kernel
theorem dX1_init_5 : decode cX1_init 5 = .ok (.bipush 15, 2) := by decide +kernel
theorem dX1_init_7 : decode cX1_init 7 = .ok (.newarray .int, 2) := by decide +kernel
theorem dX1_init_9 : decode cX1_init 9 = .ok (.putfield 11, 3) := by decide +kernel
theorem dX1_init_12 : decode cX1_init 12 = .ok (.aload_n 0, 1) := by decide +kernel
theorem dX1_init_13 : decode cX1_init 13 = .ok (.bipush 15, 2) := by decide +kernel
theorem dX1_init_15 : decode cX1_init 15 = .ok (.newarray .int, 2) := by decide +kernel
theorem dX1_init_17 : decode cX1_init 17 = .ok (.putfield 15, 3) := by decide +kernel
theorem dX1_init_20 : decode cX1_init 20 = .ok (.aload_n 0, 1) := by decide +kernel
theorem dX1_init_21 : decode cX1_init 21 = .ok (.iconst 2, 1) := by decide +kernel
theorem dX1_init_22 : decode cX1_init 22 = .ok (.putfield 18, 3) := by decide +kernel
theorem dX1_init_25 : decode cX1_init 25 = .ok (.aload_n 0, 1) := by decide +kernel
theorem dX1_init_26 : decode cX1_init 26 = .ok (.getfield 11, 3) := by decide +kernel
theorem dX1_init_29 : decode cX1_init 29 = .ok (.bipush (-4), 2) := by decide +kernel
theorem dX1_init_31 : decode cX1_init 31 = .ok (.invokestatic 22, 3) := by decide +kernel
theorem dX1_init_34 : decode cX1_init 34 = .ok (.aload_n 0, 1) := by decide +kernel
theorem dX1_init_35 : decode cX1_init 35 = .ok (.getfield 15, 3) := by decide +kernel
theorem dX1_init_38 : decode cX1_init 38 = .ok (.bipush (-4), 2) := by decide +kernel
theorem dX1_init_40 : decode cX1_init 40 = .ok (.invokestatic 22, 3) := by decide +kernel
theorem dX1_init_43 : decode cX1_init 43 = .ok (.return_, 1) := by decide +kernel
theorem dX1_isMatch_0 : decode cX1_isMatch 0 = .ok (.iload_n 0, 1) := by decide +kernel
theorem dX1_isMatch_1 : decode cX1_isMatch 1 = .ok (.iconst 0, 1) := by decide +kernel
theorem dX1_isMatch_2 : decode cX1_isMatch 2 = .ok (.bipush 14, 2) := by decide +kernel
theorem dX1_isMatch_4 : decode cX1_isMatch 4 = .ok (.invokestatic 28, 3) := by decide +kernel
theorem dX1_isMatch_7 : decode cX1_isMatch 7 = .ok (.ireturn, 1) := by decide +kernel
theorem dX1_who_0 : decode cX1_who 0 = .ok (.iload_n 2, 1) := by decide +kernel
theorem dX1_who_1 : decode cX1_who 1 = .ok (.iconst 2, 1) := by decide +kernel
theorem dX1_who_2 : decode cX1_who 2 = .ok (.if_icmp .ne 12, 3) := by decide +kernel
theorem dX1_who_5 : decode cX1_who 5 = .ok (.aload_n 0, 1) := by decide +kernel
theorem dX1_who_6 : decode cX1_who 6 = .ok (.getfield 11, 3) := by decide +kernel
theorem dX1_who_9 : decode cX1_who 9 = .ok (.iload_n 1, 1) := by decide +kernel
theorem dX1_who_10 : decode cX1_who 10 = .ok (.invokestatic 32, 3) := by decide +kernel
theorem dX1_who_13 : decode cX1_who 13 = .ok (.ireturn, 1) := by decide +kernel
theorem dX1_who_14 : decode cX1_who 14 = .ok (.iload_n 1, 1) := by decide +kernel
theorem dX1_who_15 : decode cX1_who 15 = .ok (.bipush 14, 2) := by decide +kernel
theorem dX1_who_17 : decode cX1_who 17 = .ok (.if_icmp .ne 13, 3) := by decide +kernel
theorem dX1_who_20 : decode cX1_who 20 = .ok (.aload_n 0, 1) := by decide +kernel
theorem dX1_who_21 : decode cX1_who 21 = .ok (.invokevirtual 36, 3) := by decide +kernel
theorem dX1_who_24 : decode cX1_who 24 = .ok (.ifCond .ne 6, 3) := by decide +kernel
theorem dX1_who_27 : decode cX1_who 27 = .ok (.bipush (-4), 2) := by decide +kernel
theorem dX1_who_29 : decode cX1_who 29 = .ok (.ireturn, 1) := by decide +kernel
theorem dX1_who_30 : decode cX1_who 30 = .ok (.iload_n 2, 1) := by decide +kernel
theorem dX1_who_31 : decode cX1_who 31 = .ok (.ifCond .ne 9, 3) := by decide +kernel
theorem dX1_who_34 : decode cX1_who 34 = .ok (.getstatic 40, 3) := by decide +kernel
theorem dX1_who_37 : decode cX1_who 37 = .ok (.goto 6, 3) := by decide +kernel
theorem dX1_who_40 : decode cX1_who 40 = .ok (.getstatic 43, 3) := by decide +kernel
theorem dX1_who_43 : decode cX1_who 43 = .ok (.iload_n 1, 1) := by decide +kernel
theorem dX1_who_44 : decode cX1_who 44 = .ok (.invokestatic 32, 3) := by decide +kernel
theorem dX1_who_47 : decode cX1_who 47 = .ok (.istore_n 3, 1) := by decide +kernel
theorem dX1_who_48 : decode cX1_who 48 = .ok (.iload_n 3, 1) := by decide +kernel
theorem dX1_who_49 : decode cX1_who 49 = .ok (.bipush (-4), 2) := by decide +kernel
theorem dX1_who_51 : decode cX1_who 51 = .ok (.if_icmp .ne 23, 3) := by decide +kernel
theorem dX1_who_54 : decode cX1_who 54 = .ok (.iload_n 2, 1) := by decide +kernel
theorem dX1_who_55 : decode cX1_who 55 = .ok (.ifCond .ne 9, 3) := by decide +kernel
theorem dX1_who_58 : decode cX1_who 58 = .ok (.getstatic 46, 3) := by decide +kernel
theorem dX1_who_61 : decode cX1_who 61 = .ok (.goto 6, 3) := by decide +kernel
theorem dX1_who_64 : decode cX1_who 64 = .ok (.getstatic 49, 3) := by decide +kernel
theorem dX1_who_67 : decode cX1_who 67 = .ok (.iload_n 1, 1) := by decide +kernel
theorem dX1_who_68 : decode cX1_who 68 = .ok (.invokestatic 32, 3) := by decide +kernel
theorem dX1_who_71 : decode cX1_who 71 = .ok (.goto 11, 3) := by decide +kernel
theorem dX1_who_74 : decode cX1_who 74 = .ok (.aload_n 0, 1) := by decide +kernel
theorem dX1_who_75 : decode cX1_who 75 = .ok (.getfield 11, 3) := by decide +kernel
theorem dX1_who_78 : decode cX1_who 78 = .ok (.iload_n 3, 1) := by decide +kernel
theorem dX1_who_79 : decode cX1_who 79 = .ok (.invokestatic 32, 3) := by decide +kernel
theorem dX1_who_82 : decode cX1_who 82 = .ok (.ireturn, 1) := by decide +kernel
theorem dX1_hasTwoWinners_0 : decode cX1_hasTwoWinners 0 = .ok (.aload_n 0, 1) := by decide +kernel
theorem dX1_hasTwoWinners_1 : decode cX1_hasTwoWinners 1 = .ok (.getfield 11, 3) := by decide +kernel
theorem dX1_hasTwoWinners_4 : decode cX1_hasTwoWinners 4 = .ok (.bipush 6, 2) := by decide +kernel
theorem dX1_hasTwoWinners_6 : decode cX1_hasTwoWinners 6 = .ok (.invokestatic 32, 3) := by decide +kernel
theorem dX1_hasTwoWinners_9 : decode cX1_hasTwoWinners 9 = .ok (.istore_n 1, 1) := by decide +kernel
theorem dX1_hasTwoWinners_10 : decode cX1_hasTwoWinners 10 = .ok (.aload_n 0, 1) := by decide +kernel
theorem dX1_hasTwoWinners_11 : decode cX1_hasTwoWinners 11 = .ok (.getfield 11, 3) := by decide +kernel
theorem dX1_hasTwoWinners_14 : decode cX1_hasTwoWinners 14 = .ok (.bipush 13, 2) := by decide +kernel
theorem dX1_hasTwoWinners_16 : decode cX1_hasTwoWinners 16 = .ok (.invokestatic 32, 3) := by decide +kernel
theorem dX1_hasTwoWinners_19 : decode cX1_hasTwoWinners 19 = .ok (.istore_n 2, 1) := by decide +kernel
theorem dX1_hasTwoWinners_20 : decode cX1_hasTwoWinners 20 = .ok (.iload_n 1, 1) := by decide +kernel
theorem dX1_hasTwoWinners_21 : decode cX1_hasTwoWinners 21 = .ok (.bipush (-4), 2) := by decide +kernel
theorem dX1_hasTwoWinners_23 : decode cX1_hasTwoWinners 23 = .ok (.if_icmp .eq 18, 3) := by decide +kernel
theorem dX1_hasTwoWinners_26 : decode cX1_hasTwoWinners 26 = .ok (.iload_n 2, 1) := by decide +kernel
theorem dX1_hasTwoWinners_27 : decode cX1_hasTwoWinners 27 = .ok (.bipush (-4), 2) := by decide +kernel
theorem dX1_hasTwoWinners_29 : decode cX1_hasTwoWinners 29 = .ok (.if_icmp .eq 12, 3) := by decide +kernel
theorem dX1_hasTwoWinners_32 : decode cX1_hasTwoWinners 32 = .ok (.iload_n 1, 1) := by decide +kernel
theorem dX1_hasTwoWinners_33 : decode cX1_hasTwoWinners 33 = .ok (.iload_n 2, 1) := by decide +kernel
theorem dX1_hasTwoWinners_34 : decode cX1_hasTwoWinners 34 = .ok (.if_icmp .eq 7, 3) := by decide +kernel
theorem dX1_hasTwoWinners_37 : decode cX1_hasTwoWinners 37 = .ok (.iconst 1, 1) := by decide +kernel
theorem dX1_hasTwoWinners_38 : decode cX1_hasTwoWinners 38 = .ok (.goto 4, 3) := by decide +kernel
theorem dX1_hasTwoWinners_41 : decode cX1_hasTwoWinners 41 = .ok (.iconst 0, 1) := by decide +kernel
theorem dX1_hasTwoWinners_42 : decode cX1_hasTwoWinners 42 = .ok (.ireturn, 1) := by decide +kernel
theorem dX1_give_0 : decode cX1_give 0 = .ok (.aload_n 0, 1) := by decide +kernel
theorem dX1_give_1 : decode cX1_give 1 = .ok (.iload_n 1, 1) := by decide +kernel
theorem dX1_give_2 : decode cX1_give 2 = .ok (.iconst 0, 1) := by decide +kernel
theorem dX1_give_3 : decode cX1_give 3 = .ok (.invokevirtual 52, 3) := by decide +kernel
theorem dX1_give_6 : decode cX1_give 6 = .ok (.istore_n 3, 1) := by decide +kernel
theorem dX1_give_7 : decode cX1_give 7 = .ok (.aload_n 0, 1) := by decide +kernel
theorem dX1_give_8 : decode cX1_give 8 = .ok (.iload_n 1, 1) := by decide +kernel
theorem dX1_give_9 : decode cX1_give 9 = .ok (.iconst 1, 1) := by decide +kernel
theorem dX1_give_10 : decode cX1_give 10 = .ok (.invokevirtual 52, 3) := by decide +kernel
theorem dX1_give_13 : decode cX1_give 13 = .ok (.istore 4, 2) := by decide +kernel
theorem dX1_give_15 : decode cX1_give 15 = .ok (.iload_n 3, 1) := by decide +kernel
theorem dX1_give_16 : decode cX1_give 16 = .ok (.bipush (-4), 2) := by decide +kernel
theorem dX1_give_18 : decode cX1_give 18 = .ok (.if_icmp .eq 34, 3) := by decide +kernel
theorem dX1_give_21 : decode cX1_give 21 = .ok (.iload 4, 2) := by decide +kernel
theorem dX1_give_23 : decode cX1_give 23 = .ok (.bipush (-4), 2) := by decide +kernel
theorem dX1_give_25 : decode cX1_give 25 = .ok (.if_icmp .eq 27, 3) := by decide +kernel
theorem dX1_give_28 : decode cX1_give 28 = .ok (.aload_n 0, 1) := by decide +kernel
theorem dX1_give_29 : decode cX1_give 29 = .ok (.getfield 11, 3) := by decide +kernel
theorem dX1_give_32 : decode cX1_give 32 = .ok (.iload_n 1, 1) := by decide +kernel
theorem dX1_give_33 : decode cX1_give 33 = .ok (.invokestatic 32, 3) := by decide +kernel
theorem dX1_give_36 : decode cX1_give 36 = .ok (.bipush (-4), 2) := by decide +kernel
theorem dX1_give_38 : decode cX1_give 38 = .ok (.if_icmp .ne 14, 3) := by decide +kernel
theorem dX1_give_41 : decode cX1_give 41 = .ok (.iload_n 2, 1) := by decide +kernel
theorem dX1_give_42 : decode cX1_give 42 = .ok (.iload_n 3, 1) := by decide +kernel
theorem dX1_give_43 : decode cX1_give 43 = .ok (.if_icmp .eq 12, 3) := by decide +kernel
theorem dX1_give_46 : decode cX1_give 46 = .ok (.iload_n 2, 1) := by decide +kernel
theorem dX1_give_47 : decode cX1_give 47 = .ok (.iload 4, 2) := by decide +kernel
theorem dX1_give_49 : decode cX1_give 49 = .ok (.if_icmp .eq 6, 3) := by decide +kernel
theorem dX1_give_52 : decode cX1_give 52 = .ok (.bipush (-2), 2) := by decide +kernel
theorem dX1_give_54 : decode cX1_give 54 = .ok (.ireturn, 1) := by decide +kernel
theorem dX1_give_55 : decode cX1_give 55 = .ok (.aload_n 0, 1) := by decide +kernel
theorem dX1_give_56 : decode cX1_give 56 = .ok (.getfield 11, 3) := by decide +kernel
theorem dX1_give_59 : decode cX1_give 59 = .ok (.iload_n 1, 1) := by decide +kernel
theorem dX1_give_60 : decode cX1_give 60 = .ok (.iload_n 2, 1) := by decide +kernel
theorem dX1_give_61 : decode cX1_give 61 = .ok (.invokestatic 56, 3) := by decide +kernel
theorem dX1_give_64 : decode cX1_give 64 = .ok (.iconst 1, 1) := by decide +kernel
theorem dX1_give_65 : decode cX1_give 65 = .ok (.ireturn, 1) := by decide +kernel
theorem dX1_takeBack_0 : decode cX1_takeBack 0 = .ok (.aload_n 0, 1) := by decide +kernel
theorem dX1_takeBack_1 : decode cX1_takeBack 1 = .ok (.getfield 11, 3) := by decide +kernel
theorem dX1_takeBack_4 : decode cX1_takeBack 4 = .ok (.iload_n 1, 1) := by decide +kernel
theorem dX1_takeBack_5 : decode cX1_takeBack 5 = .ok (.invokestatic 32, 3) := by decide +kernel
theorem dX1_takeBack_8 : decode cX1_takeBack 8 = .ok (.bipush (-4), 2) := by decide +kernel
theorem dX1_takeBack_10 : decode cX1_takeBack 10 = .ok (.if_icmp .ne 6, 3) := by decide +kernel
theorem dX1_takeBack_13 : decode cX1_takeBack 13 = .ok (.bipush (-2), 2) := by decide +kernel
theorem dX1_takeBack_15 : decode cX1_takeBack 15 = .ok (.ireturn, 1) := by decide +kernel
theorem dX1_takeBack_16 : decode cX1_takeBack 16 = .ok (.iconst 0, 1) := by decide +kernel
theorem dX1_takeBack_17 : decode cX1_takeBack 17 = .ok (.istore_n 2, 1) := by decide +kernel
theorem dX1_takeBack_18 : decode cX1_takeBack 18 = .ok (.iload_n 1, 1) := by decide +kernel
theorem dX1_takeBack_19 : decode cX1_takeBack 19 = .ok (.istore_n 3, 1) := by decide +kernel
theorem dX1_takeBack_20 : decode cX1_takeBack 20 = .ok (.iconst 0, 1) := by decide +kernel
theorem dX1_takeBack_21 : decode cX1_takeBack 21 = .ok (.istore 4, 2) := by decide +kernel
theorem dX1_takeBack_23 : decode cX1_takeBack 23 = .ok (.iload 4, 2) := by decide +kernel
theorem dX1_takeBack_25 : decode cX1_takeBack 25 = .ok (.bipush 15, 2) := by decide +kernel
theorem dX1_takeBack_27 : decode cX1_takeBack 27 = .ok (.if_icmp .ge 49, 3) := by decide +kernel
theorem dX1_takeBack_30 : decode cX1_takeBack 30 = .ok (.iload_n 3, 1) := by decide +kernel
theorem dX1_takeBack_31 : decode cX1_takeBack 31 = .ok (.bipush (-4), 2) := by decide +kernel
theorem dX1_takeBack_33 : decode cX1_takeBack 33 = .ok (.if_icmp .eq 43, 3) := by decide +kernel
theorem dX1_takeBack_36 : decode cX1_takeBack 36 = .ok (.aload_n 0, 1) := by decide +kernel
theorem dX1_takeBack_37 : decode cX1_takeBack 37 = .ok (.getfield 11, 3) := by decide +kernel
theorem dX1_takeBack_40 : decode cX1_takeBack 40 = .ok (.iload_n 3, 1) := by decide +kernel
theorem dX1_takeBack_41 : decode cX1_takeBack 41 = .ok (.invokestatic 32, 3) := by decide +kernel
theorem dX1_takeBack_44 : decode cX1_takeBack 44 = .ok (.bipush (-4), 2) := by decide +kernel
theorem dX1_takeBack_46 : decode cX1_takeBack 46 = .ok (.if_icmp .eq 16, 3) := by decide +kernel
theorem dX1_takeBack_49 : decode cX1_takeBack 49 = .ok (.aload_n 0, 1) := by decide +kernel
theorem dX1_takeBack_50 : decode cX1_takeBack 50 = .ok (.getfield 11, 3) := by decide +kernel
theorem dX1_takeBack_53 : decode cX1_takeBack 53 = .ok (.iload_n 3, 1) := by decide +kernel
theorem dX1_takeBack_54 : decode cX1_takeBack 54 = .ok (.bipush (-4), 2) := by decide +kernel
theorem dX1_takeBack_56 : decode cX1_takeBack 56 = .ok (.invokestatic 56, 3) := by decide +kernel
theorem dX1_takeBack_59 : decode cX1_takeBack 59 = .ok (.iinc 2 1, 3) := by decide +kernel
theorem dX1_takeBack_62 : decode cX1_takeBack 62 = .ok (.getstatic 60, 3) := by decide +kernel
theorem dX1_takeBack_65 : decode cX1_takeBack 65 = .ok (.iload_n 3, 1) := by decide +kernel
theorem dX1_takeBack_66 : decode cX1_takeBack 66 = .ok (.invokestatic 32, 3) := by decide +kernel
theorem dX1_takeBack_69 : decode cX1_takeBack 69 = .ok (.istore_n 3, 1) := by decide +kernel
theorem dX1_takeBack_70 : decode cX1_takeBack 70 = .ok (.iinc 4 1, 3) := by decide +kernel
theorem dX1_takeBack_73 : decode cX1_takeBack 73 = .ok (.goto (-50), 3) := by decide +kernel
theorem dX1_takeBack_76 : decode cX1_takeBack 76 = .ok (.iload_n 2, 1) := by decide +kernel
theorem dX1_takeBack_77 : decode cX1_takeBack 77 = .ok (.ireturn, 1) := by decide +kernel
theorem dX1_best_0 : decode cX1_best 0 = .ok (.aload_n 0, 1) := by decide +kernel
theorem dX1_best_1 : decode cX1_best 1 = .ok (.getfield 11, 3) := by decide +kernel
theorem dX1_best_4 : decode cX1_best 4 = .ok (.bipush 6, 2) := by decide +kernel
theorem dX1_best_6 : decode cX1_best 6 = .ok (.invokestatic 32, 3) := by decide +kernel
theorem dX1_best_9 : decode cX1_best 9 = .ok (.istore_n 1, 1) := by decide +kernel
theorem dX1_best_10 : decode cX1_best 10 = .ok (.iload_n 1, 1) := by decide +kernel
theorem dX1_best_11 : decode cX1_best 11 = .ok (.aload_n 0, 1) := by decide +kernel
theorem dX1_best_12 : decode cX1_best 12 = .ok (.getfield 11, 3) := by decide +kernel
theorem dX1_best_15 : decode cX1_best 15 = .ok (.bipush 13, 2) := by decide +kernel
theorem dX1_best_17 : decode cX1_best 17 = .ok (.invokestatic 32, 3) := by decide +kernel
theorem dX1_best_20 : decode cX1_best 20 = .ok (.if_icmp .ne 7, 3) := by decide +kernel
theorem dX1_best_23 : decode cX1_best 23 = .ok (.iload_n 1, 1) := by decide +kernel
theorem dX1_best_24 : decode cX1_best 24 = .ok (.goto 12, 3) := by decide +kernel
theorem dX1_best_27 : decode cX1_best 27 = .ok (.aload_n 0, 1) := by decide +kernel
theorem dX1_best_28 : decode cX1_best 28 = .ok (.getfield 11, 3) := by decide +kernel
theorem dX1_best_31 : decode cX1_best 31 = .ok (.bipush 14, 2) := by decide +kernel
theorem dX1_best_33 : decode cX1_best 33 = .ok (.invokestatic 32, 3) := by decide +kernel
theorem dX1_best_36 : decode cX1_best 36 = .ok (.ireturn, 1) := by decide +kernel
theorem dX1_setLawns_0 : decode cX1_setLawns 0 = .ok (.aload_n 0, 1) := by decide +kernel
theorem dX1_setLawns_1 : decode cX1_setLawns 1 = .ok (.invokevirtual 63, 3) := by decide +kernel
theorem dX1_setLawns_4 : decode cX1_setLawns 4 = .ok (.ifCond .le 6, 3) := by decide +kernel
theorem dX1_setLawns_7 : decode cX1_setLawns 7 = .ok (.bipush (-2), 2) := by decide +kernel
theorem dX1_setLawns_9 : decode cX1_setLawns 9 = .ok (.ireturn, 1) := by decide +kernel
theorem dX1_setLawns_10 : decode cX1_setLawns 10 = .ok (.aload_n 0, 1) := by decide +kernel
theorem dX1_setLawns_11 : decode cX1_setLawns 11 = .ok (.getfield 18, 3) := by decide +kernel
theorem dX1_setLawns_14 : decode cX1_setLawns 14 = .ok (.istore_n 2, 1) := by decide +kernel
theorem dX1_setLawns_15 : decode cX1_setLawns 15 = .ok (.aload_n 0, 1) := by decide +kernel
theorem dX1_setLawns_16 : decode cX1_setLawns 16 = .ok (.iload_n 1, 1) := by decide +kernel
theorem dX1_setLawns_17 : decode cX1_setLawns 17 = .ok (.putfield 18, 3) := by decide +kernel
theorem dX1_setLawns_20 : decode cX1_setLawns 20 = .ok (.iload_n 2, 1) := by decide +kernel
theorem dX1_setLawns_21 : decode cX1_setLawns 21 = .ok (.ireturn, 1) := by decide +kernel
theorem dX1_laid_0 : decode cX1_laid 0 = .ok (.iconst 0, 1) := by decide +kernel
theorem dX1_laid_1 : decode cX1_laid 1 = .ok (.istore_n 1, 1) := by decide +kernel
theorem dX1_laid_2 : decode cX1_laid 2 = .ok (.iconst 0, 1) := by decide +kernel
theorem dX1_laid_3 : decode cX1_laid 3 = .ok (.istore_n 2, 1) := by decide +kernel
theorem dX1_laid_4 : decode cX1_laid 4 = .ok (.iload_n 2, 1) := by decide +kernel
theorem dX1_laid_5 : decode cX1_laid 5 = .ok (.bipush 15, 2) := by decide +kernel
theorem dX1_laid_7 : decode cX1_laid 7 = .ok (.if_icmp .ge 25, 3) := by decide +kernel
theorem dX1_laid_10 : decode cX1_laid 10 = .ok (.aload_n 0, 1) := by decide +kernel
theorem dX1_laid_11 : decode cX1_laid 11 = .ok (.getfield 15, 3) := by decide +kernel
theorem dX1_laid_14 : decode cX1_laid 14 = .ok (.iload_n 2, 1) := by decide +kernel
theorem dX1_laid_15 : decode cX1_laid 15 = .ok (.invokestatic 32, 3) := by decide +kernel
theorem dX1_laid_18 : decode cX1_laid 18 = .ok (.bipush (-4), 2) := by decide +kernel
theorem dX1_laid_20 : decode cX1_laid 20 = .ok (.if_icmp .eq 6, 3) := by decide +kernel
theorem dX1_laid_23 : decode cX1_laid 23 = .ok (.iinc 1 1, 3) := by decide +kernel
theorem dX1_laid_26 : decode cX1_laid 26 = .ok (.iinc 2 1, 3) := by decide +kernel
theorem dX1_laid_29 : decode cX1_laid 29 = .ok (.goto (-25), 3) := by decide +kernel
theorem dX1_laid_32 : decode cX1_laid 32 = .ok (.iload_n 1, 1) := by decide +kernel
theorem dX1_laid_33 : decode cX1_laid 33 = .ok (.ireturn, 1) := by decide +kernel
theorem dX1_hourOf_0 : decode cX1_hourOf 0 = .ok (.aload_n 0, 1) := by decide +kernel
theorem dX1_hourOf_1 : decode cX1_hourOf 1 = .ok (.getfield 15, 3) := by decide +kernel
theorem dX1_hourOf_4 : decode cX1_hourOf 4 = .ok (.iload_n 1, 1) := by decide +kernel
theorem dX1_hourOf_5 : decode cX1_hourOf 5 = .ok (.invokestatic 32, 3) := by decide +kernel
theorem dX1_hourOf_8 : decode cX1_hourOf 8 = .ok (.ireturn, 1) := by decide +kernel
theorem dX1_place_0 : decode cX1_place 0 = .ok (.aload_n 0, 1) := by decide +kernel
theorem dX1_place_1 : decode cX1_place 1 = .ok (.getfield 15, 3) := by decide +kernel
theorem dX1_place_4 : decode cX1_place 4 = .ok (.iload_n 1, 1) := by decide +kernel
theorem dX1_place_5 : decode cX1_place 5 = .ok (.invokestatic 32, 3) := by decide +kernel
theorem dX1_place_8 : decode cX1_place 8 = .ok (.bipush (-4), 2) := by decide +kernel
theorem dX1_place_10 : decode cX1_place 10 = .ok (.if_icmp .eq 6, 3) := by decide +kernel
theorem dX1_place_13 : decode cX1_place 13 = .ok (.bipush (-2), 2) := by decide +kernel
theorem dX1_place_15 : decode cX1_place 15 = .ok (.ireturn, 1) := by decide +kernel
theorem dX1_place_16 : decode cX1_place 16 = .ok (.iconst 0, 1) := by decide +kernel
theorem dX1_place_17 : decode cX1_place 17 = .ok (.istore_n 2, 1) := by decide +kernel
theorem dX1_place_18 : decode cX1_place 18 = .ok (.getstatic 40, 3) := by decide +kernel
theorem dX1_place_21 : decode cX1_place 21 = .ok (.iload_n 1, 1) := by decide +kernel
theorem dX1_place_22 : decode cX1_place 22 = .ok (.invokestatic 32, 3) := by decide +kernel
theorem dX1_place_25 : decode cX1_place 25 = .ok (.istore_n 3, 1) := by decide +kernel
theorem dX1_place_26 : decode cX1_place 26 = .ok (.iload_n 3, 1) := by decide +kernel
theorem dX1_place_27 : decode cX1_place 27 = .ok (.bipush (-4), 2) := by decide +kernel
theorem dX1_place_29 : decode cX1_place 29 = .ok (.if_icmp .eq 56, 3) := by decide +kernel
theorem dX1_place_32 : decode cX1_place 32 = .ok (.aload_n 0, 1) := by decide +kernel
theorem dX1_place_33 : decode cX1_place 33 = .ok (.getfield 15, 3) := by decide +kernel
theorem dX1_place_36 : decode cX1_place 36 = .ok (.iload_n 3, 1) := by decide +kernel
theorem dX1_place_37 : decode cX1_place 37 = .ok (.invokestatic 32, 3) := by decide +kernel
theorem dX1_place_40 : decode cX1_place 40 = .ok (.istore 4, 2) := by decide +kernel
theorem dX1_place_42 : decode cX1_place 42 = .ok (.aload_n 0, 1) := by decide +kernel
theorem dX1_place_43 : decode cX1_place 43 = .ok (.getfield 15, 3) := by decide +kernel
theorem dX1_place_46 : decode cX1_place 46 = .ok (.getstatic 43, 3) := by decide +kernel
theorem dX1_place_49 : decode cX1_place 49 = .ok (.iload_n 1, 1) := by decide +kernel
theorem dX1_place_50 : decode cX1_place 50 = .ok (.invokestatic 32, 3) := by decide +kernel
theorem dX1_place_53 : decode cX1_place 53 = .ok (.invokestatic 32, 3) := by decide +kernel
theorem dX1_place_56 : decode cX1_place 56 = .ok (.istore 5, 2) := by decide +kernel
theorem dX1_place_58 : decode cX1_place 58 = .ok (.iload 4, 2) := by decide +kernel
theorem dX1_place_60 : decode cX1_place 60 = .ok (.bipush (-4), 2) := by decide +kernel
theorem dX1_place_62 : decode cX1_place 62 = .ok (.if_icmp .eq 10, 3) := by decide +kernel
theorem dX1_place_65 : decode cX1_place 65 = .ok (.iload 5, 2) := by decide +kernel
theorem dX1_place_67 : decode cX1_place 67 = .ok (.bipush (-4), 2) := by decide +kernel
theorem dX1_place_69 : decode cX1_place 69 = .ok (.if_icmp .ne 6, 3) := by decide +kernel
theorem dX1_place_72 : decode cX1_place 72 = .ok (.bipush (-2), 2) := by decide +kernel
theorem dX1_place_74 : decode cX1_place 74 = .ok (.ireturn, 1) := by decide +kernel
theorem dX1_place_75 : decode cX1_place 75 = .ok (.iload 4, 2) := by decide +kernel
theorem dX1_place_77 : decode cX1_place 77 = .ok (.iload 5, 2) := by decide +kernel
theorem dX1_place_79 : decode cX1_place 79 = .ok (.invokestatic 67, 3) := by decide +kernel
theorem dX1_place_82 : decode cX1_place 82 = .ok (.iconst 1, 1) := by decide +kernel
theorem dX1_place_83 : decode cX1_place 83 = .ok (.iadd, 1) := by decide +kernel
theorem dX1_place_84 : decode cX1_place 84 = .ok (.istore_n 2, 1) := by decide +kernel
theorem dX1_place_85 : decode cX1_place 85 = .ok (.iload_n 2, 1) := by decide +kernel
theorem dX1_place_86 : decode cX1_place 86 = .ok (.bipush 15, 2) := by decide +kernel
theorem dX1_place_88 : decode cX1_place 88 = .ok (.if_icmp .ge 18, 3) := by decide +kernel
theorem dX1_place_91 : decode cX1_place 91 = .ok (.aload_n 0, 1) := by decide +kernel
theorem dX1_place_92 : decode cX1_place 92 = .ok (.iload_n 1, 1) := by decide +kernel
theorem dX1_place_93 : decode cX1_place 93 = .ok (.iload_n 2, 1) := by decide +kernel
theorem dX1_place_94 : decode cX1_place 94 = .ok (.invokevirtual 72, 3) := by decide +kernel
theorem dX1_place_97 : decode cX1_place 97 = .ok (.ifCond .ne 9, 3) := by decide +kernel
theorem dX1_place_100 : decode cX1_place 100 = .ok (.iinc 2 1, 3) := by decide +kernel
theorem dX1_place_103 : decode cX1_place 103 = .ok (.goto (-18), 3) := by decide +kernel
theorem dX1_place_106 : decode cX1_place 106 = .ok (.aload_n 0, 1) := by decide +kernel
theorem dX1_place_107 : decode cX1_place 107 = .ok (.getfield 15, 3) := by decide +kernel
theorem dX1_place_110 : decode cX1_place 110 = .ok (.iload_n 1, 1) := by decide +kernel
theorem dX1_place_111 : decode cX1_place 111 = .ok (.iload_n 2, 1) := by decide +kernel
theorem dX1_place_112 : decode cX1_place 112 = .ok (.invokestatic 56, 3) := by decide +kernel
theorem dX1_place_115 : decode cX1_place 115 = .ok (.iload_n 2, 1) := by decide +kernel
theorem dX1_place_116 : decode cX1_place 116 = .ok (.ireturn, 1) := by decide +kernel
theorem dX1_isFree_0 : decode cX1_isFree 0 = .ok (.iconst 0, 1) := by decide +kernel
theorem dX1_isFree_1 : decode cX1_isFree 1 = .ok (.istore_n 3, 1) := by decide +kernel
theorem dX1_isFree_2 : decode cX1_isFree 2 = .ok (.iconst 0, 1) := by decide +kernel
theorem dX1_isFree_3 : decode cX1_isFree 3 = .ok (.istore 4, 2) := by decide +kernel
theorem dX1_isFree_5 : decode cX1_isFree 5 = .ok (.iload 4, 2) := by decide +kernel
theorem dX1_isFree_7 : decode cX1_isFree 7 = .ok (.bipush 15, 2) := by decide +kernel
theorem dX1_isFree_9 : decode cX1_isFree 9 = .ok (.if_icmp .ge 57, 3) := by decide +kernel
theorem dX1_isFree_12 : decode cX1_isFree 12 = .ok (.aload_n 0, 1) := by decide +kernel
theorem dX1_isFree_13 : decode cX1_isFree 13 = .ok (.getfield 15, 3) := by decide +kernel
theorem dX1_isFree_16 : decode cX1_isFree 16 = .ok (.iload 4, 2) := by decide +kernel
theorem dX1_isFree_18 : decode cX1_isFree 18 = .ok (.invokestatic 32, 3) := by decide +kernel
theorem dX1_isFree_21 : decode cX1_isFree 21 = .ok (.iload_n 2, 1) := by decide +kernel
theorem dX1_isFree_22 : decode cX1_isFree 22 = .ok (.if_icmp .ne 38, 3) := by decide +kernel
theorem dX1_isFree_25 : decode cX1_isFree 25 = .ok (.aload_n 0, 1) := by decide +kernel
theorem dX1_isFree_26 : decode cX1_isFree 26 = .ok (.iload 4, 2) := by decide +kernel
theorem dX1_isFree_28 : decode cX1_isFree 28 = .ok (.aload_n 0, 1) := by decide +kernel
theorem dX1_isFree_29 : decode cX1_isFree 29 = .ok (.iload_n 1, 1) := by decide +kernel
theorem dX1_isFree_30 : decode cX1_isFree 30 = .ok (.iconst 0, 1) := by decide +kernel
theorem dX1_isFree_31 : decode cX1_isFree 31 = .ok (.invokevirtual 52, 3) := by decide +kernel
theorem dX1_isFree_34 : decode cX1_isFree 34 = .ok (.invokevirtual 76, 3) := by decide +kernel
theorem dX1_isFree_37 : decode cX1_isFree 37 = .ok (.ifCond .ne 18, 3) := by decide +kernel
theorem dX1_isFree_40 : decode cX1_isFree 40 = .ok (.aload_n 0, 1) := by decide +kernel
theorem dX1_isFree_41 : decode cX1_isFree 41 = .ok (.iload 4, 2) := by decide +kernel
theorem dX1_isFree_43 : decode cX1_isFree 43 = .ok (.aload_n 0, 1) := by decide +kernel
theorem dX1_isFree_44 : decode cX1_isFree 44 = .ok (.iload_n 1, 1) := by decide +kernel
theorem dX1_isFree_45 : decode cX1_isFree 45 = .ok (.iconst 1, 1) := by decide +kernel
theorem dX1_isFree_46 : decode cX1_isFree 46 = .ok (.invokevirtual 52, 3) := by decide +kernel
theorem dX1_isFree_49 : decode cX1_isFree 49 = .ok (.invokevirtual 76, 3) := by decide +kernel
theorem dX1_isFree_52 : decode cX1_isFree 52 = .ok (.ifCond .eq 5, 3) := by decide +kernel
theorem dX1_isFree_55 : decode cX1_isFree 55 = .ok (.iconst 0, 1) := by decide +kernel
theorem dX1_isFree_56 : decode cX1_isFree 56 = .ok (.ireturn, 1) := by decide +kernel
theorem dX1_isFree_57 : decode cX1_isFree 57 = .ok (.iinc 3 1, 3) := by decide +kernel
theorem dX1_isFree_60 : decode cX1_isFree 60 = .ok (.iinc 4 1, 3) := by decide +kernel
theorem dX1_isFree_63 : decode cX1_isFree 63 = .ok (.goto (-58), 3) := by decide +kernel
theorem dX1_isFree_66 : decode cX1_isFree 66 = .ok (.iload_n 3, 1) := by decide +kernel
theorem dX1_isFree_67 : decode cX1_isFree 67 = .ok (.aload_n 0, 1) := by decide +kernel
theorem dX1_isFree_68 : decode cX1_isFree 68 = .ok (.getfield 18, 3) := by decide +kernel
theorem dX1_isFree_71 : decode cX1_isFree 71 = .ok (.if_icmp .ge 7, 3) := by decide +kernel
theorem dX1_isFree_74 : decode cX1_isFree 74 = .ok (.iconst 1, 1) := by decide +kernel
theorem dX1_isFree_75 : decode cX1_isFree 75 = .ok (.goto 4, 3) := by decide +kernel
theorem dX1_isFree_78 : decode cX1_isFree 78 = .ok (.iconst 0, 1) := by decide +kernel
theorem dX1_isFree_79 : decode cX1_isFree 79 = .ok (.ireturn, 1) := by decide +kernel
theorem dX1_plays_0 : decode cX1_plays 0 = .ok (.iload_n 2, 1) := by decide +kernel
theorem dX1_plays_1 : decode cX1_plays 1 = .ok (.bipush (-4), 2) := by decide +kernel
theorem dX1_plays_3 : decode cX1_plays 3 = .ok (.if_icmp .eq 27, 3) := by decide +kernel
theorem dX1_plays_6 : decode cX1_plays 6 = .ok (.iload_n 2, 1) := by decide +kernel
theorem dX1_plays_7 : decode cX1_plays 7 = .ok (.aload_n 0, 1) := by decide +kernel
theorem dX1_plays_8 : decode cX1_plays 8 = .ok (.iload_n 1, 1) := by decide +kernel
theorem dX1_plays_9 : decode cX1_plays 9 = .ok (.iconst 0, 1) := by decide +kernel
theorem dX1_plays_10 : decode cX1_plays 10 = .ok (.invokevirtual 52, 3) := by decide +kernel
theorem dX1_plays_13 : decode cX1_plays 13 = .ok (.if_icmp .eq 13, 3) := by decide +kernel
theorem dX1_plays_16 : decode cX1_plays 16 = .ok (.iload_n 2, 1) := by decide +kernel
theorem dX1_plays_17 : decode cX1_plays 17 = .ok (.aload_n 0, 1) := by decide +kernel
theorem dX1_plays_18 : decode cX1_plays 18 = .ok (.iload_n 1, 1) := by decide +kernel
theorem dX1_plays_19 : decode cX1_plays 19 = .ok (.iconst 1, 1) := by decide +kernel
theorem dX1_plays_20 : decode cX1_plays 20 = .ok (.invokevirtual 52, 3) := by decide +kernel
theorem dX1_plays_23 : decode cX1_plays 23 = .ok (.if_icmp .ne 7, 3) := by decide +kernel
theorem dX1_plays_26 : decode cX1_plays 26 = .ok (.iconst 1, 1) := by decide +kernel
theorem dX1_plays_27 : decode cX1_plays 27 = .ok (.goto 4, 3) := by decide +kernel
theorem dX1_plays_30 : decode cX1_plays 30 = .ok (.iconst 0, 1) := by decide +kernel
theorem dX1_plays_31 : decode cX1_plays 31 = .ok (.ireturn, 1) := by decide +kernel
theorem dX1_liftAll_0 : decode cX1_liftAll 0 = .ok (.aload_n 0, 1) := by decide +kernel
theorem dX1_liftAll_1 : decode cX1_liftAll 1 = .ok (.invokevirtual 63, 3) := by decide +kernel
theorem dX1_liftAll_4 : decode cX1_liftAll 4 = .ok (.istore_n 1, 1) := by decide +kernel
theorem dX1_liftAll_5 : decode cX1_liftAll 5 = .ok (.aload_n 0, 1) := by decide +kernel
theorem dX1_liftAll_6 : decode cX1_liftAll 6 = .ok (.getfield 15, 3) := by decide +kernel
theorem dX1_liftAll_9 : decode cX1_liftAll 9 = .ok (.bipush (-4), 2) := by decide +kernel
theorem dX1_liftAll_11 : decode cX1_liftAll 11 = .ok (.invokestatic 22, 3) := by decide +kernel
theorem dX1_liftAll_14 : decode cX1_liftAll 14 = .ok (.iload_n 1, 1) := by decide +kernel
theorem dX1_liftAll_15 : decode cX1_liftAll 15 = .ok (.ireturn, 1) := by decide +kernel
theorem dX2_init_0 : decode cX2_init 0 = .ok (.aload_n 0, 1) := by decide +kernel
theorem dX2_init_1 : decode cX2_init 1 = .ok (.invokespecial 3, 3) := by decide +kernel
theorem dX2_init_4 : decode cX2_init 4 = .ok (.aload_n 0, 1) := by decide +kernel
theorem dX2_init_5 : decode cX2_init 5 = .ok (.sipush 150, 3) := by decide +kernel
theorem dX2_init_8 : decode cX2_init 8 = .ok (.newarray .int, 2) := by decide +kernel
theorem dX2_init_10 : decode cX2_init 10 = .ok (.putfield 9, 3) := by decide +kernel
theorem dX2_init_13 : decode cX2_init 13 = .ok (.aload_n 0, 1) := by decide +kernel
theorem dX2_init_14 : decode cX2_init 14 = .ok (.sipush 150, 3) := by decide +kernel
theorem dX2_init_17 : decode cX2_init 17 = .ok (.newarray .int, 2) := by decide +kernel
theorem dX2_init_19 : decode cX2_init 19 = .ok (.putfield 15, 3) := by decide +kernel
theorem dX2_init_22 : decode cX2_init 22 = .ok (.aload_n 0, 1) := by decide +kernel
theorem dX2_init_23 : decode cX2_init 23 = .ok (.sipush 150, 3) := by decide +kernel
theorem dX2_init_26 : decode cX2_init 26 = .ok (.newarray .int, 2) := by decide +kernel
theorem dX2_init_28 : decode cX2_init 28 = .ok (.putfield 18, 3) := by decide +kernel
theorem dX2_init_31 : decode cX2_init 31 = .ok (.aload_n 0, 1) := by decide +kernel
theorem dX2_init_32 : decode cX2_init 32 = .ok (.sipush 150, 3) := by decide +kernel
theorem dX2_init_35 : decode cX2_init 35 = .ok (.newarray .int, 2) := by decide +kernel
theorem dX2_init_37 : decode cX2_init 37 = .ok (.putfield 21, 3) := by decide +kernel
theorem dX2_init_40 : decode cX2_init 40 = .ok (.aload_n 0, 1) := by decide +kernel
theorem dX2_init_41 : decode cX2_init 41 = .ok (.sipush 150, 3) := by decide +kernel
theorem dX2_init_44 : decode cX2_init 44 = .ok (.newarray .int, 2) := by decide +kernel
theorem dX2_init_46 : decode cX2_init 46 = .ok (.putfield 24, 3) := by decide +kernel
theorem dX2_init_49 : decode cX2_init 49 = .ok (.aload_n 0, 1) := by decide +kernel
theorem dX2_init_50 : decode cX2_init 50 = .ok (.sipush 151, 3) := by decide +kernel
theorem dX2_init_53 : decode cX2_init 53 = .ok (.newarray .int, 2) := by decide +kernel
theorem dX2_init_55 : decode cX2_init 55 = .ok (.putfield 27, 3) := by decide +kernel
theorem dX2_init_58 : decode cX2_init 58 = .ok (.aload_n 0, 1) := by decide +kernel
theorem dX2_init_59 : decode cX2_init 59 = .ok (.iconst 2, 1) := by decide +kernel
theorem dX2_init_60 : decode cX2_init 60 = .ok (.newarray .int, 2) := by decide +kernel
theorem dX2_init_62 : decode cX2_init 62 = .ok (.putfield 30, 3) := by decide +kernel
theorem dX2_init_65 : decode cX2_init 65 = .ok (.aload_n 0, 1) := by decide +kernel
theorem dX2_init_66 : decode cX2_init 66 = .ok (.new 33, 3) := by decide +kernel
theorem dX2_init_69 : decode cX2_init 69 = .ok (.dup, 1) := by decide +kernel
theorem dX2_init_70 : decode cX2_init 70 = .ok (.invokespecial 35, 3) := by decide +kernel
theorem dX2_init_73 : decode cX2_init 73 = .ok (.putfield 36, 3) := by decide +kernel
theorem dX2_init_76 : decode cX2_init 76 = .ok (.aload_n 0, 1) := by decide +kernel
theorem dX2_init_77 : decode cX2_init 77 = .ok (.new 33, 3) := by decide +kernel
theorem dX2_init_80 : decode cX2_init 80 = .ok (.dup, 1) := by decide +kernel
theorem dX2_init_81 : decode cX2_init 81 = .ok (.invokespecial 35, 3) := by decide +kernel
theorem dX2_init_84 : decode cX2_init 84 = .ok (.putfield 40, 3) := by decide +kernel
theorem dX2_init_87 : decode cX2_init 87 = .ok (.return_, 1) := by decide +kernel
theorem dX2_begin_0 : decode cX2_begin 0 = .ok (.aload_n 0, 1) := by decide +kernel
theorem dX2_begin_1 : decode cX2_begin 1 = .ok (.getfield 30, 3) := by decide +kernel
theorem dX2_begin_4 : decode cX2_begin 4 = .ok (.iconst 0, 1) := by decide +kernel
theorem dX2_begin_5 : decode cX2_begin 5 = .ok (.iload_n 1, 1) := by decide +kernel
theorem dX2_begin_6 : decode cX2_begin 6 = .ok (.invokestatic 43, 3) := by decide +kernel
theorem dX2_begin_9 : decode cX2_begin 9 = .ok (.aload_n 0, 1) := by decide +kernel
theorem dX2_begin_10 : decode cX2_begin 10 = .ok (.getfield 30, 3) := by decide +kernel
theorem dX2_begin_13 : decode cX2_begin 13 = .ok (.iconst 1, 1) := by decide +kernel
theorem dX2_begin_14 : decode cX2_begin 14 = .ok (.iload_n 2, 1) := by decide +kernel
theorem dX2_begin_15 : decode cX2_begin 15 = .ok (.invokestatic 43, 3) := by decide +kernel
theorem dX2_begin_18 : decode cX2_begin 18 = .ok (.aload_n 0, 1) := by decide +kernel
theorem dX2_begin_19 : decode cX2_begin 19 = .ok (.iload_n 3, 1) := by decide +kernel
theorem dX2_begin_20 : decode cX2_begin 20 = .ok (.putfield 47, 3) := by decide +kernel
theorem dX2_begin_23 : decode cX2_begin 23 = .ok (.aload_n 0, 1) := by decide +kernel
theorem dX2_begin_24 : decode cX2_begin 24 = .ok (.iload 4, 2) := by decide +kernel
theorem dX2_begin_26 : decode cX2_begin 26 = .ok (.putfield 51, 3) := by decide +kernel
theorem dX2_begin_29 : decode cX2_begin 29 = .ok (.aload_n 0, 1) := by decide +kernel
theorem dX2_begin_30 : decode cX2_begin 30 = .ok (.iconst 1, 1) := by decide +kernel
theorem dX2_begin_31 : decode cX2_begin 31 = .ok (.putfield 54, 3) := by decide +kernel
theorem dX2_begin_34 : decode cX2_begin 34 = .ok (.aload_n 0, 1) := by decide +kernel
theorem dX2_begin_35 : decode cX2_begin 35 = .ok (.iconst 0, 1) := by decide +kernel
theorem dX2_begin_36 : decode cX2_begin 36 = .ok (.putfield 58, 3) := by decide +kernel
theorem dX2_begin_39 : decode cX2_begin 39 = .ok (.aload_n 0, 1) := by decide +kernel
theorem dX2_begin_40 : decode cX2_begin 40 = .ok (.getfield 27, 3) := by decide +kernel
theorem dX2_begin_43 : decode cX2_begin 43 = .ok (.iconst 0, 1) := by decide +kernel
theorem dX2_begin_44 : decode cX2_begin 44 = .ok (.iconst 0, 1) := by decide +kernel
theorem dX2_begin_45 : decode cX2_begin 45 = .ok (.invokestatic 43, 3) := by decide +kernel
theorem dX2_begin_48 : decode cX2_begin 48 = .ok (.aload_n 0, 1) := by decide +kernel
theorem dX2_begin_49 : decode cX2_begin 49 = .ok (.getfield 36, 3) := by decide +kernel
theorem dX2_begin_52 : decode cX2_begin 52 = .ok (.aload_n 0, 1) := by decide +kernel
theorem dX2_begin_53 : decode cX2_begin 53 = .ok (.getfield 47, 3) := by decide +kernel
theorem dX2_begin_56 : decode cX2_begin 56 = .ok (.aload_n 0, 1) := by decide +kernel
theorem dX2_begin_57 : decode cX2_begin 57 = .ok (.getfield 51, 3) := by decide +kernel
theorem dX2_begin_60 : decode cX2_begin 60 = .ok (.invokevirtual 61, 3) := by decide +kernel
theorem dX2_begin_63 : decode cX2_begin 63 = .ok (.return_, 1) := by decide +kernel
theorem dX2_end_0 : decode cX2_end 0 = .ok (.aload_n 0, 1) := by decide +kernel
theorem dX2_end_1 : decode cX2_end 1 = .ok (.iconst 0, 1) := by decide +kernel
theorem dX2_end_2 : decode cX2_end 2 = .ok (.putfield 54, 3) := by decide +kernel
theorem dX2_end_5 : decode cX2_end 5 = .ok (.aload_n 0, 1) := by decide +kernel
theorem dX2_end_6 : decode cX2_end 6 = .ok (.iconst 0, 1) := by decide +kernel
theorem dX2_end_7 : decode cX2_end 7 = .ok (.putfield 58, 3) := by decide +kernel
theorem dX2_end_10 : decode cX2_end 10 = .ok (.return_, 1) := by decide +kernel
theorem dX2_winner_0 : decode cX2_winner 0 = .ok (.aload_n 0, 1) := by decide +kernel
theorem dX2_winner_1 : decode cX2_winner 1 = .ok (.getfield 54, 3) := by decide +kernel
theorem dX2_winner_4 : decode cX2_winner 4 = .ok (.ifCond .eq 13, 3) := by decide +kernel
theorem dX2_winner_7 : decode cX2_winner 7 = .ok (.aload_n 0, 1) := by decide +kernel
theorem dX2_winner_8 : decode cX2_winner 8 = .ok (.getfield 36, 3) := by decide +kernel
theorem dX2_winner_11 : decode cX2_winner 11 = .ok (.invokevirtual 65, 3) := by decide +kernel
theorem dX2_winner_14 : decode cX2_winner 14 = .ok (.goto 5, 3) := by decide +kernel
theorem dX2_winner_17 : decode cX2_winner 17 = .ok (.bipush (-4), 2) := by decide +kernel
theorem dX2_winner_19 : decode cX2_winner 19 = .ok (.ireturn, 1) := by decide +kernel
theorem dX2_playerOf_0 : decode cX2_playerOf 0 = .ok (.aload_n 0, 1) := by decide +kernel
theorem dX2_playerOf_1 : decode cX2_playerOf 1 = .ok (.getfield 30, 3) := by decide +kernel
theorem dX2_playerOf_4 : decode cX2_playerOf 4 = .ok (.iload_n 1, 1) := by decide +kernel
theorem dX2_playerOf_5 : decode cX2_playerOf 5 = .ok (.invokestatic 69, 3) := by decide +kernel
theorem dX2_playerOf_8 : decode cX2_playerOf 8 = .ok (.ireturn, 1) := by decide +kernel
theorem dX2_take_0 : decode cX2_take 0 = .ok (.aload_n 0, 1) := by decide +kernel
theorem dX2_take_1 : decode cX2_take 1 = .ok (.getfield 54, 3) := by decide +kernel
theorem dX2_take_4 : decode cX2_take 4 = .ok (.ifCond .eq 15, 3) := by decide +kernel
theorem dX2_take_7 : decode cX2_take 7 = .ok (.aload_n 0, 1) := by decide +kernel
theorem dX2_take_8 : decode cX2_take 8 = .ok (.getfield 36, 3) := by decide +kernel
theorem dX2_take_11 : decode cX2_take 11 = .ok (.iload_n 1, 1) := by decide +kernel
theorem dX2_take_12 : decode cX2_take 12 = .ok (.iload_n 2, 1) := by decide +kernel
theorem dX2_take_13 : decode cX2_take 13 = .ok (.invokevirtual 73, 3) := by decide +kernel
theorem dX2_take_16 : decode cX2_take 16 = .ok (.ifCond .ne 6, 3) := by decide +kernel
theorem dX2_take_19 : decode cX2_take 19 = .ok (.bipush (-2), 2) := by decide +kernel
theorem dX2_take_21 : decode cX2_take 21 = .ok (.ireturn, 1) := by decide +kernel
theorem dX2_take_22 : decode cX2_take 22 = .ok (.aload_n 0, 1) := by decide +kernel
theorem dX2_take_23 : decode cX2_take 23 = .ok (.getfield 58, 3) := by decide +kernel
theorem dX2_take_26 : decode cX2_take 26 = .ok (.sipush 150, 3) := by decide +kernel
theorem dX2_take_29 : decode cX2_take 29 = .ok (.if_icmp .lt 6, 3) := by decide +kernel
theorem dX2_take_32 : decode cX2_take 32 = .ok (.bipush (-3), 2) := by decide +kernel
theorem dX2_take_34 : decode cX2_take 34 = .ok (.ireturn, 1) := by decide +kernel
theorem dX2_take_35 : decode cX2_take 35 = .ok (.aload_n 0, 1) := by decide +kernel
theorem dX2_take_36 : decode cX2_take 36 = .ok (.getfield 58, 3) := by decide +kernel
theorem dX2_take_39 : decode cX2_take 39 = .ok (.istore_n 3, 1) := by decide +kernel
theorem dX2_take_40 : decode cX2_take 40 = .ok (.aload_n 0, 1) := by decide +kernel
theorem dX2_take_41 : decode cX2_take 41 = .ok (.getfield 9, 3) := by decide +kernel
theorem dX2_take_44 : decode cX2_take 44 = .ok (.iload_n 3, 1) := by decide +kernel
theorem dX2_take_45 : decode cX2_take 45 = .ok (.iload_n 1, 1) := by decide +kernel
theorem dX2_take_46 : decode cX2_take 46 = .ok (.invokestatic 43, 3) := by decide +kernel
theorem dX2_take_49 : decode cX2_take 49 = .ok (.aload_n 0, 1) := by decide +kernel
theorem dX2_take_50 : decode cX2_take 50 = .ok (.getfield 15, 3) := by decide +kernel
theorem dX2_take_53 : decode cX2_take 53 = .ok (.iload_n 3, 1) := by decide +kernel
theorem dX2_take_54 : decode cX2_take 54 = .ok (.iload_n 2, 1) := by decide +kernel
theorem dX2_take_55 : decode cX2_take 55 = .ok (.invokestatic 43, 3) := by decide +kernel
theorem dX2_take_58 : decode cX2_take 58 = .ok (.aload_n 0, 1) := by decide +kernel
theorem dX2_take_59 : decode cX2_take 59 = .ok (.getfield 24, 3) := by decide +kernel
theorem dX2_take_62 : decode cX2_take 62 = .ok (.iload_n 3, 1) := by decide +kernel
theorem dX2_take_63 : decode cX2_take 63 = .ok (.aload_n 0, 1) := by decide +kernel
theorem dX2_take_64 : decode cX2_take 64 = .ok (.getfield 36, 3) := by decide +kernel
theorem dX2_take_67 : decode cX2_take 67 = .ok (.iload_n 1, 1) := by decide +kernel
theorem dX2_take_68 : decode cX2_take 68 = .ok (.iload_n 2, 1) := by decide +kernel
theorem dX2_take_69 : decode cX2_take 69 = .ok (.invokevirtual 77, 3) := by decide +kernel
theorem dX2_take_72 : decode cX2_take 72 = .ok (.ifCond .eq 7, 3) := by decide +kernel
theorem dX2_take_75 : decode cX2_take 75 = .ok (.iconst 1, 1) := by decide +kernel
theorem dX2_take_76 : decode cX2_take 76 = .ok (.goto 4, 3) := by decide +kernel
theorem dX2_take_79 : decode cX2_take 79 = .ok (.iconst 0, 1) := by decide +kernel
theorem dX2_take_80 : decode cX2_take 80 = .ok (.invokestatic 43, 3) := by decide +kernel
theorem dX2_take_83 : decode cX2_take 83 = .ok (.iload_n 1, 1) := by decide +kernel
theorem dX2_take_84 : decode cX2_take 84 = .ok (.invokestatic 80, 3) := by decide +kernel
theorem dX2_take_87 : decode cX2_take 87 = .ok (.ifCond .ne 8, 3) := by decide +kernel
theorem dX2_take_90 : decode cX2_take 90 = .ok (.aload_n 0, 1) := by decide +kernel
theorem dX2_take_91 : decode cX2_take 91 = .ok (.iload_n 3, 1) := by decide +kernel
theorem dX2_take_92 : decode cX2_take 92 = .ok (.invokevirtual 84, 3) := by decide +kernel
theorem dX2_take_95 : decode cX2_take 95 = .ok (.aload_n 0, 1) := by decide +kernel
theorem dX2_take_96 : decode cX2_take 96 = .ok (.getfield 36, 3) := by decide +kernel
theorem dX2_take_99 : decode cX2_take 99 = .ok (.iload_n 1, 1) := by decide +kernel
theorem dX2_take_100 : decode cX2_take 100 = .ok (.iload_n 2, 1) := by decide +kernel
theorem dX2_take_101 : decode cX2_take 101 = .ok (.invokevirtual 88, 3) := by decide +kernel
theorem dX2_take_104 : decode cX2_take 104 = .ok (.iload_n 1, 1) := by decide +kernel
theorem dX2_take_105 : decode cX2_take 105 = .ok (.invokestatic 80, 3) := by decide +kernel
theorem dX2_take_108 : decode cX2_take 108 = .ok (.ifCond .eq 8, 3) := by decide +kernel
theorem dX2_take_111 : decode cX2_take 111 = .ok (.aload_n 0, 1) := by decide +kernel
theorem dX2_take_112 : decode cX2_take 112 = .ok (.iload_n 3, 1) := by decide +kernel
theorem dX2_take_113 : decode cX2_take 113 = .ok (.invokevirtual 84, 3) := by decide +kernel
theorem dX2_take_116 : decode cX2_take 116 = .ok (.aload_n 0, 1) := by decide +kernel
theorem dX2_take_117 : decode cX2_take 117 = .ok (.iload_n 3, 1) := by decide +kernel
theorem dX2_take_118 : decode cX2_take 118 = .ok (.iconst 1, 1) := by decide +kernel
theorem dX2_take_119 : decode cX2_take 119 = .ok (.iadd, 1) := by decide +kernel
theorem dX2_take_120 : decode cX2_take 120 = .ok (.putfield 58, 3) := by decide +kernel
theorem dX2_take_123 : decode cX2_take 123 = .ok (.aload_n 0, 1) := by decide +kernel
theorem dX2_take_124 : decode cX2_take 124 = .ok (.getfield 27, 3) := by decide +kernel
theorem dX2_take_127 : decode cX2_take 127 = .ok (.aload_n 0, 1) := by decide +kernel
theorem dX2_take_128 : decode cX2_take 128 = .ok (.getfield 58, 3) := by decide +kernel
theorem dX2_take_131 : decode cX2_take 131 = .ok (.iconst 0, 1) := by decide +kernel
theorem dX2_take_132 : decode cX2_take 132 = .ok (.invokestatic 43, 3) := by decide +kernel
theorem dX2_take_135 : decode cX2_take 135 = .ok (.iload_n 3, 1) := by decide +kernel
theorem dX2_take_136 : decode cX2_take 136 = .ok (.ireturn, 1) := by decide +kernel
theorem dX2_begins_0 : decode cX2_begins 0 = .ok (.iload_n 0, 1) := by decide +kernel
theorem dX2_begins_1 : decode cX2_begins 1 = .ok (.ifCond .eq 9, 3) := by decide +kernel
theorem dX2_begins_4 : decode cX2_begins 4 = .ok (.iload_n 0, 1) := by decide +kernel
theorem dX2_begins_5 : decode cX2_begins 5 = .ok (.bipush 6, 2) := by decide +kernel
theorem dX2_begins_7 : decode cX2_begins 7 = .ok (.if_icmp .ne 7, 3) := by decide +kernel
theorem dX2_begins_10 : decode cX2_begins 10 = .ok (.iconst 1, 1) := by decide +kernel
theorem dX2_begins_11 : decode cX2_begins 11 = .ok (.goto 4, 3) := by decide +kernel
theorem dX2_begins_14 : decode cX2_begins 14 = .ok (.iconst 0, 1) := by decide +kernel
theorem dX2_begins_15 : decode cX2_begins 15 = .ok (.ireturn, 1) := by decide +kernel
theorem dX2_noteStriker_0 : decode cX2_noteStriker 0 = .ok (.aload_n 0, 1) := by decide +kernel
theorem dX2_noteStriker_1 : decode cX2_noteStriker 1 = .ok (.getfield 18, 3) := by decide +kernel
theorem dX2_noteStriker_4 : decode cX2_noteStriker 4 = .ok (.iload_n 1, 1) := by decide +kernel
theorem dX2_noteStriker_5 : decode cX2_noteStriker 5 = .ok (.aload_n 0, 1) := by decide +kernel
theorem dX2_noteStriker_6 : decode cX2_noteStriker 6 = .ok (.getfield 36, 3) := by decide +kernel
theorem dX2_noteStriker_9 : decode cX2_noteStriker 9 = .ok (.invokevirtual 91, 3) := by decide +kernel
theorem dX2_noteStriker_12 : decode cX2_noteStriker 12 = .ok (.invokestatic 43, 3) := by decide +kernel
theorem dX2_noteStriker_15 : decode cX2_noteStriker 15 = .ok (.aload_n 0, 1) := by decide +kernel
theorem dX2_noteStriker_16 : decode cX2_noteStriker 16 = .ok (.getfield 21, 3) := by decide +kernel
theorem dX2_noteStriker_19 : decode cX2_noteStriker 19 = .ok (.iload_n 1, 1) := by decide +kernel
theorem dX2_noteStriker_20 : decode cX2_noteStriker 20 = .ok (.aload_n 0, 1) := by decide +kernel
theorem dX2_noteStriker_21 : decode cX2_noteStriker 21 = .ok (.getfield 36, 3) := by decide +kernel
theorem dX2_noteStriker_24 : decode cX2_noteStriker 24 = .ok (.invokevirtual 94, 3) := by decide +kernel
theorem dX2_noteStriker_27 : decode cX2_noteStriker 27 = .ok (.invokestatic 43, 3) := by decide +kernel
theorem dX2_noteStriker_30 : decode cX2_noteStriker 30 = .ok (.return_, 1) := by decide +kernel
theorem dX2_has_0 : decode cX2_has 0 = .ok (.iload_n 1, 1) := by decide +kernel
theorem dX2_has_1 : decode cX2_has 1 = .ok (.ifCond .lt 15, 3) := by decide +kernel
theorem dX2_has_4 : decode cX2_has 4 = .ok (.iload_n 1, 1) := by decide +kernel
theorem dX2_has_5 : decode cX2_has 5 = .ok (.aload_n 0, 1) := by decide +kernel
theorem dX2_has_6 : decode cX2_has 6 = .ok (.getfield 58, 3) := by decide +kernel
theorem dX2_has_9 : decode cX2_has 9 = .ok (.if_icmp .ge 7, 3) := by decide +kernel
theorem dX2_has_12 : decode cX2_has 12 = .ok (.iconst 1, 1) := by decide +kernel
theorem dX2_has_13 : decode cX2_has 13 = .ok (.goto 4, 3) := by decide +kernel
theorem dX2_has_16 : decode cX2_has 16 = .ok (.iconst 0, 1) := by decide +kernel
theorem dX2_has_17 : decode cX2_has 17 = .ok (.ireturn, 1) := by decide +kernel
theorem dX2_tell_0 : decode cX2_tell 0 = .ok (.aload_n 0, 1) := by decide +kernel
theorem dX2_tell_1 : decode cX2_tell 1 = .ok (.iload_n 1, 1) := by decide +kernel
theorem dX2_tell_2 : decode cX2_tell 2 = .ok (.invokevirtual 97, 3) := by decide +kernel
theorem dX2_tell_5 : decode cX2_tell 5 = .ok (.ifCond .ne 6, 3) := by decide +kernel
theorem dX2_tell_8 : decode cX2_tell 8 = .ok (.bipush (-4), 2) := by decide +kernel
theorem dX2_tell_10 : decode cX2_tell 10 = .ok (.ireturn, 1) := by decide +kernel
theorem dX2_tell_11 : decode cX2_tell 11 = .ok (.iload_n 2, 1) := by decide +kernel
theorem dX2_tell_12 : decode cX2_tell 12 = .ok (.tableswitch 55 0 2 #[28, 37, 46], 28) := by decide +kernel
theorem dX2_tell_40 : decode cX2_tell 40 = .ok (.aload_n 0, 1) := by decide +kernel
theorem dX2_tell_41 : decode cX2_tell 41 = .ok (.getfield 9, 3) := by decide +kernel
theorem dX2_tell_44 : decode cX2_tell 44 = .ok (.iload_n 1, 1) := by decide +kernel
theorem dX2_tell_45 : decode cX2_tell 45 = .ok (.invokestatic 69, 3) := by decide +kernel
theorem dX2_tell_48 : decode cX2_tell 48 = .ok (.ireturn, 1) := by decide +kernel
theorem dX2_tell_49 : decode cX2_tell 49 = .ok (.aload_n 0, 1) := by decide +kernel
theorem dX2_tell_50 : decode cX2_tell 50 = .ok (.getfield 18, 3) := by decide +kernel
theorem dX2_tell_53 : decode cX2_tell 53 = .ok (.iload_n 1, 1) := by decide +kernel
theorem dX2_tell_54 : decode cX2_tell 54 = .ok (.invokestatic 69, 3) := by decide +kernel
theorem dX2_tell_57 : decode cX2_tell 57 = .ok (.ireturn, 1) := by decide +kernel
theorem dX2_tell_58 : decode cX2_tell 58 = .ok (.aload_n 0, 1) := by decide +kernel
theorem dX2_tell_59 : decode cX2_tell 59 = .ok (.getfield 21, 3) := by decide +kernel
theorem dX2_tell_62 : decode cX2_tell 62 = .ok (.iload_n 1, 1) := by decide +kernel
theorem dX2_tell_63 : decode cX2_tell 63 = .ok (.invokestatic 69, 3) := by decide +kernel
theorem dX2_tell_66 : decode cX2_tell 66 = .ok (.ireturn, 1) := by decide +kernel
theorem dX2_tell_67 : decode cX2_tell 67 = .ok (.aload_n 0, 1) := by decide +kernel
theorem dX2_tell_68 : decode cX2_tell 68 = .ok (.getfield 24, 3) := by decide +kernel
theorem dX2_tell_71 : decode cX2_tell 71 = .ok (.iload_n 1, 1) := by decide +kernel
theorem dX2_tell_72 : decode cX2_tell 72 = .ok (.invokestatic 69, 3) := by decide +kernel
theorem dX2_tell_75 : decode cX2_tell 75 = .ok (.ireturn, 1) := by decide +kernel
theorem dX2_roqueted_0 : decode cX2_roqueted 0 = .ok (.aload_n 0, 1) := by decide +kernel
theorem dX2_roqueted_1 : decode cX2_roqueted 1 = .ok (.iload_n 1, 1) := by decide +kernel
theorem dX2_roqueted_2 : decode cX2_roqueted 2 = .ok (.invokevirtual 97, 3) := by decide +kernel
theorem dX2_roqueted_5 : decode cX2_roqueted 5 = .ok (.ifCond .ne 5, 3) := by decide +kernel
theorem dX2_roqueted_8 : decode cX2_roqueted 8 = .ok (.iconst (-1), 1) := by decide +kernel
theorem dX2_roqueted_9 : decode cX2_roqueted 9 = .ok (.ireturn, 1) := by decide +kernel
theorem dX2_roqueted_10 : decode cX2_roqueted 10 = .ok (.aload_n 0, 1) := by decide +kernel
theorem dX2_roqueted_11 : decode cX2_roqueted 11 = .ok (.getfield 9, 3) := by decide +kernel
theorem dX2_roqueted_14 : decode cX2_roqueted 14 = .ok (.iload_n 1, 1) := by decide +kernel
theorem dX2_roqueted_15 : decode cX2_roqueted 15 = .ok (.invokestatic 69, 3) := by decide +kernel
theorem dX2_roqueted_18 : decode cX2_roqueted 18 = .ok (.iconst 3, 1) := by decide +kernel
theorem dX2_roqueted_19 : decode cX2_roqueted 19 = .ok (.if_icmp .ne 14, 3) := by decide +kernel
theorem dX2_roqueted_22 : decode cX2_roqueted 22 = .ok (.aload_n 0, 1) := by decide +kernel
theorem dX2_roqueted_23 : decode cX2_roqueted 23 = .ok (.getfield 15, 3) := by decide +kernel
theorem dX2_roqueted_26 : decode cX2_roqueted 26 = .ok (.iload_n 1, 1) := by decide +kernel
theorem dX2_roqueted_27 : decode cX2_roqueted 27 = .ok (.invokestatic 69, 3) := by decide +kernel
theorem dX2_roqueted_30 : decode cX2_roqueted 30 = .ok (.goto 5, 3) := by decide +kernel
theorem dX2_roqueted_33 : decode cX2_roqueted 33 = .ok (.bipush (-13), 2) := by decide +kernel
theorem dX2_roqueted_35 : decode cX2_roqueted 35 = .ok (.ireturn, 1) := by decide +kernel
theorem dX2_asOf_0 : decode cX2_asOf 0 = .ok (.aload_n 0, 1) := by decide +kernel
theorem dX2_asOf_1 : decode cX2_asOf 1 = .ok (.getfield 54, 3) := by decide +kernel
theorem dX2_asOf_4 : decode cX2_asOf 4 = .ok (.ifCond .eq 15, 3) := by decide +kernel
theorem dX2_asOf_7 : decode cX2_asOf 7 = .ok (.iload_n 1, 1) := by decide +kernel
theorem dX2_asOf_8 : decode cX2_asOf 8 = .ok (.ifCond .lt 11, 3) := by decide +kernel
theorem dX2_asOf_11 : decode cX2_asOf 11 = .ok (.iload_n 1, 1) := by decide +kernel
theorem dX2_asOf_12 : decode cX2_asOf 12 = .ok (.aload_n 0, 1) := by decide +kernel
theorem dX2_asOf_13 : decode cX2_asOf 13 = .ok (.getfield 58, 3) := by decide +kernel
theorem dX2_asOf_16 : decode cX2_asOf 16 = .ok (.if_icmp .le 5, 3) := by decide +kernel
theorem dX2_asOf_19 : decode cX2_asOf 19 = .ok (.iconst (-1), 1) := by decide +kernel
theorem dX2_asOf_20 : decode cX2_asOf 20 = .ok (.ireturn, 1) := by decide +kernel
theorem dX2_asOf_21 : decode cX2_asOf 21 = .ok (.aload_n 0, 1) := by decide +kernel
theorem dX2_asOf_22 : decode cX2_asOf 22 = .ok (.aload_n 0, 1) := by decide +kernel
theorem dX2_asOf_23 : decode cX2_asOf 23 = .ok (.getfield 40, 3) := by decide +kernel
theorem dX2_asOf_26 : decode cX2_asOf 26 = .ok (.iload_n 1, 1) := by decide +kernel
theorem dX2_asOf_27 : decode cX2_asOf 27 = .ok (.invokevirtual 100, 3) := by decide +kernel
theorem dX2_asOf_30 : decode cX2_asOf 30 = .ok (.aload_n 0, 1) := by decide +kernel
theorem dX2_asOf_31 : decode cX2_asOf 31 = .ok (.getfield 40, 3) := by decide +kernel
theorem dX2_asOf_34 : decode cX2_asOf 34 = .ok (.iload_n 2, 1) := by decide +kernel
theorem dX2_asOf_35 : decode cX2_asOf 35 = .ok (.invokevirtual 104, 3) := by decide +kernel
theorem dX2_asOf_38 : decode cX2_asOf 38 = .ok (.ireturn, 1) := by decide +kernel
theorem dX2_leadTo_0 : decode cX2_leadTo 0 = .ok (.aload_n 1, 1) := by decide +kernel
theorem dX2_leadTo_1 : decode cX2_leadTo 1 = .ok (.aload_n 0, 1) := by decide +kernel
theorem dX2_leadTo_2 : decode cX2_leadTo 2 = .ok (.getfield 47, 3) := by decide +kernel
theorem dX2_leadTo_5 : decode cX2_leadTo 5 = .ok (.aload_n 0, 1) := by decide +kernel
theorem dX2_leadTo_6 : decode cX2_leadTo 6 = .ok (.getfield 51, 3) := by decide +kernel
theorem dX2_leadTo_9 : decode cX2_leadTo 9 = .ok (.invokevirtual 61, 3) := by decide +kernel
theorem dX2_leadTo_12 : decode cX2_leadTo 12 = .ok (.aload_n 1, 1) := by decide +kernel
theorem dX2_leadTo_13 : decode cX2_leadTo 13 = .ok (.aload_n 0, 1) := by decide +kernel
theorem dX2_leadTo_14 : decode cX2_leadTo 14 = .ok (.getfield 27, 3) := by decide +kernel
theorem dX2_leadTo_17 : decode cX2_leadTo 17 = .ok (.iconst 0, 1) := by decide +kernel
theorem dX2_leadTo_18 : decode cX2_leadTo 18 = .ok (.invokestatic 69, 3) := by decide +kernel
theorem dX2_leadTo_21 : decode cX2_leadTo 21 = .ok (.invokestatic 108, 3) := by decide +kernel
theorem dX2_leadTo_24 : decode cX2_leadTo 24 = .ok (.iconst 0, 1) := by decide +kernel
theorem dX2_leadTo_25 : decode cX2_leadTo 25 = .ok (.istore_n 3, 1) := by decide +kernel
theorem dX2_leadTo_26 : decode cX2_leadTo 26 = .ok (.iload_n 3, 1) := by decide +kernel
theorem dX2_leadTo_27 : decode cX2_leadTo 27 = .ok (.iload_n 2, 1) := by decide +kernel
theorem dX2_leadTo_28 : decode cX2_leadTo 28 = .ok (.if_icmp .ge 51, 3) := by decide +kernel
theorem dX2_leadTo_31 : decode cX2_leadTo 31 = .ok (.iload_n 3, 1) := by decide +kernel
theorem dX2_leadTo_32 : decode cX2_leadTo 32 = .ok (.aload_n 0, 1) := by decide +kernel
theorem dX2_leadTo_33 : decode cX2_leadTo 33 = .ok (.getfield 58, 3) := by decide +kernel
theorem dX2_leadTo_36 : decode cX2_leadTo 36 = .ok (.if_icmp .ge 43, 3) := by decide +kernel
theorem dX2_leadTo_39 : decode cX2_leadTo 39 = .ok (.aload_n 1, 1) := by decide +kernel
theorem dX2_leadTo_40 : decode cX2_leadTo 40 = .ok (.aload_n 0, 1) := by decide +kernel
theorem dX2_leadTo_41 : decode cX2_leadTo 41 = .ok (.getfield 9, 3) := by decide +kernel
theorem dX2_leadTo_44 : decode cX2_leadTo 44 = .ok (.iload_n 3, 1) := by decide +kernel
theorem dX2_leadTo_45 : decode cX2_leadTo 45 = .ok (.invokestatic 69, 3) := by decide +kernel
theorem dX2_leadTo_48 : decode cX2_leadTo 48 = .ok (.aload_n 0, 1) := by decide +kernel
theorem dX2_leadTo_49 : decode cX2_leadTo 49 = .ok (.getfield 15, 3) := by decide +kernel
theorem dX2_leadTo_52 : decode cX2_leadTo 52 = .ok (.iload_n 3, 1) := by decide +kernel
theorem dX2_leadTo_53 : decode cX2_leadTo 53 = .ok (.invokestatic 69, 3) := by decide +kernel
theorem dX2_leadTo_56 : decode cX2_leadTo 56 = .ok (.invokevirtual 88, 3) := by decide +kernel
theorem dX2_leadTo_59 : decode cX2_leadTo 59 = .ok (.aload_n 1, 1) := by decide +kernel
theorem dX2_leadTo_60 : decode cX2_leadTo 60 = .ok (.aload_n 0, 1) := by decide +kernel
theorem dX2_leadTo_61 : decode cX2_leadTo 61 = .ok (.getfield 27, 3) := by decide +kernel
theorem dX2_leadTo_64 : decode cX2_leadTo 64 = .ok (.iload_n 3, 1) := by decide +kernel
theorem dX2_leadTo_65 : decode cX2_leadTo 65 = .ok (.iconst 1, 1) := by decide +kernel
theorem dX2_leadTo_66 : decode cX2_leadTo 66 = .ok (.iadd, 1) := by decide +kernel
theorem dX2_leadTo_67 : decode cX2_leadTo 67 = .ok (.invokestatic 69, 3) := by decide +kernel
theorem dX2_leadTo_70 : decode cX2_leadTo 70 = .ok (.invokestatic 108, 3) := by decide +kernel
theorem dX2_leadTo_73 : decode cX2_leadTo 73 = .ok (.iinc 3 1, 3) := by decide +kernel
theorem dX2_leadTo_76 : decode cX2_leadTo 76 = .ok (.goto (-50), 3) := by decide +kernel
theorem dX2_leadTo_79 : decode cX2_leadTo 79 = .ok (.return_, 1) := by decide +kernel
theorem dX2_obey_0 : decode cX2_obey 0 = .ok (.iload_n 1, 1) := by decide +kernel
theorem dX2_obey_1 : decode cX2_obey 1 = .ok (.iconst 1, 1) := by decide +kernel
theorem dX2_obey_2 : decode cX2_obey 2 = .ok (.if_icmp .ne 10, 3) := by decide +kernel
theorem dX2_obey_5 : decode cX2_obey 5 = .ok (.aload_n 0, 1) := by decide +kernel
theorem dX2_obey_6 : decode cX2_obey 6 = .ok (.invokevirtual 111, 3) := by decide +kernel
theorem dX2_obey_9 : decode cX2_obey 9 = .ok (.goto 15, 3) := by decide +kernel
theorem dX2_obey_12 : decode cX2_obey 12 = .ok (.iload_n 1, 1) := by decide +kernel
theorem dX2_obey_13 : decode cX2_obey 13 = .ok (.iconst 2, 1) := by decide +kernel
theorem dX2_obey_14 : decode cX2_obey 14 = .ok (.if_icmp .lt 10, 3) := by decide +kernel
theorem dX2_obey_17 : decode cX2_obey 17 = .ok (.aload_n 0, 1) := by decide +kernel
theorem dX2_obey_18 : decode cX2_obey 18 = .ok (.iload_n 1, 1) := by decide +kernel
theorem dX2_obey_19 : decode cX2_obey 19 = .ok (.iconst 2, 1) := by decide +kernel
theorem dX2_obey_20 : decode cX2_obey 20 = .ok (.isub, 1) := by decide +kernel
theorem dX2_obey_21 : decode cX2_obey 21 = .ok (.invokevirtual 114, 3) := by decide +kernel
theorem dX2_obey_24 : decode cX2_obey 24 = .ok (.return_, 1) := by decide +kernel
theorem dX2_find_0 : decode cX2_find 0 = .ok (.aload_n 0, 1) := by decide +kernel
theorem dX2_find_1 : decode cX2_find 1 = .ok (.iload_n 1, 1) := by decide +kernel
theorem dX2_find_2 : decode cX2_find 2 = .ok (.invokevirtual 97, 3) := by decide +kernel
theorem dX2_find_5 : decode cX2_find 5 = .ok (.ifCond .ne 5, 3) := by decide +kernel
theorem dX2_find_8 : decode cX2_find 8 = .ok (.iconst (-1), 1) := by decide +kernel
theorem dX2_find_9 : decode cX2_find 9 = .ok (.ireturn, 1) := by decide +kernel
theorem dX2_find_10 : decode cX2_find 10 = .ok (.aload_n 0, 1) := by decide +kernel
theorem dX2_find_11 : decode cX2_find 11 = .ok (.getfield 24, 3) := by decide +kernel
theorem dX2_find_14 : decode cX2_find 14 = .ok (.iload_n 1, 1) := by decide +kernel
theorem dX2_find_15 : decode cX2_find 15 = .ok (.invokestatic 69, 3) := by decide +kernel
theorem dX2_find_18 : decode cX2_find 18 = .ok (.ifCond .ne 6, 3) := by decide +kernel
theorem dX2_find_21 : decode cX2_find 21 = .ok (.bipush (-2), 2) := by decide +kernel
theorem dX2_find_23 : decode cX2_find 23 = .ok (.ireturn, 1) := by decide +kernel
theorem dX2_find_24 : decode cX2_find 24 = .ok (.aload_n 2, 1) := by decide +kernel
theorem dX2_find_25 : decode cX2_find 25 = .ok (.aload_n 0, 1) := by decide +kernel
theorem dX2_find_26 : decode cX2_find 26 = .ok (.getfield 9, 3) := by decide +kernel
theorem dX2_find_29 : decode cX2_find 29 = .ok (.iload_n 1, 1) := by decide +kernel
theorem dX2_find_30 : decode cX2_find 30 = .ok (.invokestatic 69, 3) := by decide +kernel
theorem dX2_find_33 : decode cX2_find 33 = .ok (.aload_n 0, 1) := by decide +kernel
theorem dX2_find_34 : decode cX2_find 34 = .ok (.getfield 58, 3) := by decide +kernel
theorem dX2_find_37 : decode cX2_find 37 = .ok (.iconst 1, 1) := by decide +kernel
theorem dX2_find_38 : decode cX2_find 38 = .ok (.isub, 1) := by decide +kernel
theorem dX2_find_39 : decode cX2_find 39 = .ok (.iload_n 1, 1) := by decide +kernel
theorem dX2_find_40 : decode cX2_find 40 = .ok (.isub, 1) := by decide +kernel
theorem dX2_find_41 : decode cX2_find 41 = .ok (.invokevirtual 117, 3) := by decide +kernel
theorem dX2_find_44 : decode cX2_find 44 = .ok (.istore_n 3, 1) := by decide +kernel
theorem dX2_find_45 : decode cX2_find 45 = .ok (.iload_n 3, 1) := by decide +kernel
theorem dX2_find_46 : decode cX2_find 46 = .ok (.bipush (-4), 2) := by decide +kernel
theorem dX2_find_48 : decode cX2_find 48 = .ok (.if_icmp .ne 6, 3) := by decide +kernel
theorem dX2_find_51 : decode cX2_find 51 = .ok (.bipush (-2), 2) := by decide +kernel
theorem dX2_find_53 : decode cX2_find 53 = .ok (.ireturn, 1) := by decide +kernel
theorem dX2_find_54 : decode cX2_find 54 = .ok (.iload_n 3, 1) := by decide +kernel
theorem dX2_find_55 : decode cX2_find 55 = .ok (.bipush 82, 2) := by decide +kernel
theorem dX2_find_57 : decode cX2_find 57 = .ok (.if_icmp .ne 11, 3) := by decide +kernel
theorem dX2_find_60 : decode cX2_find 60 = .ok (.aload_n 0, 1) := by decide +kernel
theorem dX2_find_61 : decode cX2_find 61 = .ok (.iload_n 1, 1) := by decide +kernel
theorem dX2_find_62 : decode cX2_find 62 = .ok (.invokevirtual 123, 3) := by decide +kernel
theorem dX2_find_65 : decode cX2_find 65 = .ok (.goto 8, 3) := by decide +kernel
theorem dX2_find_68 : decode cX2_find 68 = .ok (.aload_n 0, 1) := by decide +kernel
theorem dX2_find_69 : decode cX2_find 69 = .ok (.iload_n 1, 1) := by decide +kernel
theorem dX2_find_70 : decode cX2_find 70 = .ok (.invokevirtual 126, 3) := by decide +kernel
theorem dX2_find_73 : decode cX2_find 73 = .ok (.ireturn, 1) := by decide +kernel
theorem dX2_takeAway_0 : decode cX2_takeAway 0 = .ok (.aload_n 0, 1) := by decide +kernel
theorem dX2_takeAway_1 : decode cX2_takeAway 1 = .ok (.getfield 27, 3) := by decide +kernel
theorem dX2_takeAway_4 : decode cX2_takeAway 4 = .ok (.iload_n 1, 1) := by decide +kernel
theorem dX2_takeAway_5 : decode cX2_takeAway 5 = .ok (.iconst 3, 1) := by decide +kernel
theorem dX2_takeAway_6 : decode cX2_takeAway 6 = .ok (.aload_n 0, 1) := by decide +kernel
theorem dX2_takeAway_7 : decode cX2_takeAway 7 = .ok (.getfield 21, 3) := by decide +kernel
theorem dX2_takeAway_10 : decode cX2_takeAway 10 = .ok (.iload_n 1, 1) := by decide +kernel
theorem dX2_takeAway_11 : decode cX2_takeAway 11 = .ok (.invokestatic 69, 3) := by decide +kernel
theorem dX2_takeAway_14 : decode cX2_takeAway 14 = .ok (.isub, 1) := by decide +kernel
theorem dX2_takeAway_15 : decode cX2_takeAway 15 = .ok (.invokestatic 43, 3) := by decide +kernel
theorem dX2_takeAway_18 : decode cX2_takeAway 18 = .ok (.aload_n 0, 1) := by decide +kernel
theorem dX2_takeAway_19 : decode cX2_takeAway 19 = .ok (.iload_n 1, 1) := by decide +kernel
theorem dX2_takeAway_20 : decode cX2_takeAway 20 = .ok (.putfield 58, 3) := by decide +kernel
theorem dX2_takeAway_23 : decode cX2_takeAway 23 = .ok (.aload_n 0, 1) := by decide +kernel
theorem dX2_takeAway_24 : decode cX2_takeAway 24 = .ok (.aload_n 0, 1) := by decide +kernel
theorem dX2_takeAway_25 : decode cX2_takeAway 25 = .ok (.getfield 36, 3) := by decide +kernel
theorem dX2_takeAway_28 : decode cX2_takeAway 28 = .ok (.aload_n 0, 1) := by decide +kernel
theorem dX2_takeAway_29 : decode cX2_takeAway 29 = .ok (.getfield 58, 3) := by decide +kernel
theorem dX2_takeAway_32 : decode cX2_takeAway 32 = .ok (.invokevirtual 100, 3) := by decide +kernel
theorem dX2_takeAway_35 : decode cX2_takeAway 35 = .ok (.iconst 1, 1) := by decide +kernel
theorem dX2_takeAway_36 : decode cX2_takeAway 36 = .ok (.ireturn, 1) := by decide +kernel
theorem dX2_stopTurn_0 : decode cX2_stopTurn 0 = .ok (.aload_n 0, 1) := by decide +kernel
theorem dX2_stopTurn_1 : decode cX2_stopTurn 1 = .ok (.getfield 24, 3) := by decide +kernel
theorem dX2_stopTurn_4 : decode cX2_stopTurn 4 = .ok (.iload_n 1, 1) := by decide +kernel
theorem dX2_stopTurn_5 : decode cX2_stopTurn 5 = .ok (.iconst 0, 1) := by decide +kernel
theorem dX2_stopTurn_6 : decode cX2_stopTurn 6 = .ok (.invokestatic 43, 3) := by decide +kernel
theorem dX2_stopTurn_9 : decode cX2_stopTurn 9 = .ok (.aload_n 0, 1) := by decide +kernel
theorem dX2_stopTurn_10 : decode cX2_stopTurn 10 = .ok (.getfield 36, 3) := by decide +kernel
theorem dX2_stopTurn_13 : decode cX2_stopTurn 13 = .ok (.invokevirtual 91, 3) := by decide +kernel
theorem dX2_stopTurn_16 : decode cX2_stopTurn 16 = .ok (.bipush (-4), 2) := by decide +kernel
theorem dX2_stopTurn_18 : decode cX2_stopTurn 18 = .ok (.if_icmp .eq 22, 3) := by decide +kernel
theorem dX2_stopTurn_21 : decode cX2_stopTurn 21 = .ok (.aload_n 0, 1) := by decide +kernel
theorem dX2_stopTurn_22 : decode cX2_stopTurn 22 = .ok (.getfield 27, 3) := by decide +kernel
theorem dX2_stopTurn_25 : decode cX2_stopTurn 25 = .ok (.aload_n 0, 1) := by decide +kernel
theorem dX2_stopTurn_26 : decode cX2_stopTurn 26 = .ok (.getfield 58, 3) := by decide +kernel
theorem dX2_stopTurn_29 : decode cX2_stopTurn 29 = .ok (.iconst 1, 1) := by decide +kernel
theorem dX2_stopTurn_30 : decode cX2_stopTurn 30 = .ok (.invokestatic 43, 3) := by decide +kernel
theorem dX2_stopTurn_33 : decode cX2_stopTurn 33 = .ok (.aload_n 0, 1) := by decide +kernel
theorem dX2_stopTurn_34 : decode cX2_stopTurn 34 = .ok (.getfield 36, 3) := by decide +kernel
theorem dX2_stopTurn_37 : decode cX2_stopTurn 37 = .ok (.invokevirtual 111, 3) := by decide +kernel
theorem dX2_stopTurn_40 : decode cX2_stopTurn 40 = .ok (.iconst 2, 1) := by decide +kernel
theorem dX2_stopTurn_41 : decode cX2_stopTurn 41 = .ok (.ireturn, 1) := by decide +kernel
theorem dX2_total_0 : decode cX2_total 0 = .ok (.iconst 0, 1) := by decide +kernel
theorem dX2_total_1 : decode cX2_total 1 = .ok (.istore_n 2, 1) := by decide +kernel
theorem dX2_total_2 : decode cX2_total 2 = .ok (.iconst 0, 1) := by decide +kernel
theorem dX2_total_3 : decode cX2_total 3 = .ok (.istore_n 3, 1) := by decide +kernel
theorem dX2_total_4 : decode cX2_total 4 = .ok (.iload_n 3, 1) := by decide +kernel
theorem dX2_total_5 : decode cX2_total 5 = .ok (.aload_n 0, 1) := by decide +kernel
theorem dX2_total_6 : decode cX2_total 6 = .ok (.getfield 58, 3) := by decide +kernel
theorem dX2_total_9 : decode cX2_total 9 = .ok (.if_icmp .ge 28, 3) := by decide +kernel
theorem dX2_total_12 : decode cX2_total 12 = .ok (.iload_n 3, 1) := by decide +kernel
theorem dX2_total_13 : decode cX2_total 13 = .ok (.sipush 150, 3) := by decide +kernel
theorem dX2_total_16 : decode cX2_total 16 = .ok (.if_icmp .ge 21, 3) := by decide +kernel
theorem dX2_total_19 : decode cX2_total 19 = .ok (.aload_n 0, 1) := by decide +kernel
theorem dX2_total_20 : decode cX2_total 20 = .ok (.iload_n 3, 1) := by decide +kernel
theorem dX2_total_21 : decode cX2_total 21 = .ok (.iload_n 1, 1) := by decide +kernel
theorem dX2_total_22 : decode cX2_total 22 = .ok (.invokevirtual 129, 3) := by decide +kernel
theorem dX2_total_25 : decode cX2_total 25 = .ok (.ifCond .eq 6, 3) := by decide +kernel
theorem dX2_total_28 : decode cX2_total 28 = .ok (.iinc 2 1, 3) := by decide +kernel
theorem dX2_total_31 : decode cX2_total 31 = .ok (.iinc 3 1, 3) := by decide +kernel
theorem dX2_total_34 : decode cX2_total 34 = .ok (.goto (-30), 3) := by decide +kernel
theorem dX2_total_37 : decode cX2_total 37 = .ok (.iload_n 2, 1) := by decide +kernel
theorem dX2_total_38 : decode cX2_total 38 = .ok (.ireturn, 1) := by decide +kernel
theorem dX2_counts_0 : decode cX2_counts 0 = .ok (.iload_n 2, 1) := by decide +kernel
theorem dX2_counts_1 : decode cX2_counts 1 = .ok (.ifCond .ne 5, 3) := by decide +kernel
theorem dX2_counts_4 : decode cX2_counts 4 = .ok (.iconst 1, 1) := by decide +kernel
theorem dX2_counts_5 : decode cX2_counts 5 = .ok (.ireturn, 1) := by decide +kernel
theorem dX2_counts_6 : decode cX2_counts 6 = .ok (.iload_n 2, 1) := by decide +kernel
theorem dX2_counts_7 : decode cX2_counts 7 = .ok (.iconst 1, 1) := by decide +kernel
theorem dX2_counts_8 : decode cX2_counts 8 = .ok (.if_icmp .ne 23, 3) := by decide +kernel
theorem dX2_counts_11 : decode cX2_counts 11 = .ok (.aload_n 0, 1) := by decide +kernel
theorem dX2_counts_12 : decode cX2_counts 12 = .ok (.getfield 24, 3) := by decide +kernel
theorem dX2_counts_15 : decode cX2_counts 15 = .ok (.iload_n 1, 1) := by decide +kernel
theorem dX2_counts_16 : decode cX2_counts 16 = .ok (.invokestatic 69, 3) := by decide +kernel
theorem dX2_counts_19 : decode cX2_counts 19 = .ok (.iconst 1, 1) := by decide +kernel
theorem dX2_counts_20 : decode cX2_counts 20 = .ok (.if_icmp .ne 7, 3) := by decide +kernel
theorem dX2_counts_23 : decode cX2_counts 23 = .ok (.iconst 1, 1) := by decide +kernel
theorem dX2_counts_24 : decode cX2_counts 24 = .ok (.goto 18, 3) := by decide +kernel
theorem dX2_counts_27 : decode cX2_counts 27 = .ok (.iconst 0, 1) := by decide +kernel
theorem dX2_counts_28 : decode cX2_counts 28 = .ok (.goto 14, 3) := by decide +kernel
theorem dX2_counts_31 : decode cX2_counts 31 = .ok (.aload_n 0, 1) := by decide +kernel
theorem dX2_counts_32 : decode cX2_counts 32 = .ok (.getfield 9, 3) := by decide +kernel
theorem dX2_counts_35 : decode cX2_counts 35 = .ok (.iload_n 1, 1) := by decide +kernel
theorem dX2_counts_36 : decode cX2_counts 36 = .ok (.invokestatic 69, 3) := by decide +kernel
theorem dX2_counts_39 : decode cX2_counts 39 = .ok (.invokestatic 80, 3) := by decide +kernel
theorem dX2_counts_42 : decode cX2_counts 42 = .ok (.ireturn, 1) := by decide +kernel
theorem dX3_init_0 : decode cX3_init 0 = .ok (.aload_n 0, 1) := by decide +kernel
theorem dX3_init_1 : decode cX3_init 1 = .ok (.invokespecial 3, 3) := by decide +kernel
theorem dX3_init_4 : decode cX3_init 4 = .ok (.aload_n 0, 1) := by decide +kernel
theorem dX3_init_5 : decode cX3_init 5 = .ok (.iconst 4, 1) := by decide +kernel
theorem dX3_init_6 : decode cX3_init 6 = .ok (.newarray .int, 2) := by decide +kernel
theorem dX3_init_8 : decode cX3_init 8 = .ok (.putfield 9, 3) := by decide +kernel
theorem dX3_init_11 : decode cX3_init 11 = .ok (.aload_n 0, 1) := by decide +kernel
theorem dX3_init_12 : decode cX3_init 12 = .ok (.iconst 2, 1) := by decide +kernel
theorem dX3_init_13 : decode cX3_init 13 = .ok (.newarray .int, 2) := by decide +kernel
theorem dX3_init_15 : decode cX3_init 15 = .ok (.putfield 15, 3) := by decide +kernel
theorem dX3_init_18 : decode cX3_init 18 = .ok (.return_, 1) := by decide +kernel
theorem dX3_begin_0 : decode cX3_begin 0 = .ok (.aload_n 0, 1) := by decide +kernel
theorem dX3_begin_1 : decode cX3_begin 1 = .ok (.getfield 9, 3) := by decide +kernel
theorem dX3_begin_4 : decode cX3_begin 4 = .ok (.iconst 0, 1) := by decide +kernel
theorem dX3_begin_5 : decode cX3_begin 5 = .ok (.invokestatic 18, 3) := by decide +kernel
theorem dX3_begin_8 : decode cX3_begin 8 = .ok (.aload_n 0, 1) := by decide +kernel
theorem dX3_begin_9 : decode cX3_begin 9 = .ok (.getfield 15, 3) := by decide +kernel
theorem dX3_begin_12 : decode cX3_begin 12 = .ok (.iconst 0, 1) := by decide +kernel
theorem dX3_begin_13 : decode cX3_begin 13 = .ok (.iload_n 1, 1) := by decide +kernel
theorem dX3_begin_14 : decode cX3_begin 14 = .ok (.invokestatic 24, 3) := by decide +kernel
theorem dX3_begin_17 : decode cX3_begin 17 = .ok (.aload_n 0, 1) := by decide +kernel
theorem dX3_begin_18 : decode cX3_begin 18 = .ok (.getfield 15, 3) := by decide +kernel
theorem dX3_begin_21 : decode cX3_begin 21 = .ok (.iconst 1, 1) := by decide +kernel
theorem dX3_begin_22 : decode cX3_begin 22 = .ok (.iload_n 2, 1) := by decide +kernel
theorem dX3_begin_23 : decode cX3_begin 23 = .ok (.invokestatic 24, 3) := by decide +kernel
theorem dX3_begin_26 : decode cX3_begin 26 = .ok (.aload_n 0, 1) := by decide +kernel
theorem dX3_begin_27 : decode cX3_begin 27 = .ok (.iconst 0, 1) := by decide +kernel
theorem dX3_begin_28 : decode cX3_begin 28 = .ok (.invokevirtual 28, 3) := by decide +kernel
theorem dX3_begin_31 : decode cX3_begin 31 = .ok (.return_, 1) := by decide +kernel
theorem dX3_allows_0 : decode cX3_allows 0 = .ok (.aload_n 0, 1) := by decide +kernel
theorem dX3_allows_1 : decode cX3_allows 1 = .ok (.invokevirtual 32, 3) := by decide +kernel
theorem dX3_allows_4 : decode cX3_allows 4 = .ok (.bipush (-4), 2) := by decide +kernel
theorem dX3_allows_6 : decode cX3_allows 6 = .ok (.if_icmp .eq 5, 3) := by decide +kernel
theorem dX3_allows_9 : decode cX3_allows 9 = .ok (.iconst 0, 1) := by decide +kernel
theorem dX3_allows_10 : decode cX3_allows 10 = .ok (.ireturn, 1) := by decide +kernel
theorem dX3_allows_11 : decode cX3_allows 11 = .ok (.iload_n 1, 1) := by decide +kernel
theorem dX3_allows_12 : decode cX3_allows 12 = .ok (.ifCond .ne 26, 3) := by decide +kernel
theorem dX3_allows_15 : decode cX3_allows 15 = .ok (.aload_n 0, 1) := by decide +kernel
theorem dX3_allows_16 : decode cX3_allows 16 = .ok (.getfield 36, 3) := by decide +kernel
theorem dX3_allows_19 : decode cX3_allows 19 = .ok (.bipush (-4), 2) := by decide +kernel
theorem dX3_allows_21 : decode cX3_allows 21 = .ok (.if_icmp .ne 15, 3) := by decide +kernel
theorem dX3_allows_24 : decode cX3_allows 24 = .ok (.aload_n 0, 1) := by decide +kernel
theorem dX3_allows_25 : decode cX3_allows 25 = .ok (.iload_n 2, 1) := by decide +kernel
theorem dX3_allows_26 : decode cX3_allows 26 = .ok (.invokevirtual 40, 3) := by decide +kernel
theorem dX3_allows_29 : decode cX3_allows 29 = .ok (.ifCond .ne 7, 3) := by decide +kernel
theorem dX3_allows_32 : decode cX3_allows 32 = .ok (.iconst 1, 1) := by decide +kernel
theorem dX3_allows_33 : decode cX3_allows 33 = .ok (.goto 4, 3) := by decide +kernel
theorem dX3_allows_36 : decode cX3_allows 36 = .ok (.iconst 0, 1) := by decide +kernel
theorem dX3_allows_37 : decode cX3_allows 37 = .ok (.ireturn, 1) := by decide +kernel
theorem dX3_allows_38 : decode cX3_allows 38 = .ok (.iload_n 1, 1) := by decide +kernel
theorem dX3_allows_39 : decode cX3_allows 39 = .ok (.bipush 6, 2) := by decide +kernel
theorem dX3_allows_41 : decode cX3_allows 41 = .ok (.if_icmp .ne 25, 3) := by decide +kernel
theorem dX3_allows_44 : decode cX3_allows 44 = .ok (.aload_n 0, 1) := by decide +kernel
theorem dX3_allows_45 : decode cX3_allows 45 = .ok (.getfield 36, 3) := by decide +kernel
theorem dX3_allows_48 : decode cX3_allows 48 = .ok (.bipush (-4), 2) := by decide +kernel
theorem dX3_allows_50 : decode cX3_allows 50 = .ok (.if_icmp .ne 14, 3) := by decide +kernel
theorem dX3_allows_53 : decode cX3_allows 53 = .ok (.aload_n 0, 1) := by decide +kernel
theorem dX3_allows_54 : decode cX3_allows 54 = .ok (.invokevirtual 44, 3) := by decide +kernel
theorem dX3_allows_57 : decode cX3_allows 57 = .ok (.ifCond .eq 7, 3) := by decide +kernel
theorem dX3_allows_60 : decode cX3_allows 60 = .ok (.iconst 1, 1) := by decide +kernel
theorem dX3_allows_61 : decode cX3_allows 61 = .ok (.goto 4, 3) := by decide +kernel
theorem dX3_allows_64 : decode cX3_allows 64 = .ok (.iconst 0, 1) := by decide +kernel
theorem dX3_allows_65 : decode cX3_allows 65 = .ok (.ireturn, 1) := by decide +kernel
theorem dX3_allows_66 : decode cX3_allows 66 = .ok (.aload_n 0, 1) := by decide +kernel
theorem dX3_allows_67 : decode cX3_allows 67 = .ok (.getfield 36, 3) := by decide +kernel
theorem dX3_allows_70 : decode cX3_allows 70 = .ok (.bipush (-4), 2) := by decide +kernel
theorem dX3_allows_72 : decode cX3_allows 72 = .ok (.if_icmp .ne 5, 3) := by decide +kernel
theorem dX3_allows_75 : decode cX3_allows 75 = .ok (.iconst 0, 1) := by decide +kernel
theorem dX3_allows_76 : decode cX3_allows 76 = .ok (.ireturn, 1) := by decide +kernel
theorem dX3_allows_77 : decode cX3_allows 77 = .ok (.iload_n 1, 1) := by decide +kernel
theorem dX3_allows_78 : decode cX3_allows 78 = .ok (.iconst 4, 1) := by decide +kernel
theorem dX3_allows_79 : decode cX3_allows 79 = .ok (.if_icmp .ne 20, 3) := by decide +kernel
theorem dX3_allows_82 : decode cX3_allows 82 = .ok (.aload_n 0, 1) := by decide +kernel
theorem dX3_allows_83 : decode cX3_allows 83 = .ok (.getfield 48, 3) := by decide +kernel
theorem dX3_allows_86 : decode cX3_allows 86 = .ok (.bipush (-4), 2) := by decide +kernel
theorem dX3_allows_88 : decode cX3_allows 88 = .ok (.if_icmp .eq 7, 3) := by decide +kernel
theorem dX3_allows_91 : decode cX3_allows 91 = .ok (.iconst 1, 1) := by decide +kernel
theorem dX3_allows_92 : decode cX3_allows 92 = .ok (.goto 30, 3) := by decide +kernel
theorem dX3_allows_95 : decode cX3_allows 95 = .ok (.iconst 0, 1) := by decide +kernel
theorem dX3_allows_96 : decode cX3_allows 96 = .ok (.goto 26, 3) := by decide +kernel
theorem dX3_allows_99 : decode cX3_allows 99 = .ok (.aload_n 0, 1) := by decide +kernel
theorem dX3_allows_100 : decode cX3_allows 100 = .ok (.getfield 48, 3) := by decide +kernel
theorem dX3_allows_103 : decode cX3_allows 103 = .ok (.bipush (-4), 2) := by decide +kernel
theorem dX3_allows_105 : decode cX3_allows 105 = .ok (.if_icmp .ne 16, 3) := by decide +kernel
theorem dX3_allows_108 : decode cX3_allows 108 = .ok (.aload_n 0, 1) := by decide +kernel
theorem dX3_allows_109 : decode cX3_allows 109 = .ok (.iload_n 1, 1) := by decide +kernel
theorem dX3_allows_110 : decode cX3_allows 110 = .ok (.iload_n 2, 1) := by decide +kernel
theorem dX3_allows_111 : decode cX3_allows 111 = .ok (.invokevirtual 51, 3) := by decide +kernel
theorem dX3_allows_114 : decode cX3_allows 114 = .ok (.ifCond .eq 7, 3) := by decide +kernel
theorem dX3_allows_117 : decode cX3_allows 117 = .ok (.iconst 1, 1) := by decide +kernel
theorem dX3_allows_118 : decode cX3_allows 118 = .ok (.goto 4, 3) := by decide +kernel
theorem dX3_allows_121 : decode cX3_allows 121 = .ok (.iconst 0, 1) := by decide +kernel
theorem dX3_allows_122 : decode cX3_allows 122 = .ok (.ireturn, 1) := by decide +kernel
theorem dX3_allowsFree_0 : decode cX3_allowsFree 0 = .ok (.aload_n 0, 1) := by decide +kernel
theorem dX3_allowsFree_1 : decode cX3_allowsFree 1 = .ok (.getfield 55, 3) := by decide +kernel
theorem dX3_allowsFree_4 : decode cX3_allowsFree 4 = .ok (.bipush (-4), 2) := by decide +kernel
theorem dX3_allowsFree_6 : decode cX3_allowsFree 6 = .ok (.if_icmp .eq 34, 3) := by decide +kernel
theorem dX3_allowsFree_9 : decode cX3_allowsFree 9 = .ok (.aload_n 0, 1) := by decide +kernel
theorem dX3_allowsFree_10 : decode cX3_allowsFree 10 = .ok (.aload_n 0, 1) := by decide +kernel
theorem dX3_allowsFree_11 : decode cX3_allowsFree 11 = .ok (.getfield 55, 3) := by decide +kernel
theorem dX3_allowsFree_14 : decode cX3_allowsFree 14 = .ok (.invokevirtual 40, 3) := by decide +kernel
theorem dX3_allowsFree_17 : decode cX3_allowsFree 17 = .ok (.ifCond .ne 23, 3) := by decide +kernel
theorem dX3_allowsFree_20 : decode cX3_allowsFree 20 = .ok (.aload_n 0, 1) := by decide +kernel
theorem dX3_allowsFree_21 : decode cX3_allowsFree 21 = .ok (.getfield 15, 3) := by decide +kernel
theorem dX3_allowsFree_24 : decode cX3_allowsFree 24 = .ok (.iconst 1, 1) := by decide +kernel
theorem dX3_allowsFree_25 : decode cX3_allowsFree 25 = .ok (.aload_n 0, 1) := by decide +kernel
theorem dX3_allowsFree_26 : decode cX3_allowsFree 26 = .ok (.getfield 58, 3) := by decide +kernel
theorem dX3_allowsFree_29 : decode cX3_allowsFree 29 = .ok (.isub, 1) := by decide +kernel
theorem dX3_allowsFree_30 : decode cX3_allowsFree 30 = .ok (.invokestatic 61, 3) := by decide +kernel
theorem dX3_allowsFree_33 : decode cX3_allowsFree 33 = .ok (.ifCond .le 7, 3) := by decide +kernel
theorem dX3_allowsFree_36 : decode cX3_allowsFree 36 = .ok (.iconst 1, 1) := by decide +kernel
theorem dX3_allowsFree_37 : decode cX3_allowsFree 37 = .ok (.goto 4, 3) := by decide +kernel
theorem dX3_allowsFree_40 : decode cX3_allowsFree 40 = .ok (.iconst 0, 1) := by decide +kernel
theorem dX3_allowsFree_41 : decode cX3_allowsFree 41 = .ok (.ireturn, 1) := by decide +kernel
theorem dX3_allowsFresh_0 : decode cX3_allowsFresh 0 = .ok (.iload_n 1, 1) := by decide +kernel
theorem dX3_allowsFresh_1 : decode cX3_allowsFresh 1 = .ok (.tableswitch 97 2 5 #[31, 75, 97, 53], 31) := by decide +kernel
theorem dX3_allowsFresh_32 : decode cX3_allowsFresh 32 = .ok (.aload_n 0, 1) := by decide +kernel
theorem dX3_allowsFresh_33 : decode cX3_allowsFresh 33 = .ok (.getfield 9, 3) := by decide +kernel
theorem dX3_allowsFresh_36 : decode cX3_allowsFresh 36 = .ok (.aload_n 0, 1) := by decide +kernel
theorem dX3_allowsFresh_37 : decode cX3_allowsFresh 37 = .ok (.getfield 36, 3) := by decide +kernel
theorem dX3_allowsFresh_40 : decode cX3_allowsFresh 40 = .ok (.invokestatic 61, 3) := by decide +kernel
theorem dX3_allowsFresh_43 : decode cX3_allowsFresh 43 = .ok (.bipush 6, 2) := by decide +kernel
theorem dX3_allowsFresh_45 : decode cX3_allowsFresh 45 = .ok (.if_icmp .ge 7, 3) := by decide +kernel
theorem dX3_allowsFresh_48 : decode cX3_allowsFresh 48 = .ok (.iconst 1, 1) := by decide +kernel
theorem dX3_allowsFresh_49 : decode cX3_allowsFresh 49 = .ok (.goto 4, 3) := by decide +kernel
theorem dX3_allowsFresh_52 : decode cX3_allowsFresh 52 = .ok (.iconst 0, 1) := by decide +kernel
theorem dX3_allowsFresh_53 : decode cX3_allowsFresh 53 = .ok (.ireturn, 1) := by decide +kernel
theorem dX3_allowsFresh_54 : decode cX3_allowsFresh 54 = .ok (.aload_n 0, 1) := by decide +kernel
theorem dX3_allowsFresh_55 : decode cX3_allowsFresh 55 = .ok (.getfield 9, 3) := by decide +kernel
theorem dX3_allowsFresh_58 : decode cX3_allowsFresh 58 = .ok (.aload_n 0, 1) := by decide +kernel
theorem dX3_allowsFresh_59 : decode cX3_allowsFresh 59 = .ok (.getfield 36, 3) := by decide +kernel
theorem dX3_allowsFresh_62 : decode cX3_allowsFresh 62 = .ok (.invokestatic 61, 3) := by decide +kernel
theorem dX3_allowsFresh_65 : decode cX3_allowsFresh 65 = .ok (.bipush 6, 2) := by decide +kernel
theorem dX3_allowsFresh_67 : decode cX3_allowsFresh 67 = .ok (.if_icmp .ne 7, 3) := by decide +kernel
theorem dX3_allowsFresh_70 : decode cX3_allowsFresh 70 = .ok (.iconst 1, 1) := by decide +kernel
theorem dX3_allowsFresh_71 : decode cX3_allowsFresh 71 = .ok (.goto 4, 3) := by decide +kernel
theorem dX3_allowsFresh_74 : decode cX3_allowsFresh 74 = .ok (.iconst 0, 1) := by decide +kernel
theorem dX3_allowsFresh_75 : decode cX3_allowsFresh 75 = .ok (.ireturn, 1) := by decide +kernel
theorem dX3_allowsFresh_76 : decode cX3_allowsFresh 76 = .ok (.iload_n 2, 1) := by decide +kernel
theorem dX3_allowsFresh_77 : decode cX3_allowsFresh 77 = .ok (.aload_n 0, 1) := by decide +kernel
theorem dX3_allowsFresh_78 : decode cX3_allowsFresh 78 = .ok (.getfield 36, 3) := by decide +kernel
theorem dX3_allowsFresh_81 : decode cX3_allowsFresh 81 = .ok (.if_icmp .eq 15, 3) := by decide +kernel
theorem dX3_allowsFresh_84 : decode cX3_allowsFresh 84 = .ok (.aload_n 0, 1) := by decide +kernel
theorem dX3_allowsFresh_85 : decode cX3_allowsFresh 85 = .ok (.iload_n 2, 1) := by decide +kernel
theorem dX3_allowsFresh_86 : decode cX3_allowsFresh 86 = .ok (.invokevirtual 40, 3) := by decide +kernel
theorem dX3_allowsFresh_89 : decode cX3_allowsFresh 89 = .ok (.ifCond .ne 7, 3) := by decide +kernel
theorem dX3_allowsFresh_92 : decode cX3_allowsFresh 92 = .ok (.iconst 1, 1) := by decide +kernel
theorem dX3_allowsFresh_93 : decode cX3_allowsFresh 93 = .ok (.goto 4, 3) := by decide +kernel
theorem dX3_allowsFresh_96 : decode cX3_allowsFresh 96 = .ok (.iconst 0, 1) := by decide +kernel
theorem dX3_allowsFresh_97 : decode cX3_allowsFresh 97 = .ok (.ireturn, 1) := by decide +kernel
theorem dX3_allowsFresh_98 : decode cX3_allowsFresh 98 = .ok (.iconst 1, 1) := by decide +kernel
theorem dX3_allowsFresh_99 : decode cX3_allowsFresh 99 = .ok (.ireturn, 1) := by decide +kernel
theorem dX3_isWrong_0 : decode cX3_isWrong 0 = .ok (.iload_n 1, 1) := by decide +kernel
theorem dX3_isWrong_1 : decode cX3_isWrong 1 = .ok (.ifCond .ne 19, 3) := by decide +kernel
theorem dX3_isWrong_4 : decode cX3_isWrong 4 = .ok (.iload_n 2, 1) := by decide +kernel
theorem dX3_isWrong_5 : decode cX3_isWrong 5 = .ok (.iconst 2, 1) := by decide +kernel
theorem dX3_isWrong_6 : decode cX3_isWrong 6 = .ok (.irem, 1) := by decide +kernel
theorem dX3_isWrong_7 : decode cX3_isWrong 7 = .ok (.aload_n 0, 1) := by decide +kernel
theorem dX3_isWrong_8 : decode cX3_isWrong 8 = .ok (.getfield 58, 3) := by decide +kernel
theorem dX3_isWrong_11 : decode cX3_isWrong 11 = .ok (.if_icmp .eq 7, 3) := by decide +kernel
theorem dX3_isWrong_14 : decode cX3_isWrong 14 = .ok (.iconst 1, 1) := by decide +kernel
theorem dX3_isWrong_15 : decode cX3_isWrong 15 = .ok (.goto 4, 3) := by decide +kernel
theorem dX3_isWrong_18 : decode cX3_isWrong 18 = .ok (.iconst 0, 1) := by decide +kernel
theorem dX3_isWrong_19 : decode cX3_isWrong 19 = .ok (.ireturn, 1) := by decide +kernel
theorem dX3_isWrong_20 : decode cX3_isWrong 20 = .ok (.iload_n 1, 1) := by decide +kernel
theorem dX3_isWrong_21 : decode cX3_isWrong 21 = .ok (.iconst 3, 1) := by decide +kernel
theorem dX3_isWrong_22 : decode cX3_isWrong 22 = .ok (.if_icmp .ne 18, 3) := by decide +kernel
theorem dX3_isWrong_25 : decode cX3_isWrong 25 = .ok (.aload_n 0, 1) := by decide +kernel
theorem dX3_isWrong_26 : decode cX3_isWrong 26 = .ok (.getfield 65, 3) := by decide +kernel
theorem dX3_isWrong_29 : decode cX3_isWrong 29 = .ok (.iload_n 2, 1) := by decide +kernel
theorem dX3_isWrong_30 : decode cX3_isWrong 30 = .ok (.ishr, 1) := by decide +kernel
theorem dX3_isWrong_31 : decode cX3_isWrong 31 = .ok (.iconst 1, 1) := by decide +kernel
theorem dX3_isWrong_32 : decode cX3_isWrong 32 = .ok (.iand, 1) := by decide +kernel
theorem dX3_isWrong_33 : decode cX3_isWrong 33 = .ok (.ifCond .ne 7, 3) := by decide +kernel
theorem dX3_isWrong_36 : decode cX3_isWrong 36 = .ok (.iconst 1, 1) := by decide +kernel
theorem dX3_isWrong_37 : decode cX3_isWrong 37 = .ok (.goto 4, 3) := by decide +kernel
theorem dX3_isWrong_40 : decode cX3_isWrong 40 = .ok (.iconst 0, 1) := by decide +kernel
theorem dX3_isWrong_41 : decode cX3_isWrong 41 = .ok (.ireturn, 1) := by decide +kernel
theorem dX3_lead_0 : decode cX3_lead 0 = .ok (.iload_n 1, 1) := by decide +kernel
theorem dX3_lead_1 : decode cX3_lead 1 = .ok (.tableswitch 124 0 5 #[39, 47, 54, 89, 97, 104], 39) := by decide +kernel
theorem dX3_lead_40 : decode cX3_lead 40 = .ok (.aload_n 0, 1) := by decide +kernel
theorem dX3_lead_41 : decode cX3_lead 41 = .ok (.iload_n 2, 1) := by decide +kernel
theorem dX3_lead_42 : decode cX3_lead 42 = .ok (.invokevirtual 68, 3) := by decide +kernel
theorem dX3_lead_45 : decode cX3_lead 45 = .ok (.goto 92, 3) := by decide +kernel
theorem dX3_lead_48 : decode cX3_lead 48 = .ok (.aload_n 0, 1) := by decide +kernel
theorem dX3_lead_49 : decode cX3_lead 49 = .ok (.invokevirtual 71, 3) := by decide +kernel
theorem dX3_lead_52 : decode cX3_lead 52 = .ok (.goto 85, 3) := by decide +kernel
theorem dX3_lead_55 : decode cX3_lead 55 = .ok (.aload_n 0, 1) := by decide +kernel
theorem dX3_lead_56 : decode cX3_lead 56 = .ok (.getfield 9, 3) := by decide +kernel
theorem dX3_lead_59 : decode cX3_lead 59 = .ok (.aload_n 0, 1) := by decide +kernel
theorem dX3_lead_60 : decode cX3_lead 60 = .ok (.getfield 36, 3) := by decide +kernel
theorem dX3_lead_63 : decode cX3_lead 63 = .ok (.aload_n 0, 1) := by decide +kernel
theorem dX3_lead_64 : decode cX3_lead 64 = .ok (.getfield 9, 3) := by decide +kernel
theorem dX3_lead_67 : decode cX3_lead 67 = .ok (.aload_n 0, 1) := by decide +kernel
theorem dX3_lead_68 : decode cX3_lead 68 = .ok (.getfield 36, 3) := by decide +kernel
theorem dX3_lead_71 : decode cX3_lead 71 = .ok (.invokestatic 61, 3) := by decide +kernel
theorem dX3_lead_74 : decode cX3_lead 74 = .ok (.iconst 1, 1) := by decide +kernel
theorem dX3_lead_75 : decode cX3_lead 75 = .ok (.iadd, 1) := by decide +kernel
theorem dX3_lead_76 : decode cX3_lead 76 = .ok (.invokestatic 24, 3) := by decide +kernel
theorem dX3_lead_79 : decode cX3_lead 79 = .ok (.aload_n 0, 1) := by decide +kernel
theorem dX3_lead_80 : decode cX3_lead 80 = .ok (.aload_n 0, 1) := by decide +kernel
theorem dX3_lead_81 : decode cX3_lead 81 = .ok (.getfield 36, 3) := by decide +kernel
theorem dX3_lead_84 : decode cX3_lead 84 = .ok (.invokevirtual 68, 3) := by decide +kernel
theorem dX3_lead_87 : decode cX3_lead 87 = .ok (.goto 50, 3) := by decide +kernel
theorem dX3_lead_90 : decode cX3_lead 90 = .ok (.aload_n 0, 1) := by decide +kernel
theorem dX3_lead_91 : decode cX3_lead 91 = .ok (.iload_n 2, 1) := by decide +kernel
theorem dX3_lead_92 : decode cX3_lead 92 = .ok (.invokevirtual 74, 3) := by decide +kernel
theorem dX3_lead_95 : decode cX3_lead 95 = .ok (.goto 42, 3) := by decide +kernel
theorem dX3_lead_98 : decode cX3_lead 98 = .ok (.aload_n 0, 1) := by decide +kernel
theorem dX3_lead_99 : decode cX3_lead 99 = .ok (.invokevirtual 77, 3) := by decide +kernel
theorem dX3_lead_102 : decode cX3_lead 102 = .ok (.goto 35, 3) := by decide +kernel
theorem dX3_lead_105 : decode cX3_lead 105 = .ok (.aload_n 0, 1) := by decide +kernel
theorem dX3_lead_106 : decode cX3_lead 106 = .ok (.getfield 9, 3) := by decide +kernel
theorem dX3_lead_109 : decode cX3_lead 109 = .ok (.aload_n 0, 1) := by decide +kernel
theorem dX3_lead_110 : decode cX3_lead 110 = .ok (.getfield 36, 3) := by decide +kernel
theorem dX3_lead_113 : decode cX3_lead 113 = .ok (.bipush 7, 2) := by decide +kernel
theorem dX3_lead_115 : decode cX3_lead 115 = .ok (.invokestatic 24, 3) := by decide +kernel
theorem dX3_lead_118 : decode cX3_lead 118 = .ok (.aload_n 0, 1) := by decide +kernel
theorem dX3_lead_119 : decode cX3_lead 119 = .ok (.invokevirtual 71, 3) := by decide +kernel
theorem dX3_lead_122 : decode cX3_lead 122 = .ok (.goto 15, 3) := by decide +kernel
theorem dX3_lead_125 : decode cX3_lead 125 = .ok (.aload_n 0, 1) := by decide +kernel
theorem dX3_lead_126 : decode cX3_lead 126 = .ok (.invokevirtual 80, 3) := by decide +kernel
theorem dX3_lead_129 : decode cX3_lead 129 = .ok (.aload_n 0, 1) := by decide +kernel
theorem dX3_lead_130 : decode cX3_lead 130 = .ok (.aload_n 0, 1) := by decide +kernel
theorem dX3_lead_131 : decode cX3_lead 131 = .ok (.getfield 55, 3) := by decide +kernel
theorem dX3_lead_134 : decode cX3_lead 134 = .ok (.invokevirtual 68, 3) := by decide +kernel
theorem dX3_lead_137 : decode cX3_lead 137 = .ok (.return_, 1) := by decide +kernel
theorem dX3_bringIn_0 : decode cX3_bringIn 0 = .ok (.aload_n 0, 1) := by decide +kernel
theorem dX3_bringIn_1 : decode cX3_bringIn 1 = .ok (.iload_n 1, 1) := by decide +kernel
theorem dX3_bringIn_2 : decode cX3_bringIn 2 = .ok (.putfield 36, 3) := by decide +kernel
theorem dX3_bringIn_5 : decode cX3_bringIn 5 = .ok (.aload_n 0, 1) := by decide +kernel
theorem dX3_bringIn_6 : decode cX3_bringIn 6 = .ok (.iconst 1, 1) := by decide +kernel
theorem dX3_bringIn_7 : decode cX3_bringIn 7 = .ok (.putfield 83, 3) := by decide +kernel
theorem dX3_bringIn_10 : decode cX3_bringIn 10 = .ok (.aload_n 0, 1) := by decide +kernel
theorem dX3_bringIn_11 : decode cX3_bringIn 11 = .ok (.iconst 0, 1) := by decide +kernel
theorem dX3_bringIn_12 : decode cX3_bringIn 12 = .ok (.putfield 65, 3) := by decide +kernel
theorem dX3_bringIn_15 : decode cX3_bringIn 15 = .ok (.iconst 0, 1) := by decide +kernel
theorem dX3_bringIn_16 : decode cX3_bringIn 16 = .ok (.istore_n 2, 1) := by decide +kernel
theorem dX3_bringIn_17 : decode cX3_bringIn 17 = .ok (.iload_n 2, 1) := by decide +kernel
theorem dX3_bringIn_18 : decode cX3_bringIn 18 = .ok (.iconst 4, 1) := by decide +kernel
theorem dX3_bringIn_19 : decode cX3_bringIn 19 = .ok (.if_icmp .ge 39, 3) := by decide +kernel
theorem dX3_bringIn_22 : decode cX3_bringIn 22 = .ok (.iload_n 2, 1) := by decide +kernel
theorem dX3_bringIn_23 : decode cX3_bringIn 23 = .ok (.iload_n 1, 1) := by decide +kernel
theorem dX3_bringIn_24 : decode cX3_bringIn 24 = .ok (.if_icmp .eq 28, 3) := by decide +kernel
theorem dX3_bringIn_27 : decode cX3_bringIn 27 = .ok (.aload_n 0, 1) := by decide +kernel
theorem dX3_bringIn_28 : decode cX3_bringIn 28 = .ok (.getfield 9, 3) := by decide +kernel
theorem dX3_bringIn_31 : decode cX3_bringIn 31 = .ok (.iload_n 2, 1) := by decide +kernel
theorem dX3_bringIn_32 : decode cX3_bringIn 32 = .ok (.invokestatic 61, 3) := by decide +kernel
theorem dX3_bringIn_35 : decode cX3_bringIn 35 = .ok (.bipush 7, 2) := by decide +kernel
theorem dX3_bringIn_37 : decode cX3_bringIn 37 = .ok (.if_icmp .eq 15, 3) := by decide +kernel
theorem dX3_bringIn_40 : decode cX3_bringIn 40 = .ok (.aload_n 0, 1) := by decide +kernel
theorem dX3_bringIn_41 : decode cX3_bringIn 41 = .ok (.dup, 1) := by decide +kernel
theorem dX3_bringIn_42 : decode cX3_bringIn 42 = .ok (.getfield 65, 3) := by decide +kernel
theorem dX3_bringIn_45 : decode cX3_bringIn 45 = .ok (.iconst 1, 1) := by decide +kernel
theorem dX3_bringIn_46 : decode cX3_bringIn 46 = .ok (.iload_n 2, 1) := by decide +kernel
theorem dX3_bringIn_47 : decode cX3_bringIn 47 = .ok (.ishl, 1) := by decide +kernel
theorem dX3_bringIn_48 : decode cX3_bringIn 48 = .ok (.ior, 1) := by decide +kernel
theorem dX3_bringIn_49 : decode cX3_bringIn 49 = .ok (.putfield 65, 3) := by decide +kernel
theorem dX3_bringIn_52 : decode cX3_bringIn 52 = .ok (.iinc 2 1, 3) := by decide +kernel
theorem dX3_bringIn_55 : decode cX3_bringIn 55 = .ok (.goto (-38), 3) := by decide +kernel
theorem dX3_bringIn_58 : decode cX3_bringIn 58 = .ok (.return_, 1) := by decide +kernel
theorem dX3_roquet_0 : decode cX3_roquet 0 = .ok (.aload_n 0, 1) := by decide +kernel
theorem dX3_roquet_1 : decode cX3_roquet 1 = .ok (.dup, 1) := by decide +kernel
theorem dX3_roquet_2 : decode cX3_roquet 2 = .ok (.getfield 83, 3) := by decide +kernel
theorem dX3_roquet_5 : decode cX3_roquet 5 = .ok (.iconst 1, 1) := by decide +kernel
theorem dX3_roquet_6 : decode cX3_roquet 6 = .ok (.isub, 1) := by decide +kernel
theorem dX3_roquet_7 : decode cX3_roquet 7 = .ok (.putfield 83, 3) := by decide +kernel
theorem dX3_roquet_10 : decode cX3_roquet 10 = .ok (.aload_n 0, 1) := by decide +kernel
theorem dX3_roquet_11 : decode cX3_roquet 11 = .ok (.dup, 1) := by decide +kernel
theorem dX3_roquet_12 : decode cX3_roquet 12 = .ok (.getfield 65, 3) := by decide +kernel
theorem dX3_roquet_15 : decode cX3_roquet 15 = .ok (.iconst 1, 1) := by decide +kernel
theorem dX3_roquet_16 : decode cX3_roquet 16 = .ok (.iload_n 1, 1) := by decide +kernel
theorem dX3_roquet_17 : decode cX3_roquet 17 = .ok (.ishl, 1) := by decide +kernel
theorem dX3_roquet_18 : decode cX3_roquet 18 = .ok (.iconst (-1), 1) := by decide +kernel
theorem dX3_roquet_19 : decode cX3_roquet 19 = .ok (.ixor, 1) := by decide +kernel
theorem dX3_roquet_20 : decode cX3_roquet 20 = .ok (.iand, 1) := by decide +kernel
theorem dX3_roquet_21 : decode cX3_roquet 21 = .ok (.putfield 65, 3) := by decide +kernel
theorem dX3_roquet_24 : decode cX3_roquet 24 = .ok (.aload_n 0, 1) := by decide +kernel
theorem dX3_roquet_25 : decode cX3_roquet 25 = .ok (.iload_n 1, 1) := by decide +kernel
theorem dX3_roquet_26 : decode cX3_roquet 26 = .ok (.putfield 48, 3) := by decide +kernel
theorem dX3_roquet_29 : decode cX3_roquet 29 = .ok (.return_, 1) := by decide +kernel
theorem dX3_croquet_0 : decode cX3_croquet 0 = .ok (.aload_n 0, 1) := by decide +kernel
theorem dX3_croquet_1 : decode cX3_croquet 1 = .ok (.iconst 1, 1) := by decide +kernel
theorem dX3_croquet_2 : decode cX3_croquet 2 = .ok (.putfield 83, 3) := by decide +kernel
theorem dX3_croquet_5 : decode cX3_croquet 5 = .ok (.aload_n 0, 1) := by decide +kernel
theorem dX3_croquet_6 : decode cX3_croquet 6 = .ok (.bipush (-4), 2) := by decide +kernel
theorem dX3_croquet_8 : decode cX3_croquet 8 = .ok (.putfield 48, 3) := by decide +kernel
theorem dX3_croquet_11 : decode cX3_croquet 11 = .ok (.return_, 1) := by decide +kernel
theorem dX3_spendFree_0 : decode cX3_spendFree 0 = .ok (.aload_n 0, 1) := by decide +kernel
theorem dX3_spendFree_1 : decode cX3_spendFree 1 = .ok (.iconst 1, 1) := by decide +kernel
theorem dX3_spendFree_2 : decode cX3_spendFree 2 = .ok (.aload_n 0, 1) := by decide +kernel
theorem dX3_spendFree_3 : decode cX3_spendFree 3 = .ok (.getfield 58, 3) := by decide +kernel
theorem dX3_spendFree_6 : decode cX3_spendFree 6 = .ok (.isub, 1) := by decide +kernel
theorem dX3_spendFree_7 : decode cX3_spendFree 7 = .ok (.putfield 58, 3) := by decide +kernel
theorem dX3_spendFree_10 : decode cX3_spendFree 10 = .ok (.aload_n 0, 1) := by decide +kernel
theorem dX3_spendFree_11 : decode cX3_spendFree 11 = .ok (.getfield 15, 3) := by decide +kernel
theorem dX3_spendFree_14 : decode cX3_spendFree 14 = .ok (.aload_n 0, 1) := by decide +kernel
theorem dX3_spendFree_15 : decode cX3_spendFree 15 = .ok (.getfield 58, 3) := by decide +kernel
theorem dX3_spendFree_18 : decode cX3_spendFree 18 = .ok (.aload_n 0, 1) := by decide +kernel
theorem dX3_spendFree_19 : decode cX3_spendFree 19 = .ok (.getfield 15, 3) := by decide +kernel
theorem dX3_spendFree_22 : decode cX3_spendFree 22 = .ok (.aload_n 0, 1) := by decide +kernel
theorem dX3_spendFree_23 : decode cX3_spendFree 23 = .ok (.getfield 58, 3) := by decide +kernel
theorem dX3_spendFree_26 : decode cX3_spendFree 26 = .ok (.invokestatic 61, 3) := by decide +kernel
theorem dX3_spendFree_29 : decode cX3_spendFree 29 = .ok (.iconst 1, 1) := by decide +kernel
theorem dX3_spendFree_30 : decode cX3_spendFree 30 = .ok (.isub, 1) := by decide +kernel
theorem dX3_spendFree_31 : decode cX3_spendFree 31 = .ok (.invokestatic 24, 3) := by decide +kernel
theorem dX3_spendFree_34 : decode cX3_spendFree 34 = .ok (.return_, 1) := by decide +kernel
theorem dX3_endTurn_0 : decode cX3_endTurn 0 = .ok (.aload_n 0, 1) := by decide +kernel
theorem dX3_endTurn_1 : decode cX3_endTurn 1 = .ok (.getfield 36, 3) := by decide +kernel
theorem dX3_endTurn_4 : decode cX3_endTurn 4 = .ok (.bipush (-4), 2) := by decide +kernel
theorem dX3_endTurn_6 : decode cX3_endTurn 6 = .ok (.if_icmp .eq 23, 3) := by decide +kernel
theorem dX3_endTurn_9 : decode cX3_endTurn 9 = .ok (.aload_n 0, 1) := by decide +kernel
theorem dX3_endTurn_10 : decode cX3_endTurn 10 = .ok (.getfield 36, 3) := by decide +kernel
theorem dX3_endTurn_13 : decode cX3_endTurn 13 = .ok (.istore_n 1, 1) := by decide +kernel
theorem dX3_endTurn_14 : decode cX3_endTurn 14 = .ok (.aload_n 0, 1) := by decide +kernel
theorem dX3_endTurn_15 : decode cX3_endTurn 15 = .ok (.iconst 1, 1) := by decide +kernel
theorem dX3_endTurn_16 : decode cX3_endTurn 16 = .ok (.aload_n 0, 1) := by decide +kernel
theorem dX3_endTurn_17 : decode cX3_endTurn 17 = .ok (.getfield 58, 3) := by decide +kernel
theorem dX3_endTurn_20 : decode cX3_endTurn 20 = .ok (.isub, 1) := by decide +kernel
theorem dX3_endTurn_21 : decode cX3_endTurn 21 = .ok (.invokevirtual 28, 3) := by decide +kernel
theorem dX3_endTurn_24 : decode cX3_endTurn 24 = .ok (.aload_n 0, 1) := by decide +kernel
theorem dX3_endTurn_25 : decode cX3_endTurn 25 = .ok (.iload_n 1, 1) := by decide +kernel
theorem dX3_endTurn_26 : decode cX3_endTurn 26 = .ok (.putfield 55, 3) := by decide +kernel
theorem dX3_endTurn_29 : decode cX3_endTurn 29 = .ok (.return_, 1) := by decide +kernel
theorem dX3_stopFor_0 : decode cX3_stopFor 0 = .ok (.aload_n 0, 1) := by decide +kernel
theorem dX3_stopFor_1 : decode cX3_stopFor 1 = .ok (.iload_n 1, 1) := by decide +kernel
theorem dX3_stopFor_2 : decode cX3_stopFor 2 = .ok (.putfield 58, 3) := by decide +kernel
theorem dX3_stopFor_5 : decode cX3_stopFor 5 = .ok (.aload_n 0, 1) := by decide +kernel
theorem dX3_stopFor_6 : decode cX3_stopFor 6 = .ok (.bipush (-4), 2) := by decide +kernel
theorem dX3_stopFor_8 : decode cX3_stopFor 8 = .ok (.putfield 36, 3) := by decide +kernel
theorem dX3_stopFor_11 : decode cX3_stopFor 11 = .ok (.aload_n 0, 1) := by decide +kernel
theorem dX3_stopFor_12 : decode cX3_stopFor 12 = .ok (.iconst 0, 1) := by decide +kernel
theorem dX3_stopFor_13 : decode cX3_stopFor 13 = .ok (.putfield 83, 3) := by decide +kernel
theorem dX3_stopFor_16 : decode cX3_stopFor 16 = .ok (.aload_n 0, 1) := by decide +kernel
theorem dX3_stopFor_17 : decode cX3_stopFor 17 = .ok (.iconst 0, 1) := by decide +kernel
theorem dX3_stopFor_18 : decode cX3_stopFor 18 = .ok (.putfield 65, 3) := by decide +kernel
theorem dX3_stopFor_21 : decode cX3_stopFor 21 = .ok (.aload_n 0, 1) := by decide +kernel
theorem dX3_stopFor_22 : decode cX3_stopFor 22 = .ok (.bipush (-4), 2) := by decide +kernel
theorem dX3_stopFor_24 : decode cX3_stopFor 24 = .ok (.putfield 48, 3) := by decide +kernel
theorem dX3_stopFor_27 : decode cX3_stopFor 27 = .ok (.aload_n 0, 1) := by decide +kernel
theorem dX3_stopFor_28 : decode cX3_stopFor 28 = .ok (.bipush (-4), 2) := by decide +kernel
theorem dX3_stopFor_30 : decode cX3_stopFor 30 = .ok (.putfield 55, 3) := by decide +kernel
theorem dX3_stopFor_33 : decode cX3_stopFor 33 = .ok (.return_, 1) := by decide +kernel
theorem dX3_isOut_0 : decode cX3_isOut 0 = .ok (.aload_n 0, 1) := by decide +kernel
theorem dX3_isOut_1 : decode cX3_isOut 1 = .ok (.getfield 9, 3) := by decide +kernel
theorem dX3_isOut_4 : decode cX3_isOut 4 = .ok (.iload_n 1, 1) := by decide +kernel
theorem dX3_isOut_5 : decode cX3_isOut 5 = .ok (.invokestatic 61, 3) := by decide +kernel
theorem dX3_isOut_8 : decode cX3_isOut 8 = .ok (.bipush 7, 2) := by decide +kernel
theorem dX3_isOut_10 : decode cX3_isOut 10 = .ok (.if_icmp .ne 7, 3) := by decide +kernel
theorem dX3_isOut_13 : decode cX3_isOut 13 = .ok (.iconst 1, 1) := by decide +kernel
theorem dX3_isOut_14 : decode cX3_isOut 14 = .ok (.goto 4, 3) := by decide +kernel
theorem dX3_isOut_17 : decode cX3_isOut 17 = .ok (.iconst 0, 1) := by decide +kernel
theorem dX3_isOut_18 : decode cX3_isOut 18 = .ok (.ireturn, 1) := by decide +kernel
theorem dX3_winner_0 : decode cX3_winner 0 = .ok (.aload_n 0, 1) := by decide +kernel
theorem dX3_winner_1 : decode cX3_winner 1 = .ok (.iconst 0, 1) := by decide +kernel
theorem dX3_winner_2 : decode cX3_winner 2 = .ok (.invokevirtual 40, 3) := by decide +kernel
theorem dX3_winner_5 : decode cX3_winner 5 = .ok (.ifCond .eq 13, 3) := by decide +kernel
theorem dX3_winner_8 : decode cX3_winner 8 = .ok (.aload_n 0, 1) := by decide +kernel
theorem dX3_winner_9 : decode cX3_winner 9 = .ok (.iconst 2, 1) := by decide +kernel
theorem dX3_winner_10 : decode cX3_winner 10 = .ok (.invokevirtual 40, 3) := by decide +kernel
theorem dX3_winner_13 : decode cX3_winner 13 = .ok (.ifCond .eq 5, 3) := by decide +kernel
theorem dX3_winner_16 : decode cX3_winner 16 = .ok (.iconst 0, 1) := by decide +kernel
theorem dX3_winner_17 : decode cX3_winner 17 = .ok (.ireturn, 1) := by decide +kernel
theorem dX3_winner_18 : decode cX3_winner 18 = .ok (.aload_n 0, 1) := by decide +kernel
theorem dX3_winner_19 : decode cX3_winner 19 = .ok (.iconst 1, 1) := by decide +kernel
theorem dX3_winner_20 : decode cX3_winner 20 = .ok (.invokevirtual 40, 3) := by decide +kernel
theorem dX3_winner_23 : decode cX3_winner 23 = .ok (.ifCond .eq 15, 3) := by decide +kernel
theorem dX3_winner_26 : decode cX3_winner 26 = .ok (.aload_n 0, 1) := by decide +kernel
theorem dX3_winner_27 : decode cX3_winner 27 = .ok (.iconst 3, 1) := by decide +kernel
theorem dX3_winner_28 : decode cX3_winner 28 = .ok (.invokevirtual 40, 3) := by decide +kernel
theorem dX3_winner_31 : decode cX3_winner 31 = .ok (.ifCond .eq 7, 3) := by decide +kernel
theorem dX3_winner_34 : decode cX3_winner 34 = .ok (.iconst 1, 1) := by decide +kernel
theorem dX3_winner_35 : decode cX3_winner 35 = .ok (.goto 5, 3) := by decide +kernel
theorem dX3_winner_38 : decode cX3_winner 38 = .ok (.bipush (-4), 2) := by decide +kernel
theorem dX3_winner_40 : decode cX3_winner 40 = .ok (.ireturn, 1) := by decide +kernel
theorem dX3_side_0 : decode cX3_side 0 = .ok (.aload_n 0, 1) := by decide +kernel
theorem dX3_side_1 : decode cX3_side 1 = .ok (.getfield 58, 3) := by decide +kernel
theorem dX3_side_4 : decode cX3_side 4 = .ok (.ireturn, 1) := by decide +kernel
theorem dX3_inPlay_0 : decode cX3_inPlay 0 = .ok (.aload_n 0, 1) := by decide +kernel
theorem dX3_inPlay_1 : decode cX3_inPlay 1 = .ok (.getfield 36, 3) := by decide +kernel
theorem dX3_inPlay_4 : decode cX3_inPlay 4 = .ok (.ireturn, 1) := by decide +kernel
theorem dX3_tell_0 : decode cX3_tell 0 = .ok (.iload_n 1, 1) := by decide +kernel
theorem dX3_tell_1 : decode cX3_tell 1 = .ok (.tableswitch 111 0 11 #[63, 68, 73, 78, 83, 111, 111, 111, 111, 88, 97, 106], 63) := by decide +kernel
theorem dX3_tell_64 : decode cX3_tell 64 = .ok (.aload_n 0, 1) := by decide +kernel
theorem dX3_tell_65 : decode cX3_tell 65 = .ok (.getfield 58, 3) := by decide +kernel
theorem dX3_tell_68 : decode cX3_tell 68 = .ok (.ireturn, 1) := by decide +kernel
theorem dX3_tell_69 : decode cX3_tell 69 = .ok (.aload_n 0, 1) := by decide +kernel
theorem dX3_tell_70 : decode cX3_tell 70 = .ok (.getfield 36, 3) := by decide +kernel
theorem dX3_tell_73 : decode cX3_tell 73 = .ok (.ireturn, 1) := by decide +kernel
theorem dX3_tell_74 : decode cX3_tell 74 = .ok (.aload_n 0, 1) := by decide +kernel
theorem dX3_tell_75 : decode cX3_tell 75 = .ok (.getfield 83, 3) := by decide +kernel
theorem dX3_tell_78 : decode cX3_tell 78 = .ok (.ireturn, 1) := by decide +kernel
theorem dX3_tell_79 : decode cX3_tell 79 = .ok (.aload_n 0, 1) := by decide +kernel
theorem dX3_tell_80 : decode cX3_tell 80 = .ok (.getfield 65, 3) := by decide +kernel
theorem dX3_tell_83 : decode cX3_tell 83 = .ok (.ireturn, 1) := by decide +kernel
theorem dX3_tell_84 : decode cX3_tell 84 = .ok (.aload_n 0, 1) := by decide +kernel
theorem dX3_tell_85 : decode cX3_tell 85 = .ok (.getfield 48, 3) := by decide +kernel
theorem dX3_tell_88 : decode cX3_tell 88 = .ok (.ireturn, 1) := by decide +kernel
theorem dX3_tell_89 : decode cX3_tell 89 = .ok (.aload_n 0, 1) := by decide +kernel
theorem dX3_tell_90 : decode cX3_tell 90 = .ok (.getfield 15, 3) := by decide +kernel
theorem dX3_tell_93 : decode cX3_tell 93 = .ok (.iconst 0, 1) := by decide +kernel
theorem dX3_tell_94 : decode cX3_tell 94 = .ok (.invokestatic 61, 3) := by decide +kernel
theorem dX3_tell_97 : decode cX3_tell 97 = .ok (.ireturn, 1) := by decide +kernel
theorem dX3_tell_98 : decode cX3_tell 98 = .ok (.aload_n 0, 1) := by decide +kernel
theorem dX3_tell_99 : decode cX3_tell 99 = .ok (.getfield 15, 3) := by decide +kernel
theorem dX3_tell_102 : decode cX3_tell 102 = .ok (.iconst 1, 1) := by decide +kernel
theorem dX3_tell_103 : decode cX3_tell 103 = .ok (.invokestatic 61, 3) := by decide +kernel
theorem dX3_tell_106 : decode cX3_tell 106 = .ok (.ireturn, 1) := by decide +kernel
theorem dX3_tell_107 : decode cX3_tell 107 = .ok (.aload_n 0, 1) := by decide +kernel
theorem dX3_tell_108 : decode cX3_tell 108 = .ok (.invokevirtual 32, 3) := by decide +kernel
theorem dX3_tell_111 : decode cX3_tell 111 = .ok (.ireturn, 1) := by decide +kernel
theorem dX3_tell_112 : decode cX3_tell 112 = .ok (.aload_n 0, 1) := by decide +kernel
theorem dX3_tell_113 : decode cX3_tell 113 = .ok (.getfield 9, 3) := by decide +kernel
theorem dX3_tell_116 : decode cX3_tell 116 = .ok (.iload_n 1, 1) := by decide +kernel
theorem dX3_tell_117 : decode cX3_tell 117 = .ok (.iconst 5, 1) := by decide +kernel
theorem dX3_tell_118 : decode cX3_tell 118 = .ok (.isub, 1) := by decide +kernel
theorem dX3_tell_119 : decode cX3_tell 119 = .ok (.invokestatic 61, 3) := by decide +kernel
theorem dX3_tell_122 : decode cX3_tell 122 = .ok (.ireturn, 1) := by decide +kernel
theorem dX4_init_0 : decode cX4_init 0 = .ok (.aload_n 0, 1) := by decide +kernel
theorem dX4_init_1 : decode cX4_init 1 = .ok (.invokespecial 3, 3) := by decide +kernel
theorem dX4_init_4 : decode cX4_init 4 = .ok (.aload_n 0, 1) := by decide +kernel
theorem dX4_init_5 : decode cX4_init 5 = .ok (.bipush 8, 2) := by decide +kernel
theorem dX4_init_7 : decode cX4_init 7 = .ok (.newarray .int, 2) := by decide +kernel
theorem dX4_init_9 : decode cX4_init 9 = .ok (.putfield 9, 3) := by decide +kernel
theorem dX4_init_12 : decode cX4_init 12 = .ok (.aload_n 0, 1) := by decide +kernel
theorem dX4_init_13 : decode cX4_init 13 = .ok (.getfield 9, 3) := by decide +kernel
theorem dX4_init_16 : decode cX4_init 16 = .ok (.sipush 1000, 3) := by decide +kernel
theorem dX4_init_19 : decode cX4_init 19 = .ok (.invokestatic 15, 3) := by decide +kernel
theorem dX4_init_22 : decode cX4_init 22 = .ok (.return_, 1) := by decide +kernel
theorem dX4_put_0 : decode cX4_put 0 = .ok (.aload_n 0, 1) := by decide +kernel
theorem dX4_put_1 : decode cX4_put 1 = .ok (.getfield 9, 3) := by decide +kernel
theorem dX4_put_4 : decode cX4_put 4 = .ok (.iload_n 1, 1) := by decide +kernel
theorem dX4_put_5 : decode cX4_put 5 = .ok (.invokestatic 21, 3) := by decide +kernel
theorem dX4_put_8 : decode cX4_put 8 = .ok (.istore_n 3, 1) := by decide +kernel
theorem dX4_put_9 : decode cX4_put 9 = .ok (.aload_n 0, 1) := by decide +kernel
theorem dX4_put_10 : decode cX4_put 10 = .ok (.getfield 9, 3) := by decide +kernel
theorem dX4_put_13 : decode cX4_put 13 = .ok (.iload_n 1, 1) := by decide +kernel
theorem dX4_put_14 : decode cX4_put 14 = .ok (.iload_n 2, 1) := by decide +kernel
theorem dX4_put_15 : decode cX4_put 15 = .ok (.invokestatic 25, 3) := by decide +kernel
theorem dX4_put_18 : decode cX4_put 18 = .ok (.iload_n 3, 1) := by decide +kernel
theorem dX4_put_19 : decode cX4_put 19 = .ok (.ireturn, 1) := by decide +kernel
theorem dX4_handicapOf_0 : decode cX4_handicapOf 0 = .ok (.bipush 20, 2) := by decide +kernel
theorem dX4_handicapOf_2 : decode cX4_handicapOf 2 = .ok (.aload_n 0, 1) := by decide +kernel
theorem dX4_handicapOf_3 : decode cX4_handicapOf 3 = .ok (.getfield 9, 3) := by decide +kernel
theorem dX4_handicapOf_6 : decode cX4_handicapOf 6 = .ok (.iload_n 1, 1) := by decide +kernel
theorem dX4_handicapOf_7 : decode cX4_handicapOf 7 = .ok (.invokestatic 21, 3) := by decide +kernel
theorem dX4_handicapOf_10 : decode cX4_handicapOf 10 = .ok (.bipush 100, 2) := by decide +kernel
theorem dX4_handicapOf_12 : decode cX4_handicapOf 12 = .ok (.idiv, 1) := by decide +kernel
theorem dX4_handicapOf_13 : decode cX4_handicapOf 13 = .ok (.isub, 1) := by decide +kernel
theorem dX4_handicapOf_14 : decode cX4_handicapOf 14 = .ok (.ireturn, 1) := by decide +kernel
theorem dX4_freeTurnsOfOther_0 : decode cX4_freeTurnsOfOther 0 = .ok (.aload_n 0, 1) := by decide +kernel
theorem dX4_freeTurnsOfOther_1 : decode cX4_freeTurnsOfOther 1 = .ok (.iload_n 2, 1) := by decide +kernel
theorem dX4_freeTurnsOfOther_2 : decode cX4_freeTurnsOfOther 2 = .ok (.invokevirtual 29, 3) := by decide +kernel
theorem dX4_freeTurnsOfOther_5 : decode cX4_freeTurnsOfOther 5 = .ok (.aload_n 0, 1) := by decide +kernel
theorem dX4_freeTurnsOfOther_6 : decode cX4_freeTurnsOfOther 6 = .ok (.iload_n 1, 1) := by decide +kernel
theorem dX4_freeTurnsOfOther_7 : decode cX4_freeTurnsOfOther 7 = .ok (.invokevirtual 29, 3) := by decide +kernel
theorem dX4_freeTurnsOfOther_10 : decode cX4_freeTurnsOfOther 10 = .ok (.isub, 1) := by decide +kernel
theorem dX4_freeTurnsOfOther_11 : decode cX4_freeTurnsOfOther 11 = .ok (.istore_n 3, 1) := by decide +kernel
theorem dX4_freeTurnsOfOther_12 : decode cX4_freeTurnsOfOther 12 = .ok (.iload_n 3, 1) := by decide +kernel
theorem dX4_freeTurnsOfOther_13 : decode cX4_freeTurnsOfOther 13 = .ok (.invokestatic 33, 3) := by decide +kernel
theorem dX4_freeTurnsOfOther_16 : decode cX4_freeTurnsOfOther 16 = .ok (.iconst 1, 1) := by decide +kernel
theorem dX4_freeTurnsOfOther_17 : decode cX4_freeTurnsOfOther 17 = .ok (.iadd, 1) := by decide +kernel
theorem dX4_freeTurnsOfOther_18 : decode cX4_freeTurnsOfOther 18 = .ok (.iconst 2, 1) := by decide +kernel
theorem dX4_freeTurnsOfOther_19 : decode cX4_freeTurnsOfOther 19 = .ok (.idiv, 1) := by decide +kernel
theorem dX4_freeTurnsOfOther_20 : decode cX4_freeTurnsOfOther 20 = .ok (.istore 4, 2) := by decide +kernel
theorem dX4_freeTurnsOfOther_22 : decode cX4_freeTurnsOfOther 22 = .ok (.iload_n 3, 1) := by decide +kernel
theorem dX4_freeTurnsOfOther_23 : decode cX4_freeTurnsOfOther 23 = .ok (.ifCond .ge 9, 3) := by decide +kernel
theorem dX4_freeTurnsOfOther_26 : decode cX4_freeTurnsOfOther 26 = .ok (.iload 4, 2) := by decide +kernel
theorem dX4_freeTurnsOfOther_28 : decode cX4_freeTurnsOfOther 28 = .ok (.ineg, 1) := by decide +kernel
theorem dX4_freeTurnsOfOther_29 : decode cX4_freeTurnsOfOther 29 = .ok (.goto 5, 3) := by decide +kernel
theorem dX4_freeTurnsOfOther_32 : decode cX4_freeTurnsOfOther 32 = .ok (.iload 4, 2) := by decide +kernel
theorem dX4_freeTurnsOfOther_34 : decode cX4_freeTurnsOfOther 34 = .ok (.ireturn, 1) := by decide +kernel
theorem dX4_move_0 : decode cX4_move 0 = .ok (.aload_n 0, 1) := by decide +kernel
theorem dX4_move_1 : decode cX4_move 1 = .ok (.getfield 9, 3) := by decide +kernel
theorem dX4_move_4 : decode cX4_move 4 = .ok (.iload_n 1, 1) := by decide +kernel
theorem dX4_move_5 : decode cX4_move 5 = .ok (.invokestatic 21, 3) := by decide +kernel
theorem dX4_move_8 : decode cX4_move 8 = .ok (.istore_n 3, 1) := by decide +kernel
theorem dX4_move_9 : decode cX4_move 9 = .ok (.aload_n 0, 1) := by decide +kernel
theorem dX4_move_10 : decode cX4_move 10 = .ok (.getfield 9, 3) := by decide +kernel
theorem dX4_move_13 : decode cX4_move 13 = .ok (.iload_n 2, 1) := by decide +kernel
theorem dX4_move_14 : decode cX4_move 14 = .ok (.invokestatic 21, 3) := by decide +kernel
theorem dX4_move_17 : decode cX4_move 17 = .ok (.istore 4, 2) := by decide +kernel
theorem dX4_move_19 : decode cX4_move 19 = .ok (.bipush 10, 2) := by decide +kernel
theorem dX4_move_21 : decode cX4_move 21 = .ok (.iload_n 3, 1) := by decide +kernel
theorem dX4_move_22 : decode cX4_move 22 = .ok (.iload 4, 2) := by decide +kernel
theorem dX4_move_24 : decode cX4_move 24 = .ok (.isub, 1) := by decide +kernel
theorem dX4_move_25 : decode cX4_move 25 = .ok (.bipush 20, 2) := by decide +kernel
theorem dX4_move_27 : decode cX4_move 27 = .ok (.idiv, 1) := by decide +kernel
theorem dX4_move_28 : decode cX4_move 28 = .ok (.isub, 1) := by decide +kernel
theorem dX4_move_29 : decode cX4_move 29 = .ok (.iconst 1, 1) := by decide +kernel
theorem dX4_move_30 : decode cX4_move 30 = .ok (.bipush 19, 2) := by decide +kernel
theorem dX4_move_32 : decode cX4_move 32 = .ok (.invokestatic 38, 3) := by decide +kernel
theorem dX4_move_35 : decode cX4_move 35 = .ok (.istore 5, 2) := by decide +kernel
theorem dX4_move_37 : decode cX4_move 37 = .ok (.aload_n 0, 1) := by decide +kernel
theorem dX4_move_38 : decode cX4_move 38 = .ok (.getfield 9, 3) := by decide +kernel
theorem dX4_move_41 : decode cX4_move 41 = .ok (.iload_n 1, 1) := by decide +kernel
theorem dX4_move_42 : decode cX4_move 42 = .ok (.iload_n 3, 1) := by decide +kernel
theorem dX4_move_43 : decode cX4_move 43 = .ok (.iload 5, 2) := by decide +kernel
theorem dX4_move_45 : decode cX4_move 45 = .ok (.iadd, 1) := by decide +kernel
theorem dX4_move_46 : decode cX4_move 46 = .ok (.iconst 0, 1) := by decide +kernel
theorem dX4_move_47 : decode cX4_move 47 = .ok (.sipush 2000, 3) := by decide +kernel
theorem dX4_move_50 : decode cX4_move 50 = .ok (.invokestatic 38, 3) := by decide +kernel
theorem dX4_move_53 : decode cX4_move 53 = .ok (.invokestatic 25, 3) := by decide +kernel
theorem dX4_move_56 : decode cX4_move 56 = .ok (.aload_n 0, 1) := by decide +kernel
theorem dX4_move_57 : decode cX4_move 57 = .ok (.getfield 9, 3) := by decide +kernel
theorem dX4_move_60 : decode cX4_move 60 = .ok (.iload_n 2, 1) := by decide +kernel
theorem dX4_move_61 : decode cX4_move 61 = .ok (.iload 4, 2) := by decide +kernel
theorem dX4_move_63 : decode cX4_move 63 = .ok (.iload 5, 2) := by decide +kernel
theorem dX4_move_65 : decode cX4_move 65 = .ok (.isub, 1) := by decide +kernel
theorem dX4_move_66 : decode cX4_move 66 = .ok (.iconst 0, 1) := by decide +kernel
theorem dX4_move_67 : decode cX4_move 67 = .ok (.sipush 2000, 3) := by decide +kernel
theorem dX4_move_70 : decode cX4_move 70 = .ok (.invokestatic 38, 3) := by decide +kernel
theorem dX4_move_73 : decode cX4_move 73 = .ok (.invokestatic 25, 3) := by decide +kernel
theorem dX4_move_76 : decode cX4_move 76 = .ok (.iload 5, 2) := by decide +kernel
theorem dX4_move_78 : decode cX4_move 78 = .ok (.ireturn, 1) := by decide +kernel
theorem dX4_held_0 : decode cX4_held 0 = .ok (.iload_n 1, 1) := by decide +kernel
theorem dX4_held_1 : decode cX4_held 1 = .ok (.iload_n 2, 1) := by decide +kernel
theorem dX4_held_2 : decode cX4_held 2 = .ok (.iload_n 0, 1) := by decide +kernel
theorem dX4_held_3 : decode cX4_held 3 = .ok (.invokestatic 42, 3) := by decide +kernel
theorem dX4_held_6 : decode cX4_held 6 = .ok (.invokestatic 46, 3) := by decide +kernel
theorem dX4_held_9 : decode cX4_held 9 = .ok (.ireturn, 1) := by decide +kernel
theorem dX5_init_0 : decode cX5_init 0 = .ok (.aload_n 0, 1) := by decide +kernel
theorem dX5_init_1 : decode cX5_init 1 = .ok (.invokespecial 3, 3) := by decide +kernel
theorem dX5_init_4 : decode cX5_init 4 = .ok (.aload_n 0, 1) := by decide +kernel
theorem dX5_init_5 : decode cX5_init 5 = .ok (.new 9, 3) := by decide +kernel
theorem dX5_init_8 : decode cX5_init 8 = .ok (.dup, 1) := by decide +kernel
theorem dX5_init_9 : decode cX5_init 9 = .ok (.invokespecial 11, 3) := by decide +kernel
theorem dX5_init_12 : decode cX5_init 12 = .ok (.putfield 12, 3) := by decide +kernel
theorem dX5_init_15 : decode cX5_init 15 = .ok (.aload_n 0, 1) := by decide +kernel
theorem dX5_init_16 : decode cX5_init 16 = .ok (.new 16, 3) := by decide +kernel
theorem dX5_init_19 : decode cX5_init 19 = .ok (.dup, 1) := by decide +kernel
theorem dX5_init_20 : decode cX5_init 20 = .ok (.invokespecial 18, 3) := by decide +kernel
theorem dX5_init_23 : decode cX5_init 23 = .ok (.putfield 19, 3) := by decide +kernel
theorem dX5_init_26 : decode cX5_init 26 = .ok (.aload_n 0, 1) := by decide +kernel
theorem dX5_init_27 : decode cX5_init 27 = .ok (.new 23, 3) := by decide +kernel
theorem dX5_init_30 : decode cX5_init 30 = .ok (.dup, 1) := by decide +kernel
theorem dX5_init_31 : decode cX5_init 31 = .ok (.invokespecial 25, 3) := by decide +kernel
theorem dX5_init_34 : decode cX5_init 34 = .ok (.putfield 26, 3) := by decide +kernel
theorem dX5_init_37 : decode cX5_init 37 = .ok (.aload_n 0, 1) := by decide +kernel
theorem dX5_init_38 : decode cX5_init 38 = .ok (.new 30, 3) := by decide +kernel
theorem dX5_init_41 : decode cX5_init 41 = .ok (.dup, 1) := by decide +kernel
theorem dX5_init_42 : decode cX5_init 42 = .ok (.invokespecial 32, 3) := by decide +kernel
theorem dX5_init_45 : decode cX5_init 45 = .ok (.putfield 33, 3) := by decide +kernel
theorem dX5_init_48 : decode cX5_init 48 = .ok (.return_, 1) := by decide +kernel
theorem dX5_game_0 : decode cX5_game 0 = .ok (.iload_n 1, 1) := by decide +kernel
theorem dX5_game_1 : decode cX5_game 1 = .ok (.invokestatic 37, 3) := by decide +kernel
theorem dX5_game_4 : decode cX5_game 4 = .ok (.ifCond .eq 15, 3) := by decide +kernel
theorem dX5_game_7 : decode cX5_game 7 = .ok (.iload_n 2, 1) := by decide +kernel
theorem dX5_game_8 : decode cX5_game 8 = .ok (.invokestatic 37, 3) := by decide +kernel
theorem dX5_game_11 : decode cX5_game 11 = .ok (.ifCond .eq 8, 3) := by decide +kernel
theorem dX5_game_14 : decode cX5_game 14 = .ok (.iload_n 1, 1) := by decide +kernel
theorem dX5_game_15 : decode cX5_game 15 = .ok (.iload_n 2, 1) := by decide +kernel
theorem dX5_game_16 : decode cX5_game 16 = .ok (.if_icmp .ne 6, 3) := by decide +kernel
theorem dX5_game_19 : decode cX5_game 19 = .ok (.bipush (-101), 2) := by decide +kernel
theorem dX5_game_21 : decode cX5_game 21 = .ok (.ireturn, 1) := by decide +kernel
theorem dX5_game_22 : decode cX5_game 22 = .ok (.aload_n 0, 1) := by decide +kernel
theorem dX5_game_23 : decode cX5_game 23 = .ok (.getfield 26, 3) := by decide +kernel
theorem dX5_game_26 : decode cX5_game 26 = .ok (.iload_n 1, 1) := by decide +kernel
theorem dX5_game_27 : decode cX5_game 27 = .ok (.iload_n 2, 1) := by decide +kernel
theorem dX5_game_28 : decode cX5_game 28 = .ok (.invokevirtual 41, 3) := by decide +kernel
theorem dX5_game_31 : decode cX5_game 31 = .ok (.istore_n 3, 1) := by decide +kernel
theorem dX5_game_32 : decode cX5_game 32 = .ok (.aload_n 0, 1) := by decide +kernel
theorem dX5_game_33 : decode cX5_game 33 = .ok (.getfield 12, 3) := by decide +kernel
theorem dX5_game_36 : decode cX5_game 36 = .ok (.iload_n 1, 1) := by decide +kernel
theorem dX5_game_37 : decode cX5_game 37 = .ok (.iload_n 2, 1) := by decide +kernel
theorem dX5_game_38 : decode cX5_game 38 = .ok (.iconst 0, 1) := by decide +kernel
theorem dX5_game_39 : decode cX5_game 39 = .ok (.iload_n 3, 1) := by decide +kernel
theorem dX5_game_40 : decode cX5_game 40 = .ok (.ineg, 1) := by decide +kernel
theorem dX5_game_41 : decode cX5_game 41 = .ok (.invokestatic 45, 3) := by decide +kernel
theorem dX5_game_44 : decode cX5_game 44 = .ok (.iconst 0, 1) := by decide +kernel
theorem dX5_game_45 : decode cX5_game 45 = .ok (.iload_n 3, 1) := by decide +kernel
theorem dX5_game_46 : decode cX5_game 46 = .ok (.invokestatic 45, 3) := by decide +kernel
theorem dX5_game_49 : decode cX5_game 49 = .ok (.invokevirtual 50, 3) := by decide +kernel
theorem dX5_game_52 : decode cX5_game 52 = .ok (.iload_n 3, 1) := by decide +kernel
theorem dX5_game_53 : decode cX5_game 53 = .ok (.ireturn, 1) := by decide +kernel
theorem dX5_stroke_0 : decode cX5_stroke 0 = .ok (.iload_n 1, 1) := by decide +kernel
theorem dX5_stroke_1 : decode cX5_stroke 1 = .ok (.iconst 0, 1) := by decide +kernel
theorem dX5_stroke_2 : decode cX5_stroke 2 = .ok (.bipush 6, 2) := by decide +kernel
theorem dX5_stroke_4 : decode cX5_stroke 4 = .ok (.invokestatic 54, 3) := by decide +kernel
theorem dX5_stroke_7 : decode cX5_stroke 7 = .ok (.ifCond .ne 5, 3) := by decide +kernel
theorem dX5_stroke_10 : decode cX5_stroke 10 = .ok (.iconst (-1), 1) := by decide +kernel
theorem dX5_stroke_11 : decode cX5_stroke 11 = .ok (.ireturn, 1) := by decide +kernel
theorem dX5_stroke_12 : decode cX5_stroke 12 = .ok (.iload_n 1, 1) := by decide +kernel
theorem dX5_stroke_13 : decode cX5_stroke 13 = .ok (.ifCond .eq 8, 3) := by decide +kernel
theorem dX5_stroke_16 : decode cX5_stroke 16 = .ok (.iload_n 1, 1) := by decide +kernel
theorem dX5_stroke_17 : decode cX5_stroke 17 = .ok (.iconst 3, 1) := by decide +kernel
theorem dX5_stroke_18 : decode cX5_stroke 18 = .ok (.if_icmp .ne 7, 3) := by decide +kernel
theorem dX5_stroke_21 : decode cX5_stroke 21 = .ok (.iconst 1, 1) := by decide +kernel
theorem dX5_stroke_22 : decode cX5_stroke 22 = .ok (.goto 4, 3) := by decide +kernel
theorem dX5_stroke_25 : decode cX5_stroke 25 = .ok (.iconst 0, 1) := by decide +kernel
theorem dX5_stroke_26 : decode cX5_stroke 26 = .ok (.istore_n 3, 1) := by decide +kernel
theorem dX5_stroke_27 : decode cX5_stroke 27 = .ok (.iload_n 3, 1) := by decide +kernel
theorem dX5_stroke_28 : decode cX5_stroke 28 = .ok (.ifCond .eq 14, 3) := by decide +kernel
theorem dX5_stroke_31 : decode cX5_stroke 31 = .ok (.iload_n 2, 1) := by decide +kernel
theorem dX5_stroke_32 : decode cX5_stroke 32 = .ok (.iconst 0, 1) := by decide +kernel
theorem dX5_stroke_33 : decode cX5_stroke 33 = .ok (.iconst 3, 1) := by decide +kernel
theorem dX5_stroke_34 : decode cX5_stroke 34 = .ok (.invokestatic 54, 3) := by decide +kernel
theorem dX5_stroke_37 : decode cX5_stroke 37 = .ok (.ifCond .ne 5, 3) := by decide +kernel
theorem dX5_stroke_40 : decode cX5_stroke 40 = .ok (.iconst (-1), 1) := by decide +kernel
theorem dX5_stroke_41 : decode cX5_stroke 41 = .ok (.ireturn, 1) := by decide +kernel
theorem dX5_stroke_42 : decode cX5_stroke 42 = .ok (.aload_n 0, 1) := by decide +kernel
theorem dX5_stroke_43 : decode cX5_stroke 43 = .ok (.getfield 12, 3) := by decide +kernel
theorem dX5_stroke_46 : decode cX5_stroke 46 = .ok (.iload_n 1, 1) := by decide +kernel
theorem dX5_stroke_47 : decode cX5_stroke 47 = .ok (.iload_n 3, 1) := by decide +kernel
theorem dX5_stroke_48 : decode cX5_stroke 48 = .ok (.ifCond .eq 7, 3) := by decide +kernel
theorem dX5_stroke_51 : decode cX5_stroke 51 = .ok (.iload_n 2, 1) := by decide +kernel
theorem dX5_stroke_52 : decode cX5_stroke 52 = .ok (.goto 4, 3) := by decide +kernel
theorem dX5_stroke_55 : decode cX5_stroke 55 = .ok (.iconst 0, 1) := by decide +kernel
theorem dX5_stroke_56 : decode cX5_stroke 56 = .ok (.invokevirtual 58, 3) := by decide +kernel
theorem dX5_stroke_59 : decode cX5_stroke 59 = .ok (.ireturn, 1) := by decide +kernel
theorem dX5_told_0 : decode cX5_told 0 = .ok (.iload_n 1, 1) := by decide +kernel
theorem dX5_told_1 : decode cX5_told 1 = .ok (.ifCond .lt 12, 3) := by decide +kernel
theorem dX5_told_4 : decode cX5_told 4 = .ok (.iload_n 2, 1) := by decide +kernel
theorem dX5_told_5 : decode cX5_told 5 = .ok (.iconst 0, 1) := by decide +kernel
theorem dX5_told_6 : decode cX5_told 6 = .ok (.iconst 3, 1) := by decide +kernel
theorem dX5_told_7 : decode cX5_told 7 = .ok (.invokestatic 54, 3) := by decide +kernel
theorem dX5_told_10 : decode cX5_told 10 = .ok (.ifCond .ne 7, 3) := by decide +kernel
theorem dX5_told_13 : decode cX5_told 13 = .ok (.iconst (-1), 1) := by decide +kernel
theorem dX5_told_14 : decode cX5_told 14 = .ok (.goto 12, 3) := by decide +kernel
theorem dX5_told_17 : decode cX5_told 17 = .ok (.aload_n 0, 1) := by decide +kernel
theorem dX5_told_18 : decode cX5_told 18 = .ok (.getfield 12, 3) := by decide +kernel
theorem dX5_told_21 : decode cX5_told 21 = .ok (.iload_n 1, 1) := by decide +kernel
theorem dX5_told_22 : decode cX5_told 22 = .ok (.iload_n 2, 1) := by decide +kernel
theorem dX5_told_23 : decode cX5_told 23 = .ok (.invokevirtual 61, 3) := by decide +kernel
theorem dX5_told_26 : decode cX5_told 26 = .ok (.ireturn, 1) := by decide +kernel
theorem dX5_hit_0 : decode cX5_hit 0 = .ok (.aload_n 0, 1) := by decide +kernel
theorem dX5_hit_1 : decode cX5_hit 1 = .ok (.getfield 12, 3) := by decide +kernel
theorem dX5_hit_4 : decode cX5_hit 4 = .ok (.iload_n 1, 1) := by decide +kernel
theorem dX5_hit_5 : decode cX5_hit 5 = .ok (.invokevirtual 64, 3) := by decide +kernel
theorem dX5_hit_8 : decode cX5_hit 8 = .ok (.ireturn, 1) := by decide +kernel
theorem dX5_state_0 : decode cX5_state 0 = .ok (.iload_n 2, 1) := by decide +kernel
theorem dX5_state_1 : decode cX5_state 1 = .ok (.iconst 0, 1) := by decide +kernel
theorem dX5_state_2 : decode cX5_state 2 = .ok (.bipush 11, 2) := by decide +kernel
theorem dX5_state_4 : decode cX5_state 4 = .ok (.invokestatic 54, 3) := by decide +kernel
theorem dX5_state_7 : decode cX5_state 7 = .ok (.ifCond .eq 15, 3) := by decide +kernel
theorem dX5_state_10 : decode cX5_state 10 = .ok (.aload_n 0, 1) := by decide +kernel
theorem dX5_state_11 : decode cX5_state 11 = .ok (.getfield 12, 3) := by decide +kernel
theorem dX5_state_14 : decode cX5_state 14 = .ok (.iload_n 1, 1) := by decide +kernel
theorem dX5_state_15 : decode cX5_state 15 = .ok (.iload_n 2, 1) := by decide +kernel
theorem dX5_state_16 : decode cX5_state 16 = .ok (.invokevirtual 68, 3) := by decide +kernel
theorem dX5_state_19 : decode cX5_state 19 = .ok (.goto 4, 3) := by decide +kernel
theorem dX5_state_22 : decode cX5_state 22 = .ok (.iconst (-1), 1) := by decide +kernel
theorem dX5_state_23 : decode cX5_state 23 = .ok (.ireturn, 1) := by decide +kernel
theorem dX5_found_0 : decode cX5_found 0 = .ok (.aload_n 0, 1) := by decide +kernel
theorem dX5_found_1 : decode cX5_found 1 = .ok (.getfield 12, 3) := by decide +kernel
theorem dX5_found_4 : decode cX5_found 4 = .ok (.iload_n 1, 1) := by decide +kernel
theorem dX5_found_5 : decode cX5_found 5 = .ok (.aload_n 0, 1) := by decide +kernel
theorem dX5_found_6 : decode cX5_found 6 = .ok (.getfield 19, 3) := by decide +kernel
theorem dX5_found_9 : decode cX5_found 9 = .ok (.invokevirtual 71, 3) := by decide +kernel
theorem dX5_found_12 : decode cX5_found 12 = .ok (.ireturn, 1) := by decide +kernel
theorem dX5_type_0 : decode cX5_type 0 = .ok (.aload_n 0, 1) := by decide +kernel
theorem dX5_type_1 : decode cX5_type 1 = .ok (.getfield 19, 3) := by decide +kernel
theorem dX5_type_4 : decode cX5_type 4 = .ok (.lload_n 1, 1) := by decide +kernel
theorem dX5_type_5 : decode cX5_type 5 = .ok (.iload_n 3, 1) := by decide +kernel
theorem dX5_type_6 : decode cX5_type 6 = .ok (.invokevirtual 75, 3) := by decide +kernel
theorem dX5_type_9 : decode cX5_type 9 = .ok (.ireturn, 1) := by decide +kernel
theorem dX5_laws_0 : decode cX5_laws 0 = .ok (.aload_n 0, 1) := by decide +kernel
theorem dX5_laws_1 : decode cX5_laws 1 = .ok (.getfield 19, 3) := by decide +kernel
theorem dX5_laws_4 : decode cX5_laws 4 = .ok (.invokevirtual 79, 3) := by decide +kernel
theorem dX5_laws_7 : decode cX5_laws 7 = .ok (.ireturn, 1) := by decide +kernel
theorem dX5_count_0 : decode cX5_count 0 = .ok (.iload_n 1, 1) := by decide +kernel
theorem dX5_count_1 : decode cX5_count 1 = .ok (.iconst 0, 1) := by decide +kernel
theorem dX5_count_2 : decode cX5_count 2 = .ok (.iconst 2, 1) := by decide +kernel
theorem dX5_count_3 : decode cX5_count 3 = .ok (.invokestatic 54, 3) := by decide +kernel
theorem dX5_count_6 : decode cX5_count 6 = .ok (.ifCond .eq 14, 3) := by decide +kernel
theorem dX5_count_9 : decode cX5_count 9 = .ok (.aload_n 0, 1) := by decide +kernel
theorem dX5_count_10 : decode cX5_count 10 = .ok (.getfield 12, 3) := by decide +kernel
theorem dX5_count_13 : decode cX5_count 13 = .ok (.iload_n 1, 1) := by decide +kernel
theorem dX5_count_14 : decode cX5_count 14 = .ok (.invokevirtual 83, 3) := by decide +kernel
theorem dX5_count_17 : decode cX5_count 17 = .ok (.goto 4, 3) := by decide +kernel
theorem dX5_count_20 : decode cX5_count 20 = .ok (.iconst (-1), 1) := by decide +kernel
theorem dX5_count_21 : decode cX5_count 21 = .ok (.ireturn, 1) := by decide +kernel
theorem dX5_index_0 : decode cX5_index 0 = .ok (.iload_n 1, 1) := by decide +kernel
theorem dX5_index_1 : decode cX5_index 1 = .ok (.invokestatic 37, 3) := by decide +kernel
theorem dX5_index_4 : decode cX5_index 4 = .ok (.ifCond .eq 26, 3) := by decide +kernel
theorem dX5_index_7 : decode cX5_index 7 = .ok (.iload_n 2, 1) := by decide +kernel
theorem dX5_index_8 : decode cX5_index 8 = .ok (.iconst 0, 1) := by decide +kernel
theorem dX5_index_9 : decode cX5_index 9 = .ok (.sipush 2000, 3) := by decide +kernel
theorem dX5_index_12 : decode cX5_index 12 = .ok (.invokestatic 54, 3) := by decide +kernel
theorem dX5_index_15 : decode cX5_index 15 = .ok (.ifCond .eq 15, 3) := by decide +kernel
theorem dX5_index_18 : decode cX5_index 18 = .ok (.aload_n 0, 1) := by decide +kernel
theorem dX5_index_19 : decode cX5_index 19 = .ok (.getfield 26, 3) := by decide +kernel
theorem dX5_index_22 : decode cX5_index 22 = .ok (.iload_n 1, 1) := by decide +kernel
theorem dX5_index_23 : decode cX5_index 23 = .ok (.iload_n 2, 1) := by decide +kernel
theorem dX5_index_24 : decode cX5_index 24 = .ok (.invokevirtual 86, 3) := by decide +kernel
theorem dX5_index_27 : decode cX5_index 27 = .ok (.goto 4, 3) := by decide +kernel
theorem dX5_index_30 : decode cX5_index 30 = .ok (.iconst (-1), 1) := by decide +kernel
theorem dX5_index_31 : decode cX5_index 31 = .ok (.ireturn, 1) := by decide +kernel
theorem dX5_handicap_0 : decode cX5_handicap 0 = .ok (.iload_n 1, 1) := by decide +kernel
theorem dX5_handicap_1 : decode cX5_handicap 1 = .ok (.invokestatic 37, 3) := by decide +kernel
theorem dX5_handicap_4 : decode cX5_handicap 4 = .ok (.ifCond .eq 14, 3) := by decide +kernel
theorem dX5_handicap_7 : decode cX5_handicap 7 = .ok (.aload_n 0, 1) := by decide +kernel
theorem dX5_handicap_8 : decode cX5_handicap 8 = .ok (.getfield 26, 3) := by decide +kernel
theorem dX5_handicap_11 : decode cX5_handicap 11 = .ok (.iload_n 1, 1) := by decide +kernel
theorem dX5_handicap_12 : decode cX5_handicap 12 = .ok (.invokevirtual 89, 3) := by decide +kernel
theorem dX5_handicap_15 : decode cX5_handicap 15 = .ok (.goto 5, 3) := by decide +kernel
theorem dX5_handicap_18 : decode cX5_handicap 18 = .ok (.bipush (-101), 2) := by decide +kernel
theorem dX5_handicap_20 : decode cX5_handicap 20 = .ok (.ireturn, 1) := by decide +kernel
theorem dX5_settle_0 : decode cX5_settle 0 = .ok (.aload_n 0, 1) := by decide +kernel
theorem dX5_settle_1 : decode cX5_settle 1 = .ok (.getfield 12, 3) := by decide +kernel
theorem dX5_settle_4 : decode cX5_settle 4 = .ok (.invokevirtual 92, 3) := by decide +kernel
theorem dX5_settle_7 : decode cX5_settle 7 = .ok (.istore_n 1, 1) := by decide +kernel
theorem dX5_settle_8 : decode cX5_settle 8 = .ok (.iload_n 1, 1) := by decide +kernel
theorem dX5_settle_9 : decode cX5_settle 9 = .ok (.bipush (-4), 2) := by decide +kernel
theorem dX5_settle_11 : decode cX5_settle 11 = .ok (.if_icmp .ne 6, 3) := by decide +kernel
theorem dX5_settle_14 : decode cX5_settle 14 = .ok (.bipush (-2), 2) := by decide +kernel
theorem dX5_settle_16 : decode cX5_settle 16 = .ok (.ireturn, 1) := by decide +kernel
theorem dX5_settle_17 : decode cX5_settle 17 = .ok (.aload_n 0, 1) := by decide +kernel
theorem dX5_settle_18 : decode cX5_settle 18 = .ok (.getfield 26, 3) := by decide +kernel
theorem dX5_settle_21 : decode cX5_settle 21 = .ok (.aload_n 0, 1) := by decide +kernel
theorem dX5_settle_22 : decode cX5_settle 22 = .ok (.getfield 12, 3) := by decide +kernel
theorem dX5_settle_25 : decode cX5_settle 25 = .ok (.iload_n 1, 1) := by decide +kernel
theorem dX5_settle_26 : decode cX5_settle 26 = .ok (.invokevirtual 95, 3) := by decide +kernel
theorem dX5_settle_29 : decode cX5_settle 29 = .ok (.aload_n 0, 1) := by decide +kernel
theorem dX5_settle_30 : decode cX5_settle 30 = .ok (.getfield 12, 3) := by decide +kernel
theorem dX5_settle_33 : decode cX5_settle 33 = .ok (.iconst 1, 1) := by decide +kernel
theorem dX5_settle_34 : decode cX5_settle 34 = .ok (.iload_n 1, 1) := by decide +kernel
theorem dX5_settle_35 : decode cX5_settle 35 = .ok (.isub, 1) := by decide +kernel
theorem dX5_settle_36 : decode cX5_settle 36 = .ok (.invokevirtual 95, 3) := by decide +kernel
theorem dX5_settle_39 : decode cX5_settle 39 = .ok (.invokevirtual 98, 3) := by decide +kernel
theorem dX5_settle_42 : decode cX5_settle 42 = .ok (.istore_n 2, 1) := by decide +kernel
theorem dX5_settle_43 : decode cX5_settle 43 = .ok (.aload_n 0, 1) := by decide +kernel
theorem dX5_settle_44 : decode cX5_settle 44 = .ok (.getfield 12, 3) := by decide +kernel
theorem dX5_settle_47 : decode cX5_settle 47 = .ok (.invokevirtual 101, 3) := by decide +kernel
theorem dX5_settle_50 : decode cX5_settle 50 = .ok (.iload_n 2, 1) := by decide +kernel
theorem dX5_settle_51 : decode cX5_settle 51 = .ok (.ireturn, 1) := by decide +kernel
theorem dX5_match_0 : decode cX5_match 0 = .ok (.iload_n 1, 1) := by decide +kernel
theorem dX5_match_1 : decode cX5_match 1 = .ok (.invokestatic 104, 3) := by decide +kernel
theorem dX5_match_4 : decode cX5_match 4 = .ok (.ifCond .eq 24, 3) := by decide +kernel
theorem dX5_match_7 : decode cX5_match 7 = .ok (.iload_n 2, 1) := by decide +kernel
theorem dX5_match_8 : decode cX5_match 8 = .ok (.iconst 0, 1) := by decide +kernel
theorem dX5_match_9 : decode cX5_match 9 = .ok (.iconst 2, 1) := by decide +kernel
theorem dX5_match_10 : decode cX5_match 10 = .ok (.invokestatic 54, 3) := by decide +kernel
theorem dX5_match_13 : decode cX5_match 13 = .ok (.ifCond .eq 15, 3) := by decide +kernel
theorem dX5_match_16 : decode cX5_match 16 = .ok (.aload_n 0, 1) := by decide +kernel
theorem dX5_match_17 : decode cX5_match 17 = .ok (.getfield 33, 3) := by decide +kernel
theorem dX5_match_20 : decode cX5_match 20 = .ok (.iload_n 1, 1) := by decide +kernel
theorem dX5_match_21 : decode cX5_match 21 = .ok (.iload_n 2, 1) := by decide +kernel
theorem dX5_match_22 : decode cX5_match 22 = .ok (.invokevirtual 107, 3) := by decide +kernel
theorem dX5_match_25 : decode cX5_match 25 = .ok (.goto 4, 3) := by decide +kernel
theorem dX5_match_28 : decode cX5_match 28 = .ok (.iconst (-1), 1) := by decide +kernel
theorem dX5_match_29 : decode cX5_match 29 = .ok (.ireturn, 1) := by decide +kernel
theorem dX5_win_0 : decode cX5_win 0 = .ok (.iload_n 1, 1) := by decide +kernel
theorem dX5_win_1 : decode cX5_win 1 = .ok (.invokestatic 104, 3) := by decide +kernel
theorem dX5_win_4 : decode cX5_win 4 = .ok (.ifCond .eq 22, 3) := by decide +kernel
theorem dX5_win_7 : decode cX5_win 7 = .ok (.iload_n 2, 1) := by decide +kernel
theorem dX5_win_8 : decode cX5_win 8 = .ok (.invokestatic 37, 3) := by decide +kernel
theorem dX5_win_11 : decode cX5_win 11 = .ok (.ifCond .eq 15, 3) := by decide +kernel
theorem dX5_win_14 : decode cX5_win 14 = .ok (.aload_n 0, 1) := by decide +kernel
theorem dX5_win_15 : decode cX5_win 15 = .ok (.getfield 33, 3) := by decide +kernel
theorem dX5_win_18 : decode cX5_win 18 = .ok (.iload_n 1, 1) := by decide +kernel
theorem dX5_win_19 : decode cX5_win 19 = .ok (.iload_n 2, 1) := by decide +kernel
theorem dX5_win_20 : decode cX5_win 20 = .ok (.invokevirtual 110, 3) := by decide +kernel
theorem dX5_win_23 : decode cX5_win 23 = .ok (.goto 4, 3) := by decide +kernel
theorem dX5_win_26 : decode cX5_win 26 = .ok (.iconst (-1), 1) := by decide +kernel
theorem dX5_win_27 : decode cX5_win 27 = .ok (.ireturn, 1) := by decide +kernel
theorem dX5_unwin_0 : decode cX5_unwin 0 = .ok (.iload_n 1, 1) := by decide +kernel
theorem dX5_unwin_1 : decode cX5_unwin 1 = .ok (.invokestatic 104, 3) := by decide +kernel
theorem dX5_unwin_4 : decode cX5_unwin 4 = .ok (.ifCond .eq 14, 3) := by decide +kernel
theorem dX5_unwin_7 : decode cX5_unwin 7 = .ok (.aload_n 0, 1) := by decide +kernel
theorem dX5_unwin_8 : decode cX5_unwin 8 = .ok (.getfield 33, 3) := by decide +kernel
theorem dX5_unwin_11 : decode cX5_unwin 11 = .ok (.iload_n 1, 1) := by decide +kernel
theorem dX5_unwin_12 : decode cX5_unwin 12 = .ok (.invokevirtual 113, 3) := by decide +kernel
theorem dX5_unwin_15 : decode cX5_unwin 15 = .ok (.goto 4, 3) := by decide +kernel
theorem dX5_unwin_18 : decode cX5_unwin 18 = .ok (.iconst (-1), 1) := by decide +kernel
theorem dX5_unwin_19 : decode cX5_unwin 19 = .ok (.ireturn, 1) := by decide +kernel
theorem dX5_champion_0 : decode cX5_champion 0 = .ok (.aload_n 0, 1) := by decide +kernel
theorem dX5_champion_1 : decode cX5_champion 1 = .ok (.getfield 33, 3) := by decide +kernel
theorem dX5_champion_4 : decode cX5_champion 4 = .ok (.invokevirtual 116, 3) := by decide +kernel
theorem dX5_champion_7 : decode cX5_champion 7 = .ok (.ireturn, 1) := by decide +kernel
theorem dX5_lawns_0 : decode cX5_lawns 0 = .ok (.iload_n 1, 1) := by decide +kernel
theorem dX5_lawns_1 : decode cX5_lawns 1 = .ok (.iconst 1, 1) := by decide +kernel
theorem dX5_lawns_2 : decode cX5_lawns 2 = .ok (.iconst 4, 1) := by decide +kernel
theorem dX5_lawns_3 : decode cX5_lawns 3 = .ok (.invokestatic 54, 3) := by decide +kernel
theorem dX5_lawns_6 : decode cX5_lawns 6 = .ok (.ifCond .eq 14, 3) := by decide +kernel
theorem dX5_lawns_9 : decode cX5_lawns 9 = .ok (.aload_n 0, 1) := by decide +kernel
theorem dX5_lawns_10 : decode cX5_lawns 10 = .ok (.getfield 33, 3) := by decide +kernel
theorem dX5_lawns_13 : decode cX5_lawns 13 = .ok (.iload_n 1, 1) := by decide +kernel
theorem dX5_lawns_14 : decode cX5_lawns 14 = .ok (.invokevirtual 119, 3) := by decide +kernel
theorem dX5_lawns_17 : decode cX5_lawns 17 = .ok (.goto 4, 3) := by decide +kernel
theorem dX5_lawns_20 : decode cX5_lawns 20 = .ok (.iconst (-1), 1) := by decide +kernel
theorem dX5_lawns_21 : decode cX5_lawns 21 = .ok (.ireturn, 1) := by decide +kernel
theorem dX5_lay_0 : decode cX5_lay 0 = .ok (.iload_n 1, 1) := by decide +kernel
theorem dX5_lay_1 : decode cX5_lay 1 = .ok (.invokestatic 104, 3) := by decide +kernel
theorem dX5_lay_4 : decode cX5_lay 4 = .ok (.ifCond .eq 14, 3) := by decide +kernel
theorem dX5_lay_7 : decode cX5_lay 7 = .ok (.aload_n 0, 1) := by decide +kernel
theorem dX5_lay_8 : decode cX5_lay 8 = .ok (.getfield 33, 3) := by decide +kernel
theorem dX5_lay_11 : decode cX5_lay 11 = .ok (.iload_n 1, 1) := by decide +kernel
theorem dX5_lay_12 : decode cX5_lay 12 = .ok (.invokevirtual 122, 3) := by decide +kernel
theorem dX5_lay_15 : decode cX5_lay 15 = .ok (.goto 4, 3) := by decide +kernel
theorem dX5_lay_18 : decode cX5_lay 18 = .ok (.iconst (-1), 1) := by decide +kernel
theorem dX5_lay_19 : decode cX5_lay 19 = .ok (.ireturn, 1) := by decide +kernel
theorem dX5_hour_0 : decode cX5_hour 0 = .ok (.iload_n 1, 1) := by decide +kernel
theorem dX5_hour_1 : decode cX5_hour 1 = .ok (.invokestatic 104, 3) := by decide +kernel
theorem dX5_hour_4 : decode cX5_hour 4 = .ok (.ifCond .eq 14, 3) := by decide +kernel
theorem dX5_hour_7 : decode cX5_hour 7 = .ok (.aload_n 0, 1) := by decide +kernel
theorem dX5_hour_8 : decode cX5_hour 8 = .ok (.getfield 33, 3) := by decide +kernel
theorem dX5_hour_11 : decode cX5_hour 11 = .ok (.iload_n 1, 1) := by decide +kernel
theorem dX5_hour_12 : decode cX5_hour 12 = .ok (.invokevirtual 125, 3) := by decide +kernel
theorem dX5_hour_15 : decode cX5_hour 15 = .ok (.goto 4, 3) := by decide +kernel
theorem dX5_hour_18 : decode cX5_hour 18 = .ok (.iconst (-1), 1) := by decide +kernel
theorem dX5_hour_19 : decode cX5_hour 19 = .ok (.ireturn, 1) := by decide +kernel
theorem dX5_clear_0 : decode cX5_clear 0 = .ok (.aload_n 0, 1) := by decide +kernel
theorem dX5_clear_1 : decode cX5_clear 1 = .ok (.getfield 33, 3) := by decide +kernel
theorem dX5_clear_4 : decode cX5_clear 4 = .ok (.invokevirtual 128, 3) := by decide +kernel
theorem dX5_clear_7 : decode cX5_clear 7 = .ok (.ireturn, 1) := by decide +kernel
theorem dX5_within_0 : decode cX5_within 0 = .ok (.iload_n 0, 1) := by decide +kernel
theorem dX5_within_1 : decode cX5_within 1 = .ok (.iload_n 1, 1) := by decide +kernel
theorem dX5_within_2 : decode cX5_within 2 = .ok (.if_icmp .lt 12, 3) := by decide +kernel
theorem dX5_within_5 : decode cX5_within 5 = .ok (.iload_n 0, 1) := by decide +kernel
theorem dX5_within_6 : decode cX5_within 6 = .ok (.iload_n 2, 1) := by decide +kernel
theorem dX5_within_7 : decode cX5_within 7 = .ok (.if_icmp .gt 7, 3) := by decide +kernel
theorem dX5_within_10 : decode cX5_within 10 = .ok (.iconst 1, 1) := by decide +kernel
theorem dX5_within_11 : decode cX5_within 11 = .ok (.goto 4, 3) := by decide +kernel
theorem dX5_within_14 : decode cX5_within 14 = .ok (.iconst 0, 1) := by decide +kernel
theorem dX5_within_15 : decode cX5_within 15 = .ok (.ireturn, 1) := by decide +kernel
theorem dX5_isPlayer_0 : decode cX5_isPlayer 0 = .ok (.iload_n 0, 1) := by decide +kernel
theorem dX5_isPlayer_1 : decode cX5_isPlayer 1 = .ok (.iconst 0, 1) := by decide +kernel
theorem dX5_isPlayer_2 : decode cX5_isPlayer 2 = .ok (.bipush 7, 2) := by decide +kernel
theorem dX5_isPlayer_4 : decode cX5_isPlayer 4 = .ok (.invokestatic 54, 3) := by decide +kernel
theorem dX5_isPlayer_7 : decode cX5_isPlayer 7 = .ok (.ireturn, 1) := by decide +kernel
theorem dX5_at_0 : decode cX5_at 0 = .ok (.iload_n 1, 1) := by decide +kernel
theorem dX5_at_1 : decode cX5_at 1 = .ok (.ifCond .lt 15, 3) := by decide +kernel
theorem dX5_at_4 : decode cX5_at 4 = .ok (.iload_n 1, 1) := by decide +kernel
theorem dX5_at_5 : decode cX5_at 5 = .ok (.aload_n 0, 1) := by decide +kernel
theorem dX5_at_6 : decode cX5_at 6 = .ok (.arraylength, 1) := by decide +kernel
theorem dX5_at_7 : decode cX5_at 7 = .ok (.if_icmp .ge 9, 3) := by decide +kernel
theorem dX5_at_10 : decode cX5_at 10 = .ok (.aload_n 0, 1) := by decide +kernel
theorem dX5_at_11 : decode cX5_at 11 = .ok (.iload_n 1, 1) := by decide +kernel
theorem dX5_at_12 : decode cX5_at 12 = .ok (.iaload, 1) := by decide +kernel
theorem dX5_at_13 : decode cX5_at 13 = .ok (.goto 5, 3) := by decide +kernel
theorem dX5_at_16 : decode cX5_at 16 = .ok (.bipush (-4), 2) := by decide +kernel
theorem dX5_at_18 : decode cX5_at 18 = .ok (.ireturn, 1) := by decide +kernel
theorem dX5_set_0 : decode cX5_set 0 = .ok (.iload_n 1, 1) := by decide +kernel
theorem dX5_set_1 : decode cX5_set 1 = .ok (.ifCond .lt 13, 3) := by decide +kernel
theorem dX5_set_4 : decode cX5_set 4 = .ok (.iload_n 1, 1) := by decide +kernel
theorem dX5_set_5 : decode cX5_set 5 = .ok (.aload_n 0, 1) := by decide +kernel
theorem dX5_set_6 : decode cX5_set 6 = .ok (.arraylength, 1) := by decide +kernel
theorem dX5_set_7 : decode cX5_set 7 = .ok (.if_icmp .ge 7, 3) := by decide +kernel
theorem dX5_set_10 : decode cX5_set 10 = .ok (.aload_n 0, 1) := by decide +kernel
theorem dX5_set_11 : decode cX5_set 11 = .ok (.iload_n 1, 1) := by decide +kernel
theorem dX5_set_12 : decode cX5_set 12 = .ok (.iload_n 2, 1) := by decide +kernel
theorem dX5_set_13 : decode cX5_set 13 = .ok (.iastore, 1) := by decide +kernel
theorem dX5_set_14 : decode cX5_set 14 = .ok (.return_, 1) := by decide +kernel
theorem dX6_in_0 : decode cX6_in 0 = .ok (.iload_n 0, 1) := by decide +kernel
theorem dX6_in_1 : decode cX6_in 1 = .ok (.iload_n 1, 1) := by decide +kernel
theorem dX6_in_2 : decode cX6_in 2 = .ok (.if_icmp .lt 12, 3) := by decide +kernel
theorem dX6_in_5 : decode cX6_in 5 = .ok (.iload_n 0, 1) := by decide +kernel
theorem dX6_in_6 : decode cX6_in 6 = .ok (.iload_n 2, 1) := by decide +kernel
theorem dX6_in_7 : decode cX6_in 7 = .ok (.if_icmp .gt 7, 3) := by decide +kernel
theorem dX6_in_10 : decode cX6_in 10 = .ok (.iconst 1, 1) := by decide +kernel
theorem dX6_in_11 : decode cX6_in 11 = .ok (.goto 4, 3) := by decide +kernel
theorem dX6_in_14 : decode cX6_in 14 = .ok (.iconst 0, 1) := by decide +kernel
theorem dX6_in_15 : decode cX6_in 15 = .ok (.ireturn, 1) := by decide +kernel
theorem dX6_init_0 : decode cX6_init 0 = .ok (.aload_n 0, 1) := by decide +kernel
theorem dX6_init_1 : decode cX6_init 1 = .ok (.invokespecial 1, 3) := by decide +kernel
theorem dX6_init_4 : decode cX6_init 4 = .ok (.aload_n 0, 1) := by decide +kernel
theorem dX6_init_5 : decode cX6_init 5 = .ok (.bipush 8, 2) := by decide +kernel
theorem dX6_init_7 : decode cX6_init 7 = .ok (.newarray .int, 2) := by decide +kernel
theorem dX6_init_9 : decode cX6_init 9 = .ok (.dup, 1) := by decide +kernel
theorem dX6_init_10 : decode cX6_init 10 = .ok (.iconst 0, 1) := by decide +kernel
theorem dX6_init_11 : decode cX6_init 11 = .ok (.sipush 1000, 3) := by decide +kernel
theorem dX6_init_14 : decode cX6_init 14 = .ok (.iastore, 1) := by decide +kernel
theorem dX6_init_15 : decode cX6_init 15 = .ok (.dup, 1) := by decide +kernel
theorem dX6_init_16 : decode cX6_init 16 = .ok (.iconst 1, 1) := by decide +kernel
theorem dX6_init_17 : decode cX6_init 17 = .ok (.sipush 1000, 3) := by decide +kernel
theorem dX6_init_20 : decode cX6_init 20 = .ok (.iastore, 1) := by decide +kernel
theorem dX6_init_21 : decode cX6_init 21 = .ok (.dup, 1) := by decide +kernel
theorem dX6_init_22 : decode cX6_init 22 = .ok (.iconst 2, 1) := by decide +kernel
theorem dX6_init_23 : decode cX6_init 23 = .ok (.sipush 1000, 3) := by decide +kernel
theorem dX6_init_26 : decode cX6_init 26 = .ok (.iastore, 1) := by decide +kernel
theorem dX6_init_27 : decode cX6_init 27 = .ok (.dup, 1) := by decide +kernel
theorem dX6_init_28 : decode cX6_init 28 = .ok (.iconst 3, 1) := by decide +kernel
theorem dX6_init_29 : decode cX6_init 29 = .ok (.sipush 1000, 3) := by decide +kernel
theorem dX6_init_32 : decode cX6_init 32 = .ok (.iastore, 1) := by decide +kernel
theorem dX6_init_33 : decode cX6_init 33 = .ok (.dup, 1) := by decide +kernel
theorem dX6_init_34 : decode cX6_init 34 = .ok (.iconst 4, 1) := by decide +kernel
theorem dX6_init_35 : decode cX6_init 35 = .ok (.sipush 1000, 3) := by decide +kernel
theorem dX6_init_38 : decode cX6_init 38 = .ok (.iastore, 1) := by decide +kernel
theorem dX6_init_39 : decode cX6_init 39 = .ok (.dup, 1) := by decide +kernel
theorem dX6_init_40 : decode cX6_init 40 = .ok (.iconst 5, 1) := by decide +kernel
theorem dX6_init_41 : decode cX6_init 41 = .ok (.sipush 1000, 3) := by decide +kernel
theorem dX6_init_44 : decode cX6_init 44 = .ok (.iastore, 1) := by decide +kernel
theorem dX6_init_45 : decode cX6_init 45 = .ok (.dup, 1) := by decide +kernel
theorem dX6_init_46 : decode cX6_init 46 = .ok (.bipush 6, 2) := by decide +kernel
theorem dX6_init_48 : decode cX6_init 48 = .ok (.sipush 1000, 3) := by decide +kernel
theorem dX6_init_51 : decode cX6_init 51 = .ok (.iastore, 1) := by decide +kernel
theorem dX6_init_52 : decode cX6_init 52 = .ok (.dup, 1) := by decide +kernel
theorem dX6_init_53 : decode cX6_init 53 = .ok (.bipush 7, 2) := by decide +kernel
theorem dX6_init_55 : decode cX6_init 55 = .ok (.sipush 1000, 3) := by decide +kernel
theorem dX6_init_58 : decode cX6_init 58 = .ok (.iastore, 1) := by decide +kernel
theorem dX6_init_59 : decode cX6_init 59 = .ok (.putfield 7, 3) := by decide +kernel
theorem dX6_init_62 : decode cX6_init 62 = .ok (.aload_n 0, 1) := by decide +kernel
theorem dX6_init_63 : decode cX6_init 63 = .ok (.iconst 2, 1) := by decide +kernel
theorem dX6_init_64 : decode cX6_init 64 = .ok (.newarray .int, 2) := by decide +kernel
theorem dX6_init_66 : decode cX6_init 66 = .ok (.putfield 13, 3) := by decide +kernel
theorem dX6_init_69 : decode cX6_init 69 = .ok (.aload_n 0, 1) := by decide +kernel
theorem dX6_init_70 : decode cX6_init 70 = .ok (.iconst 2, 1) := by decide +kernel
theorem dX6_init_71 : decode cX6_init 71 = .ok (.newarray .int, 2) := by decide +kernel
theorem dX6_init_73 : decode cX6_init 73 = .ok (.putfield 16, 3) := by decide +kernel
theorem dX6_init_76 : decode cX6_init 76 = .ok (.aload_n 0, 1) := by decide +kernel
theorem dX6_init_77 : decode cX6_init 77 = .ok (.sipush 150, 3) := by decide +kernel
theorem dX6_init_80 : decode cX6_init 80 = .ok (.newarray .int, 2) := by decide +kernel
theorem dX6_init_82 : decode cX6_init 82 = .ok (.putfield 19, 3) := by decide +kernel
theorem dX6_init_85 : decode cX6_init 85 = .ok (.aload_n 0, 1) := by decide +kernel
theorem dX6_init_86 : decode cX6_init 86 = .ok (.sipush 150, 3) := by decide +kernel
theorem dX6_init_89 : decode cX6_init 89 = .ok (.newarray .int, 2) := by decide +kernel
theorem dX6_init_91 : decode cX6_init 91 = .ok (.putfield 22, 3) := by decide +kernel
theorem dX6_init_94 : decode cX6_init 94 = .ok (.aload_n 0, 1) := by decide +kernel
theorem dX6_init_95 : decode cX6_init 95 = .ok (.sipush 150, 3) := by decide +kernel
theorem dX6_init_98 : decode cX6_init 98 = .ok (.newarray .int, 2) := by decide +kernel
theorem dX6_init_100 : decode cX6_init 100 = .ok (.putfield 25, 3) := by decide +kernel
theorem dX6_init_103 : decode cX6_init 103 = .ok (.aload_n 0, 1) := by decide +kernel
theorem dX6_init_104 : decode cX6_init 104 = .ok (.sipush 150, 3) := by decide +kernel
theorem dX6_init_107 : decode cX6_init 107 = .ok (.newarray .int, 2) := by decide +kernel
theorem dX6_init_109 : decode cX6_init 109 = .ok (.putfield 28, 3) := by decide +kernel
theorem dX6_init_112 : decode cX6_init 112 = .ok (.aload_n 0, 1) := by decide +kernel
theorem dX6_init_113 : decode cX6_init 113 = .ok (.sipush 150, 3) := by decide +kernel
theorem dX6_init_116 : decode cX6_init 116 = .ok (.newarray .boolean, 2) := by decide +kernel
theorem dX6_init_118 : decode cX6_init 118 = .ok (.putfield 31, 3) := by decide +kernel
theorem dX6_init_121 : decode cX6_init 121 = .ok (.aload_n 0, 1) := by decide +kernel
theorem dX6_init_122 : decode cX6_init 122 = .ok (.sipush 151, 3) := by decide +kernel
theorem dX6_init_125 : decode cX6_init 125 = .ok (.newarray .int, 2) := by decide +kernel
theorem dX6_init_127 : decode cX6_init 127 = .ok (.putfield 35, 3) := by decide +kernel
theorem dX6_init_130 : decode cX6_init 130 = .ok (.aload_n 0, 1) := by decide +kernel
theorem dX6_init_131 : decode cX6_init 131 = .ok (.sipush 151, 3) := by decide +kernel
theorem dX6_init_134 : decode cX6_init 134 = .ok (.newarray .boolean, 2) := by decide +kernel
theorem dX6_init_136 : decode cX6_init 136 = .ok (.putfield 38, 3) := by decide +kernel
theorem dX6_init_139 : decode cX6_init 139 = .ok (.aload_n 0, 1) := by decide +kernel
theorem dX6_init_140 : decode cX6_init 140 = .ok (.iconst 4, 1) := by decide +kernel
theorem dX6_init_141 : decode cX6_init 141 = .ok (.newarray .int, 2) := by decide +kernel
theorem dX6_init_143 : decode cX6_init 143 = .ok (.putfield 41, 3) := by decide +kernel
theorem dX6_init_146 : decode cX6_init 146 = .ok (.aload_n 0, 1) := by decide +kernel
theorem dX6_init_147 : decode cX6_init 147 = .ok (.iconst 2, 1) := by decide +kernel
theorem dX6_init_148 : decode cX6_init 148 = .ok (.newarray .int, 2) := by decide +kernel
theorem dX6_init_150 : decode cX6_init 150 = .ok (.putfield 44, 3) := by decide +kernel
theorem dX6_init_153 : decode cX6_init 153 = .ok (.aload_n 0, 1) := by decide +kernel
theorem dX6_init_154 : decode cX6_init 154 = .ok (.iconst 2, 1) := by decide +kernel
theorem dX6_init_155 : decode cX6_init 155 = .ok (.newarray .int, 2) := by decide +kernel
theorem dX6_init_157 : decode cX6_init 157 = .ok (.putfield 47, 3) := by decide +kernel
theorem dX6_init_160 : decode cX6_init 160 = .ok (.aload_n 0, 1) := by decide +kernel
theorem dX6_init_161 : decode cX6_init 161 = .ok (.iconst 2, 1) := by decide +kernel
theorem dX6_init_162 : decode cX6_init 162 = .ok (.newarray .int, 2) := by decide +kernel
theorem dX6_init_164 : decode cX6_init 164 = .ok (.putfield 50, 3) := by decide +kernel
theorem dX6_init_167 : decode cX6_init 167 = .ok (.aload_n 0, 1) := by decide +kernel
theorem dX6_init_168 : decode cX6_init 168 = .ok (.iconst 2, 1) := by decide +kernel
theorem dX6_init_169 : decode cX6_init 169 = .ok (.newarray .int, 2) := by decide +kernel
theorem dX6_init_171 : decode cX6_init 171 = .ok (.putfield 53, 3) := by decide +kernel
theorem dX6_init_174 : decode cX6_init 174 = .ok (.aload_n 0, 1) := by decide +kernel
theorem dX6_init_175 : decode cX6_init 175 = .ok (.iconst 2, 1) := by decide +kernel
theorem dX6_init_176 : decode cX6_init 176 = .ok (.newarray .int, 2) := by decide +kernel
theorem dX6_init_178 : decode cX6_init 178 = .ok (.putfield 56, 3) := by decide +kernel
theorem dX6_init_181 : decode cX6_init 181 = .ok (.aload_n 0, 1) := by decide +kernel
theorem dX6_init_182 : decode cX6_init 182 = .ok (.bipush 30, 2) := by decide +kernel
theorem dX6_init_184 : decode cX6_init 184 = .ok (.newarray .int, 2) := by decide +kernel
theorem dX6_init_186 : decode cX6_init 186 = .ok (.putfield 59, 3) := by decide +kernel
theorem dX6_init_189 : decode cX6_init 189 = .ok (.aload_n 0, 1) := by decide +kernel
theorem dX6_init_190 : decode cX6_init 190 = .ok (.bipush 15, 2) := by decide +kernel
theorem dX6_init_192 : decode cX6_init 192 = .ok (.newarray .int, 2) := by decide +kernel
theorem dX6_init_194 : decode cX6_init 194 = .ok (.putfield 62, 3) := by decide +kernel
theorem dX6_init_197 : decode cX6_init 197 = .ok (.aload_n 0, 1) := by decide +kernel
theorem dX6_init_198 : decode cX6_init 198 = .ok (.bipush 15, 2) := by decide +kernel
theorem dX6_init_200 : decode cX6_init 200 = .ok (.newarray .int, 2) := by decide +kernel
theorem dX6_init_202 : decode cX6_init 202 = .ok (.putfield 65, 3) := by decide +kernel
theorem dX6_init_205 : decode cX6_init 205 = .ok (.aload_n 0, 1) := by decide +kernel
theorem dX6_init_206 : decode cX6_init 206 = .ok (.iconst 2, 1) := by decide +kernel
theorem dX6_init_207 : decode cX6_init 207 = .ok (.putfield 68, 3) := by decide +kernel
theorem dX6_init_210 : decode cX6_init 210 = .ok (.aload_n 0, 1) := by decide +kernel
theorem dX6_init_211 : decode cX6_init 211 = .ok (.getfield 47, 3) := by decide +kernel
theorem dX6_init_214 : decode cX6_init 214 = .ok (.iconst 0, 1) := by decide +kernel
theorem dX6_init_215 : decode cX6_init 215 = .ok (.iconst 5, 1) := by decide +kernel
theorem dX6_init_216 : decode cX6_init 216 = .ok (.iastore, 1) := by decide +kernel
theorem dX6_init_217 : decode cX6_init 217 = .ok (.aload_n 0, 1) := by decide +kernel
theorem dX6_init_218 : decode cX6_init 218 = .ok (.getfield 47, 3) := by decide +kernel
theorem dX6_init_221 : decode cX6_init 221 = .ok (.iconst 1, 1) := by decide +kernel
theorem dX6_init_222 : decode cX6_init 222 = .ok (.iconst 2, 1) := by decide +kernel
theorem dX6_init_223 : decode cX6_init 223 = .ok (.iastore, 1) := by decide +kernel
theorem dX6_init_224 : decode cX6_init 224 = .ok (.aload_n 0, 1) := by decide +kernel
theorem dX6_init_225 : decode cX6_init 225 = .ok (.getfield 50, 3) := by decide +kernel
theorem dX6_init_228 : decode cX6_init 228 = .ok (.iconst 0, 1) := by decide +kernel
theorem dX6_init_229 : decode cX6_init 229 = .ok (.bipush 82, 2) := by decide +kernel
theorem dX6_init_231 : decode cX6_init 231 = .ok (.iastore, 1) := by decide +kernel
theorem dX6_init_232 : decode cX6_init 232 = .ok (.aload_n 0, 1) := by decide +kernel
theorem dX6_init_233 : decode cX6_init 233 = .ok (.getfield 50, 3) := by decide +kernel
theorem dX6_init_236 : decode cX6_init 236 = .ok (.iconst 1, 1) := by decide +kernel
theorem dX6_init_237 : decode cX6_init 237 = .ok (.bipush 78, 2) := by decide +kernel
theorem dX6_init_239 : decode cX6_init 239 = .ok (.iastore, 1) := by decide +kernel
theorem dX6_init_240 : decode cX6_init 240 = .ok (.iconst 0, 1) := by decide +kernel
theorem dX6_init_241 : decode cX6_init 241 = .ok (.istore_n 1, 1) := by decide +kernel
theorem dX6_init_242 : decode cX6_init 242 = .ok (.iload_n 1, 1) := by decide +kernel
theorem dX6_init_243 : decode cX6_init 243 = .ok (.bipush 15, 2) := by decide +kernel
theorem dX6_init_245 : decode cX6_init 245 = .ok (.if_icmp .ge 23, 3) := by decide +kernel
theorem dX6_init_248 : decode cX6_init 248 = .ok (.aload_n 0, 1) := by decide +kernel
theorem dX6_init_249 : decode cX6_init 249 = .ok (.getfield 62, 3) := by decide +kernel
theorem dX6_init_252 : decode cX6_init 252 = .ok (.iload_n 1, 1) := by decide +kernel
theorem dX6_init_253 : decode cX6_init 253 = .ok (.iconst (-1), 1) := by decide +kernel
theorem dX6_init_254 : decode cX6_init 254 = .ok (.iastore, 1) := by decide +kernel
theorem dX6_init_255 : decode cX6_init 255 = .ok (.aload_n 0, 1) := by decide +kernel
theorem dX6_init_256 : decode cX6_init 256 = .ok (.getfield 65, 3) := by decide +kernel
theorem dX6_init_259 : decode cX6_init 259 = .ok (.iload_n 1, 1) := by decide +kernel
theorem dX6_init_260 : decode cX6_init 260 = .ok (.iconst (-1), 1) := by decide +kernel
theorem dX6_init_261 : decode cX6_init 261 = .ok (.iastore, 1) := by decide +kernel
theorem dX6_init_262 : decode cX6_init 262 = .ok (.iinc 1 1, 3) := by decide +kernel
theorem dX6_init_265 : decode cX6_init 265 = .ok (.goto (-23), 3) := by decide +kernel
theorem dX6_init_268 : decode cX6_init 268 = .ok (.iconst 0, 1) := by decide +kernel
theorem dX6_init_269 : decode cX6_init 269 = .ok (.istore_n 1, 1) := by decide +kernel
theorem dX6_init_270 : decode cX6_init 270 = .ok (.iload_n 1, 1) := by decide +kernel
theorem dX6_init_271 : decode cX6_init 271 = .ok (.sipush 151, 3) := by decide +kernel
theorem dX6_init_274 : decode cX6_init 274 = .ok (.if_icmp .ge 16, 3) := by decide +kernel
theorem dX6_init_277 : decode cX6_init 277 = .ok (.aload_n 0, 1) := by decide +kernel
theorem dX6_init_278 : decode cX6_init 278 = .ok (.getfield 35, 3) := by decide +kernel
theorem dX6_init_281 : decode cX6_init 281 = .ok (.iload_n 1, 1) := by decide +kernel
theorem dX6_init_282 : decode cX6_init 282 = .ok (.iconst (-1), 1) := by decide +kernel
theorem dX6_init_283 : decode cX6_init 283 = .ok (.iastore, 1) := by decide +kernel
theorem dX6_init_284 : decode cX6_init 284 = .ok (.iinc 1 1, 3) := by decide +kernel
theorem dX6_init_287 : decode cX6_init 287 = .ok (.goto (-17), 3) := by decide +kernel
theorem dX6_init_290 : decode cX6_init 290 = .ok (.return_, 1) := by decide +kernel
theorem dX6_isPlayer_0 : decode cX6_isPlayer 0 = .ok (.iload_n 0, 1) := by decide +kernel
theorem dX6_isPlayer_1 : decode cX6_isPlayer 1 = .ok (.iconst 0, 1) := by decide +kernel
theorem dX6_isPlayer_2 : decode cX6_isPlayer 2 = .ok (.bipush 7, 2) := by decide +kernel
theorem dX6_isPlayer_4 : decode cX6_isPlayer 4 = .ok (.invokestatic 72, 3) := by decide +kernel
theorem dX6_isPlayer_7 : decode cX6_isPlayer 7 = .ok (.ireturn, 1) := by decide +kernel
theorem dX6_index_0 : decode cX6_index 0 = .ok (.iload_n 1, 1) := by decide +kernel
theorem dX6_index_1 : decode cX6_index 1 = .ok (.invokestatic 76, 3) := by decide +kernel
theorem dX6_index_4 : decode cX6_index 4 = .ok (.ifCond .eq 14, 3) := by decide +kernel
theorem dX6_index_7 : decode cX6_index 7 = .ok (.iload_n 2, 1) := by decide +kernel
theorem dX6_index_8 : decode cX6_index 8 = .ok (.iconst 0, 1) := by decide +kernel
theorem dX6_index_9 : decode cX6_index 9 = .ok (.sipush 2000, 3) := by decide +kernel
theorem dX6_index_12 : decode cX6_index 12 = .ok (.invokestatic 72, 3) := by decide +kernel
theorem dX6_index_15 : decode cX6_index 15 = .ok (.ifCond .ne 5, 3) := by decide +kernel
theorem dX6_index_18 : decode cX6_index 18 = .ok (.iconst (-1), 1) := by decide +kernel
theorem dX6_index_19 : decode cX6_index 19 = .ok (.ireturn, 1) := by decide +kernel
theorem dX6_index_20 : decode cX6_index 20 = .ok (.aload_n 0, 1) := by decide +kernel
theorem dX6_index_21 : decode cX6_index 21 = .ok (.getfield 7, 3) := by decide +kernel
theorem dX6_index_24 : decode cX6_index 24 = .ok (.iload_n 1, 1) := by decide +kernel
theorem dX6_index_25 : decode cX6_index 25 = .ok (.iaload, 1) := by decide +kernel
theorem dX6_index_26 : decode cX6_index 26 = .ok (.istore_n 3, 1) := by decide +kernel
theorem dX6_index_27 : decode cX6_index 27 = .ok (.aload_n 0, 1) := by decide +kernel
theorem dX6_index_28 : decode cX6_index 28 = .ok (.getfield 7, 3) := by decide +kernel
theorem dX6_index_31 : decode cX6_index 31 = .ok (.iload_n 1, 1) := by decide +kernel
theorem dX6_index_32 : decode cX6_index 32 = .ok (.iload_n 2, 1) := by decide +kernel
theorem dX6_index_33 : decode cX6_index 33 = .ok (.iastore, 1) := by decide +kernel
theorem dX6_index_34 : decode cX6_index 34 = .ok (.iload_n 3, 1) := by decide +kernel
theorem dX6_index_35 : decode cX6_index 35 = .ok (.ireturn, 1) := by decide +kernel
theorem dX6_handicapOf_0 : decode cX6_handicapOf 0 = .ok (.bipush 20, 2) := by decide +kernel
theorem dX6_handicapOf_2 : decode cX6_handicapOf 2 = .ok (.aload_n 0, 1) := by decide +kernel
theorem dX6_handicapOf_3 : decode cX6_handicapOf 3 = .ok (.getfield 7, 3) := by decide +kernel
theorem dX6_handicapOf_6 : decode cX6_handicapOf 6 = .ok (.iload_n 1, 1) := by decide +kernel
theorem dX6_handicapOf_7 : decode cX6_handicapOf 7 = .ok (.iaload, 1) := by decide +kernel
theorem dX6_handicapOf_8 : decode cX6_handicapOf 8 = .ok (.bipush 100, 2) := by decide +kernel
theorem dX6_handicapOf_10 : decode cX6_handicapOf 10 = .ok (.idiv, 1) := by decide +kernel
theorem dX6_handicapOf_11 : decode cX6_handicapOf 11 = .ok (.isub, 1) := by decide +kernel
theorem dX6_handicapOf_12 : decode cX6_handicapOf 12 = .ok (.ireturn, 1) := by decide +kernel
theorem dX6_handicap_0 : decode cX6_handicap 0 = .ok (.iload_n 1, 1) := by decide +kernel
theorem dX6_handicap_1 : decode cX6_handicap 1 = .ok (.invokestatic 76, 3) := by decide +kernel
theorem dX6_handicap_4 : decode cX6_handicap 4 = .ok (.ifCond .eq 11, 3) := by decide +kernel
theorem dX6_handicap_7 : decode cX6_handicap 7 = .ok (.aload_n 0, 1) := by decide +kernel
theorem dX6_handicap_8 : decode cX6_handicap 8 = .ok (.iload_n 1, 1) := by decide +kernel
theorem dX6_handicap_9 : decode cX6_handicap 9 = .ok (.invokevirtual 80, 3) := by decide +kernel
theorem dX6_handicap_12 : decode cX6_handicap 12 = .ok (.goto 5, 3) := by decide +kernel
theorem dX6_handicap_15 : decode cX6_handicap 15 = .ok (.bipush (-101), 2) := by decide +kernel
theorem dX6_handicap_17 : decode cX6_handicap 17 = .ok (.ireturn, 1) := by decide +kernel
theorem dX6_game_0 : decode cX6_game 0 = .ok (.iload_n 1, 1) := by decide +kernel
theorem dX6_game_1 : decode cX6_game 1 = .ok (.invokestatic 76, 3) := by decide +kernel
theorem dX6_game_4 : decode cX6_game 4 = .ok (.ifCond .eq 15, 3) := by decide +kernel
theorem dX6_game_7 : decode cX6_game 7 = .ok (.iload_n 2, 1) := by decide +kernel
theorem dX6_game_8 : decode cX6_game 8 = .ok (.invokestatic 76, 3) := by decide +kernel
theorem dX6_game_11 : decode cX6_game 11 = .ok (.ifCond .eq 8, 3) := by decide +kernel
theorem dX6_game_14 : decode cX6_game 14 = .ok (.iload_n 1, 1) := by decide +kernel
theorem dX6_game_15 : decode cX6_game 15 = .ok (.iload_n 2, 1) := by decide +kernel
theorem dX6_game_16 : decode cX6_game 16 = .ok (.if_icmp .ne 6, 3) := by decide +kernel
theorem dX6_game_19 : decode cX6_game 19 = .ok (.bipush (-101), 2) := by decide +kernel
theorem dX6_game_21 : decode cX6_game 21 = .ok (.ireturn, 1) := by decide +kernel
theorem dX6_game_22 : decode cX6_game 22 = .ok (.aload_n 0, 1) := by decide +kernel
theorem dX6_game_23 : decode cX6_game 23 = .ok (.iconst 1, 1) := by decide +kernel
theorem dX6_game_24 : decode cX6_game 24 = .ok (.putfield 84, 3) := by decide +kernel
theorem dX6_game_27 : decode cX6_game 27 = .ok (.aload_n 0, 1) := by decide +kernel
theorem dX6_game_28 : decode cX6_game 28 = .ok (.getfield 13, 3) := by decide +kernel
theorem dX6_game_31 : decode cX6_game 31 = .ok (.iconst 0, 1) := by decide +kernel
theorem dX6_game_32 : decode cX6_game 32 = .ok (.iload_n 1, 1) := by decide +kernel
theorem dX6_game_33 : decode cX6_game 33 = .ok (.iastore, 1) := by decide +kernel
theorem dX6_game_34 : decode cX6_game 34 = .ok (.aload_n 0, 1) := by decide +kernel
theorem dX6_game_35 : decode cX6_game 35 = .ok (.getfield 13, 3) := by decide +kernel
theorem dX6_game_38 : decode cX6_game 38 = .ok (.iconst 1, 1) := by decide +kernel
theorem dX6_game_39 : decode cX6_game 39 = .ok (.iload_n 2, 1) := by decide +kernel
theorem dX6_game_40 : decode cX6_game 40 = .ok (.iastore, 1) := by decide +kernel
theorem dX6_game_41 : decode cX6_game 41 = .ok (.aload_n 0, 1) := by decide +kernel
theorem dX6_game_42 : decode cX6_game 42 = .ok (.iload_n 2, 1) := by decide +kernel
theorem dX6_game_43 : decode cX6_game 43 = .ok (.invokevirtual 80, 3) := by decide +kernel
theorem dX6_game_46 : decode cX6_game 46 = .ok (.aload_n 0, 1) := by decide +kernel
theorem dX6_game_47 : decode cX6_game 47 = .ok (.iload_n 1, 1) := by decide +kernel
theorem dX6_game_48 : decode cX6_game 48 = .ok (.invokevirtual 80, 3) := by decide +kernel
theorem dX6_game_51 : decode cX6_game 51 = .ok (.isub, 1) := by decide +kernel
theorem dX6_game_52 : decode cX6_game 52 = .ok (.istore_n 3, 1) := by decide +kernel
theorem dX6_game_53 : decode cX6_game 53 = .ok (.aload_n 0, 1) := by decide +kernel
theorem dX6_game_54 : decode cX6_game 54 = .ok (.getfield 16, 3) := by decide +kernel
theorem dX6_game_57 : decode cX6_game 57 = .ok (.iconst 0, 1) := by decide +kernel
theorem dX6_game_58 : decode cX6_game 58 = .ok (.iload_n 3, 1) := by decide +kernel
theorem dX6_game_59 : decode cX6_game 59 = .ok (.ifCond .ge 11, 3) := by decide +kernel
theorem dX6_game_62 : decode cX6_game 62 = .ok (.iconst 1, 1) := by decide +kernel
theorem dX6_game_63 : decode cX6_game 63 = .ok (.iload_n 3, 1) := by decide +kernel
theorem dX6_game_64 : decode cX6_game 64 = .ok (.isub, 1) := by decide +kernel
theorem dX6_game_65 : decode cX6_game 65 = .ok (.iconst 2, 1) := by decide +kernel
theorem dX6_game_66 : decode cX6_game 66 = .ok (.idiv, 1) := by decide +kernel
theorem dX6_game_67 : decode cX6_game 67 = .ok (.goto 4, 3) := by decide +kernel
theorem dX6_game_70 : decode cX6_game 70 = .ok (.iconst 0, 1) := by decide +kernel
theorem dX6_game_71 : decode cX6_game 71 = .ok (.iastore, 1) := by decide +kernel
theorem dX6_game_72 : decode cX6_game 72 = .ok (.aload_n 0, 1) := by decide +kernel
theorem dX6_game_73 : decode cX6_game 73 = .ok (.getfield 16, 3) := by decide +kernel
theorem dX6_game_76 : decode cX6_game 76 = .ok (.iconst 1, 1) := by decide +kernel
theorem dX6_game_77 : decode cX6_game 77 = .ok (.iload_n 3, 1) := by decide +kernel
theorem dX6_game_78 : decode cX6_game 78 = .ok (.ifCond .le 11, 3) := by decide +kernel
theorem dX6_game_81 : decode cX6_game 81 = .ok (.iload_n 3, 1) := by decide +kernel
theorem dX6_game_82 : decode cX6_game 82 = .ok (.iconst 1, 1) := by decide +kernel
theorem dX6_game_83 : decode cX6_game 83 = .ok (.iadd, 1) := by decide +kernel
theorem dX6_game_84 : decode cX6_game 84 = .ok (.iconst 2, 1) := by decide +kernel
theorem dX6_game_85 : decode cX6_game 85 = .ok (.idiv, 1) := by decide +kernel
theorem dX6_game_86 : decode cX6_game 86 = .ok (.goto 4, 3) := by decide +kernel
theorem dX6_game_89 : decode cX6_game 89 = .ok (.iconst 0, 1) := by decide +kernel
theorem dX6_game_90 : decode cX6_game 90 = .ok (.iastore, 1) := by decide +kernel
theorem dX6_game_91 : decode cX6_game 91 = .ok (.aload_n 0, 1) := by decide +kernel
theorem dX6_game_92 : decode cX6_game 92 = .ok (.iconst 0, 1) := by decide +kernel
theorem dX6_game_93 : decode cX6_game 93 = .ok (.putfield 88, 3) := by decide +kernel
theorem dX6_game_96 : decode cX6_game 96 = .ok (.aload_n 0, 1) := by decide +kernel
theorem dX6_game_97 : decode cX6_game 97 = .ok (.iconst 0, 1) := by decide +kernel
theorem dX6_game_98 : decode cX6_game 98 = .ok (.invokevirtual 91, 3) := by decide +kernel
theorem dX6_game_101 : decode cX6_game 101 = .ok (.aload_n 0, 1) := by decide +kernel
theorem dX6_game_102 : decode cX6_game 102 = .ok (.getfield 16, 3) := by decide +kernel
theorem dX6_game_105 : decode cX6_game 105 = .ok (.iconst 1, 1) := by decide +kernel
theorem dX6_game_106 : decode cX6_game 106 = .ok (.iaload, 1) := by decide +kernel
theorem dX6_game_107 : decode cX6_game 107 = .ok (.aload_n 0, 1) := by decide +kernel
theorem dX6_game_108 : decode cX6_game 108 = .ok (.getfield 16, 3) := by decide +kernel
theorem dX6_game_111 : decode cX6_game 111 = .ok (.iconst 0, 1) := by decide +kernel
theorem dX6_game_112 : decode cX6_game 112 = .ok (.iaload, 1) := by decide +kernel
theorem dX6_game_113 : decode cX6_game 113 = .ok (.isub, 1) := by decide +kernel
theorem dX6_game_114 : decode cX6_game 114 = .ok (.ireturn, 1) := by decide +kernel
theorem dX6_forget_0 : decode cX6_forget 0 = .ok (.iload_n 1, 1) := by decide +kernel
theorem dX6_forget_1 : decode cX6_forget 1 = .ok (.istore_n 2, 1) := by decide +kernel
theorem dX6_forget_2 : decode cX6_forget 2 = .ok (.iload_n 2, 1) := by decide +kernel
theorem dX6_forget_3 : decode cX6_forget 3 = .ok (.sipush 151, 3) := by decide +kernel
theorem dX6_forget_6 : decode cX6_forget 6 = .ok (.if_icmp .ge 23, 3) := by decide +kernel
theorem dX6_forget_9 : decode cX6_forget 9 = .ok (.aload_n 0, 1) := by decide +kernel
theorem dX6_forget_10 : decode cX6_forget 10 = .ok (.getfield 35, 3) := by decide +kernel
theorem dX6_forget_13 : decode cX6_forget 13 = .ok (.iload_n 2, 1) := by decide +kernel
theorem dX6_forget_14 : decode cX6_forget 14 = .ok (.iconst (-1), 1) := by decide +kernel
theorem dX6_forget_15 : decode cX6_forget 15 = .ok (.iastore, 1) := by decide +kernel
theorem dX6_forget_16 : decode cX6_forget 16 = .ok (.aload_n 0, 1) := by decide +kernel
theorem dX6_forget_17 : decode cX6_forget 17 = .ok (.getfield 38, 3) := by decide +kernel
theorem dX6_forget_20 : decode cX6_forget 20 = .ok (.iload_n 2, 1) := by decide +kernel
theorem dX6_forget_21 : decode cX6_forget 21 = .ok (.iconst 0, 1) := by decide +kernel
theorem dX6_forget_22 : decode cX6_forget 22 = .ok (.bastore, 1) := by decide +kernel
theorem dX6_forget_23 : decode cX6_forget 23 = .ok (.iinc 2 1, 3) := by decide +kernel
theorem dX6_forget_26 : decode cX6_forget 26 = .ok (.goto (-24), 3) := by decide +kernel
theorem dX6_forget_29 : decode cX6_forget 29 = .ok (.return_, 1) := by decide +kernel
theorem dX6_others_0 : decode cX6_others 0 = .ok (.iconst 0, 1) := by decide +kernel
theorem dX6_others_1 : decode cX6_others 1 = .ok (.istore_n 1, 1) := by decide +kernel
theorem dX6_others_2 : decode cX6_others 2 = .ok (.iconst 0, 1) := by decide +kernel
theorem dX6_others_3 : decode cX6_others 3 = .ok (.istore_n 2, 1) := by decide +kernel
theorem dX6_others_4 : decode cX6_others 4 = .ok (.iload_n 2, 1) := by decide +kernel
theorem dX6_others_5 : decode cX6_others 5 = .ok (.iconst 4, 1) := by decide +kernel
theorem dX6_others_6 : decode cX6_others 6 = .ok (.if_icmp .ge 38, 3) := by decide +kernel
theorem dX6_others_9 : decode cX6_others 9 = .ok (.iload_n 1, 1) := by decide +kernel
theorem dX6_others_10 : decode cX6_others 10 = .ok (.iload_n 2, 1) := by decide +kernel
theorem dX6_others_11 : decode cX6_others 11 = .ok (.aload_n 0, 1) := by decide +kernel
theorem dX6_others_12 : decode cX6_others 12 = .ok (.getfield 95, 3) := by decide +kernel
theorem dX6_others_15 : decode cX6_others 15 = .ok (.if_icmp .eq 20, 3) := by decide +kernel
theorem dX6_others_18 : decode cX6_others 18 = .ok (.aload_n 0, 1) := by decide +kernel
theorem dX6_others_19 : decode cX6_others 19 = .ok (.getfield 41, 3) := by decide +kernel
theorem dX6_others_22 : decode cX6_others 22 = .ok (.iload_n 2, 1) := by decide +kernel
theorem dX6_others_23 : decode cX6_others 23 = .ok (.iaload, 1) := by decide +kernel
theorem dX6_others_24 : decode cX6_others 24 = .ok (.bipush 7, 2) := by decide +kernel
theorem dX6_others_26 : decode cX6_others 26 = .ok (.if_icmp .eq 9, 3) := by decide +kernel
theorem dX6_others_29 : decode cX6_others 29 = .ok (.iconst 1, 1) := by decide +kernel
theorem dX6_others_30 : decode cX6_others 30 = .ok (.iload_n 2, 1) := by decide +kernel
theorem dX6_others_31 : decode cX6_others 31 = .ok (.ishl, 1) := by decide +kernel
theorem dX6_others_32 : decode cX6_others 32 = .ok (.goto 4, 3) := by decide +kernel
theorem dX6_others_35 : decode cX6_others 35 = .ok (.iconst 0, 1) := by decide +kernel
theorem dX6_others_36 : decode cX6_others 36 = .ok (.ior, 1) := by decide +kernel
theorem dX6_others_37 : decode cX6_others 37 = .ok (.istore_n 1, 1) := by decide +kernel
theorem dX6_others_38 : decode cX6_others 38 = .ok (.iinc 2 1, 3) := by decide +kernel
theorem dX6_others_41 : decode cX6_others 41 = .ok (.goto (-37), 3) := by decide +kernel
theorem dX6_others_44 : decode cX6_others 44 = .ok (.iload_n 1, 1) := by decide +kernel
theorem dX6_others_45 : decode cX6_others 45 = .ok (.ireturn, 1) := by decide +kernel
theorem dX6_begin_0 : decode cX6_begin 0 = .ok (.aload_n 0, 1) := by decide +kernel
theorem dX6_begin_1 : decode cX6_begin 1 = .ok (.iload_n 1, 1) := by decide +kernel
theorem dX6_begin_2 : decode cX6_begin 2 = .ok (.putfield 95, 3) := by decide +kernel
theorem dX6_begin_5 : decode cX6_begin 5 = .ok (.aload_n 0, 1) := by decide +kernel
theorem dX6_begin_6 : decode cX6_begin 6 = .ok (.iload_n 2, 1) := by decide +kernel
theorem dX6_begin_7 : decode cX6_begin 7 = .ok (.putfield 98, 3) := by decide +kernel
theorem dX6_begin_10 : decode cX6_begin 10 = .ok (.aload_n 0, 1) := by decide +kernel
theorem dX6_begin_11 : decode cX6_begin 11 = .ok (.iconst 1, 1) := by decide +kernel
theorem dX6_begin_12 : decode cX6_begin 12 = .ok (.putfield 101, 3) := by decide +kernel
theorem dX6_begin_15 : decode cX6_begin 15 = .ok (.aload_n 0, 1) := by decide +kernel
theorem dX6_begin_16 : decode cX6_begin 16 = .ok (.bipush (-4), 2) := by decide +kernel
theorem dX6_begin_18 : decode cX6_begin 18 = .ok (.putfield 104, 3) := by decide +kernel
theorem dX6_begin_21 : decode cX6_begin 21 = .ok (.aload_n 0, 1) := by decide +kernel
theorem dX6_begin_22 : decode cX6_begin 22 = .ok (.aload_n 0, 1) := by decide +kernel
theorem dX6_begin_23 : decode cX6_begin 23 = .ok (.invokevirtual 107, 3) := by decide +kernel
theorem dX6_begin_26 : decode cX6_begin 26 = .ok (.putfield 111, 3) := by decide +kernel
theorem dX6_begin_29 : decode cX6_begin 29 = .ok (.return_, 1) := by decide +kernel
theorem dX6_endTurn_0 : decode cX6_endTurn 0 = .ok (.aload_n 0, 1) := by decide +kernel
theorem dX6_endTurn_1 : decode cX6_endTurn 1 = .ok (.aload_n 0, 1) := by decide +kernel
theorem dX6_endTurn_2 : decode cX6_endTurn 2 = .ok (.getfield 95, 3) := by decide +kernel
theorem dX6_endTurn_5 : decode cX6_endTurn 5 = .ok (.putfield 114, 3) := by decide +kernel
theorem dX6_endTurn_8 : decode cX6_endTurn 8 = .ok (.aload_n 0, 1) := by decide +kernel
theorem dX6_endTurn_9 : decode cX6_endTurn 9 = .ok (.aload_n 0, 1) := by decide +kernel
theorem dX6_endTurn_10 : decode cX6_endTurn 10 = .ok (.getfield 98, 3) := by decide +kernel
theorem dX6_endTurn_13 : decode cX6_endTurn 13 = .ok (.putfield 117, 3) := by decide +kernel
theorem dX6_endTurn_16 : decode cX6_endTurn 16 = .ok (.aload_n 0, 1) := by decide +kernel
theorem dX6_endTurn_17 : decode cX6_endTurn 17 = .ok (.iconst 1, 1) := by decide +kernel
theorem dX6_endTurn_18 : decode cX6_endTurn 18 = .ok (.aload_n 0, 1) := by decide +kernel
theorem dX6_endTurn_19 : decode cX6_endTurn 19 = .ok (.getfield 98, 3) := by decide +kernel
theorem dX6_endTurn_22 : decode cX6_endTurn 22 = .ok (.isub, 1) := by decide +kernel
theorem dX6_endTurn_23 : decode cX6_endTurn 23 = .ok (.putfield 120, 3) := by decide +kernel
theorem dX6_endTurn_26 : decode cX6_endTurn 26 = .ok (.aload_n 0, 1) := by decide +kernel
theorem dX6_endTurn_27 : decode cX6_endTurn 27 = .ok (.bipush (-4), 2) := by decide +kernel
theorem dX6_endTurn_29 : decode cX6_endTurn 29 = .ok (.putfield 95, 3) := by decide +kernel
theorem dX6_endTurn_32 : decode cX6_endTurn 32 = .ok (.aload_n 0, 1) := by decide +kernel
theorem dX6_endTurn_33 : decode cX6_endTurn 33 = .ok (.iconst 0, 1) := by decide +kernel
theorem dX6_endTurn_34 : decode cX6_endTurn 34 = .ok (.putfield 101, 3) := by decide +kernel
theorem dX6_endTurn_37 : decode cX6_endTurn 37 = .ok (.aload_n 0, 1) := by decide +kernel
theorem dX6_endTurn_38 : decode cX6_endTurn 38 = .ok (.iconst 0, 1) := by decide +kernel
theorem dX6_endTurn_39 : decode cX6_endTurn 39 = .ok (.putfield 111, 3) := by decide +kernel
theorem dX6_endTurn_42 : decode cX6_endTurn 42 = .ok (.aload_n 0, 1) := by decide +kernel
theorem dX6_endTurn_43 : decode cX6_endTurn 43 = .ok (.bipush (-4), 2) := by decide +kernel
theorem dX6_endTurn_45 : decode cX6_endTurn 45 = .ok (.putfield 104, 3) := by decide +kernel
theorem dX6_endTurn_48 : decode cX6_endTurn 48 = .ok (.return_, 1) := by decide +kernel
theorem dX6_turnTo_0 : decode cX6_turnTo 0 = .ok (.aload_n 0, 1) := by decide +kernel
theorem dX6_turnTo_1 : decode cX6_turnTo 1 = .ok (.iload_n 1, 1) := by decide +kernel
theorem dX6_turnTo_2 : decode cX6_turnTo 2 = .ok (.putfield 120, 3) := by decide +kernel
theorem dX6_turnTo_5 : decode cX6_turnTo 5 = .ok (.aload_n 0, 1) := by decide +kernel
theorem dX6_turnTo_6 : decode cX6_turnTo 6 = .ok (.bipush (-4), 2) := by decide +kernel
theorem dX6_turnTo_8 : decode cX6_turnTo 8 = .ok (.putfield 95, 3) := by decide +kernel
theorem dX6_turnTo_11 : decode cX6_turnTo 11 = .ok (.aload_n 0, 1) := by decide +kernel
theorem dX6_turnTo_12 : decode cX6_turnTo 12 = .ok (.iconst 0, 1) := by decide +kernel
theorem dX6_turnTo_13 : decode cX6_turnTo 13 = .ok (.putfield 101, 3) := by decide +kernel
theorem dX6_turnTo_16 : decode cX6_turnTo 16 = .ok (.aload_n 0, 1) := by decide +kernel
theorem dX6_turnTo_17 : decode cX6_turnTo 17 = .ok (.iconst 0, 1) := by decide +kernel
theorem dX6_turnTo_18 : decode cX6_turnTo 18 = .ok (.putfield 111, 3) := by decide +kernel
theorem dX6_turnTo_21 : decode cX6_turnTo 21 = .ok (.aload_n 0, 1) := by decide +kernel
theorem dX6_turnTo_22 : decode cX6_turnTo 22 = .ok (.bipush (-4), 2) := by decide +kernel
theorem dX6_turnTo_24 : decode cX6_turnTo 24 = .ok (.putfield 104, 3) := by decide +kernel
theorem dX6_turnTo_27 : decode cX6_turnTo 27 = .ok (.aload_n 0, 1) := by decide +kernel
theorem dX6_turnTo_28 : decode cX6_turnTo 28 = .ok (.iconst (-1), 1) := by decide +kernel
theorem dX6_turnTo_29 : decode cX6_turnTo 29 = .ok (.putfield 114, 3) := by decide +kernel
theorem dX6_turnTo_32 : decode cX6_turnTo 32 = .ok (.return_, 1) := by decide +kernel
theorem dX6_won_0 : decode cX6_won 0 = .ok (.aload_n 0, 1) := by decide +kernel
theorem dX6_won_1 : decode cX6_won 1 = .ok (.getfield 41, 3) := by decide +kernel
theorem dX6_won_4 : decode cX6_won 4 = .ok (.iconst 0, 1) := by decide +kernel
theorem dX6_won_5 : decode cX6_won 5 = .ok (.iaload, 1) := by decide +kernel
theorem dX6_won_6 : decode cX6_won 6 = .ok (.bipush 7, 2) := by decide +kernel
theorem dX6_won_8 : decode cX6_won 8 = .ok (.if_icmp .ne 18, 3) := by decide +kernel
theorem dX6_won_11 : decode cX6_won 11 = .ok (.aload_n 0, 1) := by decide +kernel
theorem dX6_won_12 : decode cX6_won 12 = .ok (.getfield 41, 3) := by decide +kernel
theorem dX6_won_15 : decode cX6_won 15 = .ok (.iconst 2, 1) := by decide +kernel
theorem dX6_won_16 : decode cX6_won 16 = .ok (.iaload, 1) := by decide +kernel
theorem dX6_won_17 : decode cX6_won 17 = .ok (.bipush 7, 2) := by decide +kernel
theorem dX6_won_19 : decode cX6_won 19 = .ok (.if_icmp .ne 7, 3) := by decide +kernel
theorem dX6_won_22 : decode cX6_won 22 = .ok (.iconst 0, 1) := by decide +kernel
theorem dX6_won_23 : decode cX6_won 23 = .ok (.goto 31, 3) := by decide +kernel
theorem dX6_won_26 : decode cX6_won 26 = .ok (.aload_n 0, 1) := by decide +kernel
theorem dX6_won_27 : decode cX6_won 27 = .ok (.getfield 41, 3) := by decide +kernel
theorem dX6_won_30 : decode cX6_won 30 = .ok (.iconst 1, 1) := by decide +kernel
theorem dX6_won_31 : decode cX6_won 31 = .ok (.iaload, 1) := by decide +kernel
theorem dX6_won_32 : decode cX6_won 32 = .ok (.bipush 7, 2) := by decide +kernel
theorem dX6_won_34 : decode cX6_won 34 = .ok (.if_icmp .ne 18, 3) := by decide +kernel
theorem dX6_won_37 : decode cX6_won 37 = .ok (.aload_n 0, 1) := by decide +kernel
theorem dX6_won_38 : decode cX6_won 38 = .ok (.getfield 41, 3) := by decide +kernel
theorem dX6_won_41 : decode cX6_won 41 = .ok (.iconst 3, 1) := by decide +kernel
theorem dX6_won_42 : decode cX6_won 42 = .ok (.iaload, 1) := by decide +kernel
theorem dX6_won_43 : decode cX6_won 43 = .ok (.bipush 7, 2) := by decide +kernel
theorem dX6_won_45 : decode cX6_won 45 = .ok (.if_icmp .ne 7, 3) := by decide +kernel
theorem dX6_won_48 : decode cX6_won 48 = .ok (.iconst 1, 1) := by decide +kernel
theorem dX6_won_49 : decode cX6_won 49 = .ok (.goto 5, 3) := by decide +kernel
theorem dX6_won_52 : decode cX6_won 52 = .ok (.bipush (-4), 2) := by decide +kernel
theorem dX6_won_54 : decode cX6_won 54 = .ok (.ireturn, 1) := by decide +kernel
theorem dX6_canDo_0 : decode cX6_canDo 0 = .ok (.aload_n 0, 1) := by decide +kernel
theorem dX6_canDo_1 : decode cX6_canDo 1 = .ok (.getfield 95, 3) := by decide +kernel
theorem dX6_canDo_4 : decode cX6_canDo 4 = .ok (.ifCond .lt 16, 3) := by decide +kernel
theorem dX6_canDo_7 : decode cX6_canDo 7 = .ok (.aload_n 0, 1) := by decide +kernel
theorem dX6_canDo_8 : decode cX6_canDo 8 = .ok (.getfield 104, 3) := by decide +kernel
theorem dX6_canDo_11 : decode cX6_canDo 11 = .ok (.bipush (-4), 2) := by decide +kernel
theorem dX6_canDo_13 : decode cX6_canDo 13 = .ok (.if_icmp .ne 7, 3) := by decide +kernel
theorem dX6_canDo_16 : decode cX6_canDo 16 = .ok (.iconst 1, 1) := by decide +kernel
theorem dX6_canDo_17 : decode cX6_canDo 17 = .ok (.goto 4, 3) := by decide +kernel
theorem dX6_canDo_20 : decode cX6_canDo 20 = .ok (.iconst 0, 1) := by decide +kernel
theorem dX6_canDo_21 : decode cX6_canDo 21 = .ok (.istore_n 3, 1) := by decide +kernel
theorem dX6_canDo_22 : decode cX6_canDo 22 = .ok (.iload_n 1, 1) := by decide +kernel
theorem dX6_canDo_23 : decode cX6_canDo 23 = .ok (.tableswitch 162 0 5 #[37, 61, 63, 87, 116, 138], 37) := by decide +kernel
theorem dX6_canDo_60 : decode cX6_canDo 60 = .ok (.aload_n 0, 1) := by decide +kernel
theorem dX6_canDo_61 : decode cX6_canDo 61 = .ok (.getfield 95, 3) := by decide +kernel
theorem dX6_canDo_64 : decode cX6_canDo 64 = .ok (.ifCond .ge 18, 3) := by decide +kernel
theorem dX6_canDo_67 : decode cX6_canDo 67 = .ok (.aload_n 0, 1) := by decide +kernel
theorem dX6_canDo_68 : decode cX6_canDo 68 = .ok (.getfield 41, 3) := by decide +kernel
theorem dX6_canDo_71 : decode cX6_canDo 71 = .ok (.iload_n 2, 1) := by decide +kernel
theorem dX6_canDo_72 : decode cX6_canDo 72 = .ok (.iaload, 1) := by decide +kernel
theorem dX6_canDo_73 : decode cX6_canDo 73 = .ok (.bipush 7, 2) := by decide +kernel
theorem dX6_canDo_75 : decode cX6_canDo 75 = .ok (.if_icmp .eq 7, 3) := by decide +kernel
theorem dX6_canDo_78 : decode cX6_canDo 78 = .ok (.iconst 1, 1) := by decide +kernel
theorem dX6_canDo_79 : decode cX6_canDo 79 = .ok (.goto 4, 3) := by decide +kernel
theorem dX6_canDo_82 : decode cX6_canDo 82 = .ok (.iconst 0, 1) := by decide +kernel
theorem dX6_canDo_83 : decode cX6_canDo 83 = .ok (.ireturn, 1) := by decide +kernel
theorem dX6_canDo_84 : decode cX6_canDo 84 = .ok (.iload_n 3, 1) := by decide +kernel
theorem dX6_canDo_85 : decode cX6_canDo 85 = .ok (.ireturn, 1) := by decide +kernel
theorem dX6_canDo_86 : decode cX6_canDo 86 = .ok (.iload_n 3, 1) := by decide +kernel
theorem dX6_canDo_87 : decode cX6_canDo 87 = .ok (.ifCond .eq 21, 3) := by decide +kernel
theorem dX6_canDo_90 : decode cX6_canDo 90 = .ok (.aload_n 0, 1) := by decide +kernel
theorem dX6_canDo_91 : decode cX6_canDo 91 = .ok (.getfield 41, 3) := by decide +kernel
theorem dX6_canDo_94 : decode cX6_canDo 94 = .ok (.aload_n 0, 1) := by decide +kernel
theorem dX6_canDo_95 : decode cX6_canDo 95 = .ok (.getfield 95, 3) := by decide +kernel
theorem dX6_canDo_98 : decode cX6_canDo 98 = .ok (.iaload, 1) := by decide +kernel
theorem dX6_canDo_99 : decode cX6_canDo 99 = .ok (.bipush 6, 2) := by decide +kernel
theorem dX6_canDo_101 : decode cX6_canDo 101 = .ok (.if_icmp .ge 7, 3) := by decide +kernel
theorem dX6_canDo_104 : decode cX6_canDo 104 = .ok (.iconst 1, 1) := by decide +kernel
theorem dX6_canDo_105 : decode cX6_canDo 105 = .ok (.goto 4, 3) := by decide +kernel
theorem dX6_canDo_108 : decode cX6_canDo 108 = .ok (.iconst 0, 1) := by decide +kernel
theorem dX6_canDo_109 : decode cX6_canDo 109 = .ok (.ireturn, 1) := by decide +kernel
theorem dX6_canDo_110 : decode cX6_canDo 110 = .ok (.iload_n 3, 1) := by decide +kernel
theorem dX6_canDo_111 : decode cX6_canDo 111 = .ok (.ifCond .eq 26, 3) := by decide +kernel
theorem dX6_canDo_114 : decode cX6_canDo 114 = .ok (.iload_n 2, 1) := by decide +kernel
theorem dX6_canDo_115 : decode cX6_canDo 115 = .ok (.aload_n 0, 1) := by decide +kernel
theorem dX6_canDo_116 : decode cX6_canDo 116 = .ok (.getfield 95, 3) := by decide +kernel
theorem dX6_canDo_119 : decode cX6_canDo 119 = .ok (.if_icmp .eq 18, 3) := by decide +kernel
theorem dX6_canDo_122 : decode cX6_canDo 122 = .ok (.aload_n 0, 1) := by decide +kernel
theorem dX6_canDo_123 : decode cX6_canDo 123 = .ok (.getfield 41, 3) := by decide +kernel
theorem dX6_canDo_126 : decode cX6_canDo 126 = .ok (.iload_n 2, 1) := by decide +kernel
theorem dX6_canDo_127 : decode cX6_canDo 127 = .ok (.iaload, 1) := by decide +kernel
theorem dX6_canDo_128 : decode cX6_canDo 128 = .ok (.bipush 7, 2) := by decide +kernel
theorem dX6_canDo_130 : decode cX6_canDo 130 = .ok (.if_icmp .eq 7, 3) := by decide +kernel
theorem dX6_canDo_133 : decode cX6_canDo 133 = .ok (.iconst 1, 1) := by decide +kernel
theorem dX6_canDo_134 : decode cX6_canDo 134 = .ok (.goto 4, 3) := by decide +kernel
theorem dX6_canDo_137 : decode cX6_canDo 137 = .ok (.iconst 0, 1) := by decide +kernel
theorem dX6_canDo_138 : decode cX6_canDo 138 = .ok (.ireturn, 1) := by decide +kernel
theorem dX6_canDo_139 : decode cX6_canDo 139 = .ok (.aload_n 0, 1) := by decide +kernel
theorem dX6_canDo_140 : decode cX6_canDo 140 = .ok (.getfield 95, 3) := by decide +kernel
theorem dX6_canDo_143 : decode cX6_canDo 143 = .ok (.ifCond .lt 16, 3) := by decide +kernel
theorem dX6_canDo_146 : decode cX6_canDo 146 = .ok (.aload_n 0, 1) := by decide +kernel
theorem dX6_canDo_147 : decode cX6_canDo 147 = .ok (.getfield 104, 3) := by decide +kernel
theorem dX6_canDo_150 : decode cX6_canDo 150 = .ok (.bipush (-4), 2) := by decide +kernel
theorem dX6_canDo_152 : decode cX6_canDo 152 = .ok (.if_icmp .eq 7, 3) := by decide +kernel
theorem dX6_canDo_155 : decode cX6_canDo 155 = .ok (.iconst 1, 1) := by decide +kernel
theorem dX6_canDo_156 : decode cX6_canDo 156 = .ok (.goto 4, 3) := by decide +kernel
theorem dX6_canDo_159 : decode cX6_canDo 159 = .ok (.iconst 0, 1) := by decide +kernel
theorem dX6_canDo_160 : decode cX6_canDo 160 = .ok (.ireturn, 1) := by decide +kernel
theorem dX6_canDo_161 : decode cX6_canDo 161 = .ok (.iload_n 3, 1) := by decide +kernel
theorem dX6_canDo_162 : decode cX6_canDo 162 = .ok (.ifCond .eq 21, 3) := by decide +kernel
theorem dX6_canDo_165 : decode cX6_canDo 165 = .ok (.aload_n 0, 1) := by decide +kernel
theorem dX6_canDo_166 : decode cX6_canDo 166 = .ok (.getfield 41, 3) := by decide +kernel
theorem dX6_canDo_169 : decode cX6_canDo 169 = .ok (.aload_n 0, 1) := by decide +kernel
theorem dX6_canDo_170 : decode cX6_canDo 170 = .ok (.getfield 95, 3) := by decide +kernel
theorem dX6_canDo_173 : decode cX6_canDo 173 = .ok (.iaload, 1) := by decide +kernel
theorem dX6_canDo_174 : decode cX6_canDo 174 = .ok (.bipush 6, 2) := by decide +kernel
theorem dX6_canDo_176 : decode cX6_canDo 176 = .ok (.if_icmp .ne 7, 3) := by decide +kernel
theorem dX6_canDo_179 : decode cX6_canDo 179 = .ok (.iconst 1, 1) := by decide +kernel
theorem dX6_canDo_180 : decode cX6_canDo 180 = .ok (.goto 4, 3) := by decide +kernel
theorem dX6_canDo_183 : decode cX6_canDo 183 = .ok (.iconst 0, 1) := by decide +kernel
theorem dX6_canDo_184 : decode cX6_canDo 184 = .ok (.ireturn, 1) := by decide +kernel
theorem dX6_canDo_185 : decode cX6_canDo 185 = .ok (.aload_n 0, 1) := by decide +kernel
theorem dX6_canDo_186 : decode cX6_canDo 186 = .ok (.getfield 95, 3) := by decide +kernel
theorem dX6_canDo_189 : decode cX6_canDo 189 = .ok (.ifCond .ge 40, 3) := by decide +kernel
theorem dX6_canDo_192 : decode cX6_canDo 192 = .ok (.aload_n 0, 1) := by decide +kernel
theorem dX6_canDo_193 : decode cX6_canDo 193 = .ok (.getfield 114, 3) := by decide +kernel
theorem dX6_canDo_196 : decode cX6_canDo 196 = .ok (.ifCond .lt 33, 3) := by decide +kernel
theorem dX6_canDo_199 : decode cX6_canDo 199 = .ok (.aload_n 0, 1) := by decide +kernel
theorem dX6_canDo_200 : decode cX6_canDo 200 = .ok (.getfield 44, 3) := by decide +kernel
theorem dX6_canDo_203 : decode cX6_canDo 203 = .ok (.aload_n 0, 1) := by decide +kernel
theorem dX6_canDo_204 : decode cX6_canDo 204 = .ok (.getfield 117, 3) := by decide +kernel
theorem dX6_canDo_207 : decode cX6_canDo 207 = .ok (.iaload, 1) := by decide +kernel
theorem dX6_canDo_208 : decode cX6_canDo 208 = .ok (.ifCond .le 21, 3) := by decide +kernel
theorem dX6_canDo_211 : decode cX6_canDo 211 = .ok (.aload_n 0, 1) := by decide +kernel
theorem dX6_canDo_212 : decode cX6_canDo 212 = .ok (.getfield 41, 3) := by decide +kernel
theorem dX6_canDo_215 : decode cX6_canDo 215 = .ok (.aload_n 0, 1) := by decide +kernel
theorem dX6_canDo_216 : decode cX6_canDo 216 = .ok (.getfield 114, 3) := by decide +kernel
theorem dX6_canDo_219 : decode cX6_canDo 219 = .ok (.iaload, 1) := by decide +kernel
theorem dX6_canDo_220 : decode cX6_canDo 220 = .ok (.bipush 7, 2) := by decide +kernel
theorem dX6_canDo_222 : decode cX6_canDo 222 = .ok (.if_icmp .eq 7, 3) := by decide +kernel
theorem dX6_canDo_225 : decode cX6_canDo 225 = .ok (.iconst 1, 1) := by decide +kernel
theorem dX6_canDo_226 : decode cX6_canDo 226 = .ok (.goto 4, 3) := by decide +kernel
theorem dX6_canDo_229 : decode cX6_canDo 229 = .ok (.iconst 0, 1) := by decide +kernel
theorem dX6_canDo_230 : decode cX6_canDo 230 = .ok (.ireturn, 1) := by decide +kernel
theorem dX6_isWrong_0 : decode cX6_isWrong 0 = .ok (.iload_n 1, 1) := by decide +kernel
theorem dX6_isWrong_1 : decode cX6_isWrong 1 = .ok (.ifCond .ne 21, 3) := by decide +kernel
theorem dX6_isWrong_4 : decode cX6_isWrong 4 = .ok (.iload_n 2, 1) := by decide +kernel
theorem dX6_isWrong_5 : decode cX6_isWrong 5 = .ok (.iconst 2, 1) := by decide +kernel
theorem dX6_isWrong_6 : decode cX6_isWrong 6 = .ok (.irem, 1) := by decide +kernel
theorem dX6_isWrong_7 : decode cX6_isWrong 7 = .ok (.aload_n 0, 1) := by decide +kernel
theorem dX6_isWrong_8 : decode cX6_isWrong 8 = .ok (.getfield 120, 3) := by decide +kernel
theorem dX6_isWrong_11 : decode cX6_isWrong 11 = .ok (.if_icmp .eq 7, 3) := by decide +kernel
theorem dX6_isWrong_14 : decode cX6_isWrong 14 = .ok (.iconst 1, 1) := by decide +kernel
theorem dX6_isWrong_15 : decode cX6_isWrong 15 = .ok (.goto 28, 3) := by decide +kernel
theorem dX6_isWrong_18 : decode cX6_isWrong 18 = .ok (.iconst 0, 1) := by decide +kernel
theorem dX6_isWrong_19 : decode cX6_isWrong 19 = .ok (.goto 24, 3) := by decide +kernel
theorem dX6_isWrong_22 : decode cX6_isWrong 22 = .ok (.iload_n 1, 1) := by decide +kernel
theorem dX6_isWrong_23 : decode cX6_isWrong 23 = .ok (.iconst 3, 1) := by decide +kernel
theorem dX6_isWrong_24 : decode cX6_isWrong 24 = .ok (.if_icmp .ne 18, 3) := by decide +kernel
theorem dX6_isWrong_27 : decode cX6_isWrong 27 = .ok (.aload_n 0, 1) := by decide +kernel
theorem dX6_isWrong_28 : decode cX6_isWrong 28 = .ok (.getfield 111, 3) := by decide +kernel
theorem dX6_isWrong_31 : decode cX6_isWrong 31 = .ok (.iload_n 2, 1) := by decide +kernel
theorem dX6_isWrong_32 : decode cX6_isWrong 32 = .ok (.ishr, 1) := by decide +kernel
theorem dX6_isWrong_33 : decode cX6_isWrong 33 = .ok (.iconst 1, 1) := by decide +kernel
theorem dX6_isWrong_34 : decode cX6_isWrong 34 = .ok (.iand, 1) := by decide +kernel
theorem dX6_isWrong_35 : decode cX6_isWrong 35 = .ok (.ifCond .ne 7, 3) := by decide +kernel
theorem dX6_isWrong_38 : decode cX6_isWrong 38 = .ok (.iconst 1, 1) := by decide +kernel
theorem dX6_isWrong_39 : decode cX6_isWrong 39 = .ok (.goto 4, 3) := by decide +kernel
theorem dX6_isWrong_42 : decode cX6_isWrong 42 = .ok (.iconst 0, 1) := by decide +kernel
theorem dX6_isWrong_43 : decode cX6_isWrong 43 = .ok (.ireturn, 1) := by decide +kernel
theorem dX6_make_0 : decode cX6_make 0 = .ok (.iload_n 1, 1) := by decide +kernel
theorem dX6_make_1 : decode cX6_make 1 = .ok (.tableswitch 158 0 5 #[39, 51, 64, 93, 125, 139], 39) := by decide +kernel
theorem dX6_make_40 : decode cX6_make 40 = .ok (.aload_n 0, 1) := by decide +kernel
theorem dX6_make_41 : decode cX6_make 41 = .ok (.iload_n 2, 1) := by decide +kernel
theorem dX6_make_42 : decode cX6_make 42 = .ok (.aload_n 0, 1) := by decide +kernel
theorem dX6_make_43 : decode cX6_make 43 = .ok (.getfield 120, 3) := by decide +kernel
theorem dX6_make_46 : decode cX6_make 46 = .ok (.invokevirtual 123, 3) := by decide +kernel
theorem dX6_make_49 : decode cX6_make 49 = .ok (.goto 135, 3) := by decide +kernel
theorem dX6_make_52 : decode cX6_make 52 = .ok (.aload_n 0, 1) := by decide +kernel
theorem dX6_make_53 : decode cX6_make 53 = .ok (.dup, 1) := by decide +kernel
theorem dX6_make_54 : decode cX6_make 54 = .ok (.getfield 101, 3) := by decide +kernel
theorem dX6_make_57 : decode cX6_make 57 = .ok (.iconst 1, 1) := by decide +kernel
theorem dX6_make_58 : decode cX6_make 58 = .ok (.isub, 1) := by decide +kernel
theorem dX6_make_59 : decode cX6_make 59 = .ok (.putfield 101, 3) := by decide +kernel
theorem dX6_make_62 : decode cX6_make 62 = .ok (.goto 122, 3) := by decide +kernel
theorem dX6_make_65 : decode cX6_make 65 = .ok (.aload_n 0, 1) := by decide +kernel
theorem dX6_make_66 : decode cX6_make 66 = .ok (.getfield 41, 3) := by decide +kernel
theorem dX6_make_69 : decode cX6_make 69 = .ok (.aload_n 0, 1) := by decide +kernel
theorem dX6_make_70 : decode cX6_make 70 = .ok (.getfield 95, 3) := by decide +kernel
theorem dX6_make_73 : decode cX6_make 73 = .ok (.dup2, 1) := by decide +kernel
theorem dX6_make_74 : decode cX6_make 74 = .ok (.iaload, 1) := by decide +kernel
theorem dX6_make_75 : decode cX6_make 75 = .ok (.iconst 1, 1) := by decide +kernel
theorem dX6_make_76 : decode cX6_make 76 = .ok (.iadd, 1) := by decide +kernel
theorem dX6_make_77 : decode cX6_make 77 = .ok (.iastore, 1) := by decide +kernel
theorem dX6_make_78 : decode cX6_make 78 = .ok (.aload_n 0, 1) := by decide +kernel
theorem dX6_make_79 : decode cX6_make 79 = .ok (.iconst 1, 1) := by decide +kernel
theorem dX6_make_80 : decode cX6_make 80 = .ok (.putfield 101, 3) := by decide +kernel
theorem dX6_make_83 : decode cX6_make 83 = .ok (.aload_n 0, 1) := by decide +kernel
theorem dX6_make_84 : decode cX6_make 84 = .ok (.aload_n 0, 1) := by decide +kernel
theorem dX6_make_85 : decode cX6_make 85 = .ok (.invokevirtual 107, 3) := by decide +kernel
theorem dX6_make_88 : decode cX6_make 88 = .ok (.putfield 111, 3) := by decide +kernel
theorem dX6_make_91 : decode cX6_make 91 = .ok (.goto 93, 3) := by decide +kernel
theorem dX6_make_94 : decode cX6_make 94 = .ok (.aload_n 0, 1) := by decide +kernel
theorem dX6_make_95 : decode cX6_make 95 = .ok (.dup, 1) := by decide +kernel
theorem dX6_make_96 : decode cX6_make 96 = .ok (.getfield 101, 3) := by decide +kernel
theorem dX6_make_99 : decode cX6_make 99 = .ok (.iconst 1, 1) := by decide +kernel
theorem dX6_make_100 : decode cX6_make 100 = .ok (.isub, 1) := by decide +kernel
theorem dX6_make_101 : decode cX6_make 101 = .ok (.putfield 101, 3) := by decide +kernel
theorem dX6_make_104 : decode cX6_make 104 = .ok (.aload_n 0, 1) := by decide +kernel
theorem dX6_make_105 : decode cX6_make 105 = .ok (.iload_n 2, 1) := by decide +kernel
theorem dX6_make_106 : decode cX6_make 106 = .ok (.putfield 104, 3) := by decide +kernel
theorem dX6_make_109 : decode cX6_make 109 = .ok (.aload_n 0, 1) := by decide +kernel
theorem dX6_make_110 : decode cX6_make 110 = .ok (.dup, 1) := by decide +kernel
theorem dX6_make_111 : decode cX6_make 111 = .ok (.getfield 111, 3) := by decide +kernel
theorem dX6_make_114 : decode cX6_make 114 = .ok (.iconst 1, 1) := by decide +kernel
theorem dX6_make_115 : decode cX6_make 115 = .ok (.iload_n 2, 1) := by decide +kernel
theorem dX6_make_116 : decode cX6_make 116 = .ok (.ishl, 1) := by decide +kernel
theorem dX6_make_117 : decode cX6_make 117 = .ok (.iconst (-1), 1) := by decide +kernel
theorem dX6_make_118 : decode cX6_make 118 = .ok (.ixor, 1) := by decide +kernel
theorem dX6_make_119 : decode cX6_make 119 = .ok (.iand, 1) := by decide +kernel
theorem dX6_make_120 : decode cX6_make 120 = .ok (.putfield 111, 3) := by decide +kernel
theorem dX6_make_123 : decode cX6_make 123 = .ok (.goto 61, 3) := by decide +kernel
theorem dX6_make_126 : decode cX6_make 126 = .ok (.aload_n 0, 1) := by decide +kernel
theorem dX6_make_127 : decode cX6_make 127 = .ok (.iconst 1, 1) := by decide +kernel
theorem dX6_make_128 : decode cX6_make 128 = .ok (.putfield 101, 3) := by decide +kernel
theorem dX6_make_131 : decode cX6_make 131 = .ok (.aload_n 0, 1) := by decide +kernel
theorem dX6_make_132 : decode cX6_make 132 = .ok (.bipush (-4), 2) := by decide +kernel
theorem dX6_make_134 : decode cX6_make 134 = .ok (.putfield 104, 3) := by decide +kernel
theorem dX6_make_137 : decode cX6_make 137 = .ok (.goto 47, 3) := by decide +kernel
theorem dX6_make_140 : decode cX6_make 140 = .ok (.aload_n 0, 1) := by decide +kernel
theorem dX6_make_141 : decode cX6_make 141 = .ok (.getfield 41, 3) := by decide +kernel
theorem dX6_make_144 : decode cX6_make 144 = .ok (.aload_n 0, 1) := by decide +kernel
theorem dX6_make_145 : decode cX6_make 145 = .ok (.getfield 95, 3) := by decide +kernel
theorem dX6_make_148 : decode cX6_make 148 = .ok (.bipush 7, 2) := by decide +kernel
theorem dX6_make_150 : decode cX6_make 150 = .ok (.iastore, 1) := by decide +kernel
theorem dX6_make_151 : decode cX6_make 151 = .ok (.aload_n 0, 1) := by decide +kernel
theorem dX6_make_152 : decode cX6_make 152 = .ok (.iconst 0, 1) := by decide +kernel
theorem dX6_make_153 : decode cX6_make 153 = .ok (.putfield 101, 3) := by decide +kernel
theorem dX6_make_156 : decode cX6_make 156 = .ok (.goto 28, 3) := by decide +kernel
theorem dX6_make_159 : decode cX6_make 159 = .ok (.aload_n 0, 1) := by decide +kernel
theorem dX6_make_160 : decode cX6_make 160 = .ok (.getfield 44, 3) := by decide +kernel
theorem dX6_make_163 : decode cX6_make 163 = .ok (.aload_n 0, 1) := by decide +kernel
theorem dX6_make_164 : decode cX6_make 164 = .ok (.getfield 117, 3) := by decide +kernel
theorem dX6_make_167 : decode cX6_make 167 = .ok (.dup2, 1) := by decide +kernel
theorem dX6_make_168 : decode cX6_make 168 = .ok (.iaload, 1) := by decide +kernel
theorem dX6_make_169 : decode cX6_make 169 = .ok (.iconst 1, 1) := by decide +kernel
theorem dX6_make_170 : decode cX6_make 170 = .ok (.isub, 1) := by decide +kernel
theorem dX6_make_171 : decode cX6_make 171 = .ok (.iastore, 1) := by decide +kernel
theorem dX6_make_172 : decode cX6_make 172 = .ok (.aload_n 0, 1) := by decide +kernel
theorem dX6_make_173 : decode cX6_make 173 = .ok (.aload_n 0, 1) := by decide +kernel
theorem dX6_make_174 : decode cX6_make 174 = .ok (.getfield 114, 3) := by decide +kernel
theorem dX6_make_177 : decode cX6_make 177 = .ok (.aload_n 0, 1) := by decide +kernel
theorem dX6_make_178 : decode cX6_make 178 = .ok (.getfield 117, 3) := by decide +kernel
theorem dX6_make_181 : decode cX6_make 181 = .ok (.invokevirtual 123, 3) := by decide +kernel
theorem dX6_make_184 : decode cX6_make 184 = .ok (.aload_n 0, 1) := by decide +kernel
theorem dX6_make_185 : decode cX6_make 185 = .ok (.getfield 95, 3) := by decide +kernel
theorem dX6_make_188 : decode cX6_make 188 = .ok (.ifCond .lt 23, 3) := by decide +kernel
theorem dX6_make_191 : decode cX6_make 191 = .ok (.aload_n 0, 1) := by decide +kernel
theorem dX6_make_192 : decode cX6_make 192 = .ok (.getfield 101, 3) := by decide +kernel
theorem dX6_make_195 : decode cX6_make 195 = .ok (.ifCond .ne 16, 3) := by decide +kernel
theorem dX6_make_198 : decode cX6_make 198 = .ok (.aload_n 0, 1) := by decide +kernel
theorem dX6_make_199 : decode cX6_make 199 = .ok (.getfield 104, 3) := by decide +kernel
theorem dX6_make_202 : decode cX6_make 202 = .ok (.bipush (-4), 2) := by decide +kernel
theorem dX6_make_204 : decode cX6_make 204 = .ok (.if_icmp .ne 7, 3) := by decide +kernel
theorem dX6_make_207 : decode cX6_make 207 = .ok (.aload_n 0, 1) := by decide +kernel
theorem dX6_make_208 : decode cX6_make 208 = .ok (.invokevirtual 127, 3) := by decide +kernel
theorem dX6_make_211 : decode cX6_make 211 = .ok (.return_, 1) := by decide +kernel
theorem dX6_goTo_0 : decode cX6_goTo 0 = .ok (.iconst 0, 1) := by decide +kernel
theorem dX6_goTo_1 : decode cX6_goTo 1 = .ok (.istore_n 2, 1) := by decide +kernel
theorem dX6_goTo_2 : decode cX6_goTo 2 = .ok (.iload_n 2, 1) := by decide +kernel
theorem dX6_goTo_3 : decode cX6_goTo 3 = .ok (.iconst 4, 1) := by decide +kernel
theorem dX6_goTo_4 : decode cX6_goTo 4 = .ok (.if_icmp .ge 16, 3) := by decide +kernel
theorem dX6_goTo_7 : decode cX6_goTo 7 = .ok (.aload_n 0, 1) := by decide +kernel
theorem dX6_goTo_8 : decode cX6_goTo 8 = .ok (.getfield 41, 3) := by decide +kernel
theorem dX6_goTo_11 : decode cX6_goTo 11 = .ok (.iload_n 2, 1) := by decide +kernel
theorem dX6_goTo_12 : decode cX6_goTo 12 = .ok (.iconst 0, 1) := by decide +kernel
theorem dX6_goTo_13 : decode cX6_goTo 13 = .ok (.iastore, 1) := by decide +kernel
theorem dX6_goTo_14 : decode cX6_goTo 14 = .ok (.iinc 2 1, 3) := by decide +kernel
theorem dX6_goTo_17 : decode cX6_goTo 17 = .ok (.goto (-15), 3) := by decide +kernel
theorem dX6_goTo_20 : decode cX6_goTo 20 = .ok (.aload_n 0, 1) := by decide +kernel
theorem dX6_goTo_21 : decode cX6_goTo 21 = .ok (.getfield 44, 3) := by decide +kernel
theorem dX6_goTo_24 : decode cX6_goTo 24 = .ok (.iconst 0, 1) := by decide +kernel
theorem dX6_goTo_25 : decode cX6_goTo 25 = .ok (.aload_n 0, 1) := by decide +kernel
theorem dX6_goTo_26 : decode cX6_goTo 26 = .ok (.getfield 16, 3) := by decide +kernel
theorem dX6_goTo_29 : decode cX6_goTo 29 = .ok (.iconst 0, 1) := by decide +kernel
theorem dX6_goTo_30 : decode cX6_goTo 30 = .ok (.iaload, 1) := by decide +kernel
theorem dX6_goTo_31 : decode cX6_goTo 31 = .ok (.iastore, 1) := by decide +kernel
theorem dX6_goTo_32 : decode cX6_goTo 32 = .ok (.aload_n 0, 1) := by decide +kernel
theorem dX6_goTo_33 : decode cX6_goTo 33 = .ok (.getfield 44, 3) := by decide +kernel
theorem dX6_goTo_36 : decode cX6_goTo 36 = .ok (.iconst 1, 1) := by decide +kernel
theorem dX6_goTo_37 : decode cX6_goTo 37 = .ok (.aload_n 0, 1) := by decide +kernel
theorem dX6_goTo_38 : decode cX6_goTo 38 = .ok (.getfield 16, 3) := by decide +kernel
theorem dX6_goTo_41 : decode cX6_goTo 41 = .ok (.iconst 1, 1) := by decide +kernel
theorem dX6_goTo_42 : decode cX6_goTo 42 = .ok (.iaload, 1) := by decide +kernel
theorem dX6_goTo_43 : decode cX6_goTo 43 = .ok (.iastore, 1) := by decide +kernel
theorem dX6_goTo_44 : decode cX6_goTo 44 = .ok (.aload_n 0, 1) := by decide +kernel
theorem dX6_goTo_45 : decode cX6_goTo 45 = .ok (.iconst 0, 1) := by decide +kernel
theorem dX6_goTo_46 : decode cX6_goTo 46 = .ok (.invokevirtual 130, 3) := by decide +kernel
theorem dX6_goTo_49 : decode cX6_goTo 49 = .ok (.iconst 0, 1) := by decide +kernel
theorem dX6_goTo_50 : decode cX6_goTo 50 = .ok (.istore_n 2, 1) := by decide +kernel
theorem dX6_goTo_51 : decode cX6_goTo 51 = .ok (.iload_n 2, 1) := by decide +kernel
theorem dX6_goTo_52 : decode cX6_goTo 52 = .ok (.iload_n 1, 1) := by decide +kernel
theorem dX6_goTo_53 : decode cX6_goTo 53 = .ok (.if_icmp .gt 69, 3) := by decide +kernel
theorem dX6_goTo_56 : decode cX6_goTo 56 = .ok (.aload_n 0, 1) := by decide +kernel
theorem dX6_goTo_57 : decode cX6_goTo 57 = .ok (.getfield 38, 3) := by decide +kernel
theorem dX6_goTo_60 : decode cX6_goTo 60 = .ok (.iload_n 2, 1) := by decide +kernel
theorem dX6_goTo_61 : decode cX6_goTo 61 = .ok (.baload, 1) := by decide +kernel
theorem dX6_goTo_62 : decode cX6_goTo 62 = .ok (.ifCond .eq 14, 3) := by decide +kernel
theorem dX6_goTo_65 : decode cX6_goTo 65 = .ok (.aload_n 0, 1) := by decide +kernel
theorem dX6_goTo_66 : decode cX6_goTo 66 = .ok (.getfield 95, 3) := by decide +kernel
theorem dX6_goTo_69 : decode cX6_goTo 69 = .ok (.ifCond .lt 7, 3) := by decide +kernel
theorem dX6_goTo_72 : decode cX6_goTo 72 = .ok (.aload_n 0, 1) := by decide +kernel
theorem dX6_goTo_73 : decode cX6_goTo 73 = .ok (.invokevirtual 127, 3) := by decide +kernel
theorem dX6_goTo_76 : decode cX6_goTo 76 = .ok (.aload_n 0, 1) := by decide +kernel
theorem dX6_goTo_77 : decode cX6_goTo 77 = .ok (.getfield 35, 3) := by decide +kernel
theorem dX6_goTo_80 : decode cX6_goTo 80 = .ok (.iload_n 2, 1) := by decide +kernel
theorem dX6_goTo_81 : decode cX6_goTo 81 = .ok (.iaload, 1) := by decide +kernel
theorem dX6_goTo_82 : decode cX6_goTo 82 = .ok (.ifCond .lt 13, 3) := by decide +kernel
theorem dX6_goTo_85 : decode cX6_goTo 85 = .ok (.aload_n 0, 1) := by decide +kernel
theorem dX6_goTo_86 : decode cX6_goTo 86 = .ok (.aload_n 0, 1) := by decide +kernel
theorem dX6_goTo_87 : decode cX6_goTo 87 = .ok (.getfield 35, 3) := by decide +kernel
theorem dX6_goTo_90 : decode cX6_goTo 90 = .ok (.iload_n 2, 1) := by decide +kernel
theorem dX6_goTo_91 : decode cX6_goTo 91 = .ok (.iaload, 1) := by decide +kernel
theorem dX6_goTo_92 : decode cX6_goTo 92 = .ok (.invokevirtual 130, 3) := by decide +kernel
theorem dX6_goTo_95 : decode cX6_goTo 95 = .ok (.iload_n 2, 1) := by decide +kernel
theorem dX6_goTo_96 : decode cX6_goTo 96 = .ok (.iload_n 1, 1) := by decide +kernel
theorem dX6_goTo_97 : decode cX6_goTo 97 = .ok (.if_icmp .ge 19, 3) := by decide +kernel
theorem dX6_goTo_100 : decode cX6_goTo 100 = .ok (.aload_n 0, 1) := by decide +kernel
theorem dX6_goTo_101 : decode cX6_goTo 101 = .ok (.aload_n 0, 1) := by decide +kernel
theorem dX6_goTo_102 : decode cX6_goTo 102 = .ok (.getfield 19, 3) := by decide +kernel
theorem dX6_goTo_105 : decode cX6_goTo 105 = .ok (.iload_n 2, 1) := by decide +kernel
theorem dX6_goTo_106 : decode cX6_goTo 106 = .ok (.iaload, 1) := by decide +kernel
theorem dX6_goTo_107 : decode cX6_goTo 107 = .ok (.aload_n 0, 1) := by decide +kernel
theorem dX6_goTo_108 : decode cX6_goTo 108 = .ok (.getfield 22, 3) := by decide +kernel
theorem dX6_goTo_111 : decode cX6_goTo 111 = .ok (.iload_n 2, 1) := by decide +kernel
theorem dX6_goTo_112 : decode cX6_goTo 112 = .ok (.iaload, 1) := by decide +kernel
theorem dX6_goTo_113 : decode cX6_goTo 113 = .ok (.invokevirtual 133, 3) := by decide +kernel
theorem dX6_goTo_116 : decode cX6_goTo 116 = .ok (.iinc 2 1, 3) := by decide +kernel
theorem dX6_goTo_119 : decode cX6_goTo 119 = .ok (.goto (-68), 3) := by decide +kernel
theorem dX6_goTo_122 : decode cX6_goTo 122 = .ok (.return_, 1) := by decide +kernel
theorem dX6_stroke_0 : decode cX6_stroke 0 = .ok (.iload_n 1, 1) := by decide +kernel
theorem dX6_stroke_1 : decode cX6_stroke 1 = .ok (.ifCond .eq 8, 3) := by decide +kernel
theorem dX6_stroke_4 : decode cX6_stroke 4 = .ok (.iload_n 1, 1) := by decide +kernel
theorem dX6_stroke_5 : decode cX6_stroke 5 = .ok (.iconst 3, 1) := by decide +kernel
theorem dX6_stroke_6 : decode cX6_stroke 6 = .ok (.if_icmp .ne 7, 3) := by decide +kernel
theorem dX6_stroke_9 : decode cX6_stroke 9 = .ok (.iconst 1, 1) := by decide +kernel
theorem dX6_stroke_10 : decode cX6_stroke 10 = .ok (.goto 4, 3) := by decide +kernel
theorem dX6_stroke_13 : decode cX6_stroke 13 = .ok (.iconst 0, 1) := by decide +kernel
theorem dX6_stroke_14 : decode cX6_stroke 14 = .ok (.istore_n 3, 1) := by decide +kernel
theorem dX6_stroke_15 : decode cX6_stroke 15 = .ok (.iload_n 1, 1) := by decide +kernel
theorem dX6_stroke_16 : decode cX6_stroke 16 = .ok (.iconst 0, 1) := by decide +kernel
theorem dX6_stroke_17 : decode cX6_stroke 17 = .ok (.bipush 6, 2) := by decide +kernel
theorem dX6_stroke_19 : decode cX6_stroke 19 = .ok (.invokestatic 72, 3) := by decide +kernel
theorem dX6_stroke_22 : decode cX6_stroke 22 = .ok (.ifCond .eq 16, 3) := by decide +kernel
theorem dX6_stroke_25 : decode cX6_stroke 25 = .ok (.iload_n 3, 1) := by decide +kernel
theorem dX6_stroke_26 : decode cX6_stroke 26 = .ok (.ifCond .eq 14, 3) := by decide +kernel
theorem dX6_stroke_29 : decode cX6_stroke 29 = .ok (.iload_n 2, 1) := by decide +kernel
theorem dX6_stroke_30 : decode cX6_stroke 30 = .ok (.iconst 0, 1) := by decide +kernel
theorem dX6_stroke_31 : decode cX6_stroke 31 = .ok (.iconst 3, 1) := by decide +kernel
theorem dX6_stroke_32 : decode cX6_stroke 32 = .ok (.invokestatic 72, 3) := by decide +kernel
theorem dX6_stroke_35 : decode cX6_stroke 35 = .ok (.ifCond .ne 5, 3) := by decide +kernel
theorem dX6_stroke_38 : decode cX6_stroke 38 = .ok (.iconst (-1), 1) := by decide +kernel
theorem dX6_stroke_39 : decode cX6_stroke 39 = .ok (.ireturn, 1) := by decide +kernel
theorem dX6_stroke_40 : decode cX6_stroke 40 = .ok (.aload_n 0, 1) := by decide +kernel
theorem dX6_stroke_41 : decode cX6_stroke 41 = .ok (.getfield 84, 3) := by decide +kernel
theorem dX6_stroke_44 : decode cX6_stroke 44 = .ok (.ifCond .ne 6, 3) := by decide +kernel
theorem dX6_stroke_47 : decode cX6_stroke 47 = .ok (.bipush (-2), 2) := by decide +kernel
theorem dX6_stroke_49 : decode cX6_stroke 49 = .ok (.ireturn, 1) := by decide +kernel
theorem dX6_stroke_50 : decode cX6_stroke 50 = .ok (.aload_n 0, 1) := by decide +kernel
theorem dX6_stroke_51 : decode cX6_stroke 51 = .ok (.aload_n 0, 1) := by decide +kernel
theorem dX6_stroke_52 : decode cX6_stroke 52 = .ok (.getfield 88, 3) := by decide +kernel
theorem dX6_stroke_55 : decode cX6_stroke 55 = .ok (.invokevirtual 136, 3) := by decide +kernel
theorem dX6_stroke_58 : decode cX6_stroke 58 = .ok (.iload_n 3, 1) := by decide +kernel
theorem dX6_stroke_59 : decode cX6_stroke 59 = .ok (.ifCond .eq 7, 3) := by decide +kernel
theorem dX6_stroke_62 : decode cX6_stroke 62 = .ok (.iload_n 2, 1) := by decide +kernel
theorem dX6_stroke_63 : decode cX6_stroke 63 = .ok (.goto 4, 3) := by decide +kernel
theorem dX6_stroke_66 : decode cX6_stroke 66 = .ok (.iconst 0, 1) := by decide +kernel
theorem dX6_stroke_67 : decode cX6_stroke 67 = .ok (.istore 4, 2) := by decide +kernel
theorem dX6_stroke_69 : decode cX6_stroke 69 = .ok (.aload_n 0, 1) := by decide +kernel
theorem dX6_stroke_70 : decode cX6_stroke 70 = .ok (.invokevirtual 139, 3) := by decide +kernel
theorem dX6_stroke_73 : decode cX6_stroke 73 = .ok (.bipush (-4), 2) := by decide +kernel
theorem dX6_stroke_75 : decode cX6_stroke 75 = .ok (.if_icmp .ne 13, 3) := by decide +kernel
theorem dX6_stroke_78 : decode cX6_stroke 78 = .ok (.aload_n 0, 1) := by decide +kernel
theorem dX6_stroke_79 : decode cX6_stroke 79 = .ok (.iload_n 1, 1) := by decide +kernel
theorem dX6_stroke_80 : decode cX6_stroke 80 = .ok (.iload 4, 2) := by decide +kernel
theorem dX6_stroke_82 : decode cX6_stroke 82 = .ok (.invokevirtual 142, 3) := by decide +kernel
theorem dX6_stroke_85 : decode cX6_stroke 85 = .ok (.ifCond .ne 6, 3) := by decide +kernel
theorem dX6_stroke_88 : decode cX6_stroke 88 = .ok (.bipush (-2), 2) := by decide +kernel
theorem dX6_stroke_90 : decode cX6_stroke 90 = .ok (.ireturn, 1) := by decide +kernel
theorem dX6_stroke_91 : decode cX6_stroke 91 = .ok (.aload_n 0, 1) := by decide +kernel
theorem dX6_stroke_92 : decode cX6_stroke 92 = .ok (.getfield 88, 3) := by decide +kernel
theorem dX6_stroke_95 : decode cX6_stroke 95 = .ok (.sipush 150, 3) := by decide +kernel
theorem dX6_stroke_98 : decode cX6_stroke 98 = .ok (.if_icmp .ne 6, 3) := by decide +kernel
theorem dX6_stroke_101 : decode cX6_stroke 101 = .ok (.bipush (-3), 2) := by decide +kernel
theorem dX6_stroke_103 : decode cX6_stroke 103 = .ok (.ireturn, 1) := by decide +kernel
theorem dX6_stroke_104 : decode cX6_stroke 104 = .ok (.aload_n 0, 1) := by decide +kernel
theorem dX6_stroke_105 : decode cX6_stroke 105 = .ok (.getfield 19, 3) := by decide +kernel
theorem dX6_stroke_108 : decode cX6_stroke 108 = .ok (.aload_n 0, 1) := by decide +kernel
theorem dX6_stroke_109 : decode cX6_stroke 109 = .ok (.getfield 88, 3) := by decide +kernel
theorem dX6_stroke_112 : decode cX6_stroke 112 = .ok (.iload_n 1, 1) := by decide +kernel
theorem dX6_stroke_113 : decode cX6_stroke 113 = .ok (.iastore, 1) := by decide +kernel
theorem dX6_stroke_114 : decode cX6_stroke 114 = .ok (.aload_n 0, 1) := by decide +kernel
theorem dX6_stroke_115 : decode cX6_stroke 115 = .ok (.getfield 22, 3) := by decide +kernel
theorem dX6_stroke_118 : decode cX6_stroke 118 = .ok (.aload_n 0, 1) := by decide +kernel
theorem dX6_stroke_119 : decode cX6_stroke 119 = .ok (.getfield 88, 3) := by decide +kernel
theorem dX6_stroke_122 : decode cX6_stroke 122 = .ok (.iload 4, 2) := by decide +kernel
theorem dX6_stroke_124 : decode cX6_stroke 124 = .ok (.iastore, 1) := by decide +kernel
theorem dX6_stroke_125 : decode cX6_stroke 125 = .ok (.aload_n 0, 1) := by decide +kernel
theorem dX6_stroke_126 : decode cX6_stroke 126 = .ok (.getfield 31, 3) := by decide +kernel
theorem dX6_stroke_129 : decode cX6_stroke 129 = .ok (.aload_n 0, 1) := by decide +kernel
theorem dX6_stroke_130 : decode cX6_stroke 130 = .ok (.getfield 88, 3) := by decide +kernel
theorem dX6_stroke_133 : decode cX6_stroke 133 = .ok (.aload_n 0, 1) := by decide +kernel
theorem dX6_stroke_134 : decode cX6_stroke 134 = .ok (.iload_n 1, 1) := by decide +kernel
theorem dX6_stroke_135 : decode cX6_stroke 135 = .ok (.iload 4, 2) := by decide +kernel
theorem dX6_stroke_137 : decode cX6_stroke 137 = .ok (.invokevirtual 146, 3) := by decide +kernel
theorem dX6_stroke_140 : decode cX6_stroke 140 = .ok (.bastore, 1) := by decide +kernel
theorem dX6_stroke_141 : decode cX6_stroke 141 = .ok (.aload_n 0, 1) := by decide +kernel
theorem dX6_stroke_142 : decode cX6_stroke 142 = .ok (.getfield 25, 3) := by decide +kernel
theorem dX6_stroke_145 : decode cX6_stroke 145 = .ok (.aload_n 0, 1) := by decide +kernel
theorem dX6_stroke_146 : decode cX6_stroke 146 = .ok (.getfield 88, 3) := by decide +kernel
theorem dX6_stroke_149 : decode cX6_stroke 149 = .ok (.iload_n 1, 1) := by decide +kernel
theorem dX6_stroke_150 : decode cX6_stroke 150 = .ok (.ifCond .ne 8, 3) := by decide +kernel
theorem dX6_stroke_153 : decode cX6_stroke 153 = .ok (.iload 4, 2) := by decide +kernel
theorem dX6_stroke_155 : decode cX6_stroke 155 = .ok (.goto 20, 3) := by decide +kernel
theorem dX6_stroke_158 : decode cX6_stroke 158 = .ok (.iload_n 1, 1) := by decide +kernel
theorem dX6_stroke_159 : decode cX6_stroke 159 = .ok (.bipush 6, 2) := by decide +kernel
theorem dX6_stroke_161 : decode cX6_stroke 161 = .ok (.if_icmp .ne 10, 3) := by decide +kernel
theorem dX6_stroke_164 : decode cX6_stroke 164 = .ok (.aload_n 0, 1) := by decide +kernel
theorem dX6_stroke_165 : decode cX6_stroke 165 = .ok (.getfield 114, 3) := by decide +kernel
theorem dX6_stroke_168 : decode cX6_stroke 168 = .ok (.goto 7, 3) := by decide +kernel
theorem dX6_stroke_171 : decode cX6_stroke 171 = .ok (.aload_n 0, 1) := by decide +kernel
theorem dX6_stroke_172 : decode cX6_stroke 172 = .ok (.getfield 95, 3) := by decide +kernel
theorem dX6_stroke_175 : decode cX6_stroke 175 = .ok (.iastore, 1) := by decide +kernel
theorem dX6_stroke_176 : decode cX6_stroke 176 = .ok (.aload_n 0, 1) := by decide +kernel
theorem dX6_stroke_177 : decode cX6_stroke 177 = .ok (.getfield 28, 3) := by decide +kernel
theorem dX6_stroke_180 : decode cX6_stroke 180 = .ok (.aload_n 0, 1) := by decide +kernel
theorem dX6_stroke_181 : decode cX6_stroke 181 = .ok (.getfield 88, 3) := by decide +kernel
theorem dX6_stroke_184 : decode cX6_stroke 184 = .ok (.iload_n 1, 1) := by decide +kernel
theorem dX6_stroke_185 : decode cX6_stroke 185 = .ok (.ifCond .ne 10, 3) := by decide +kernel
theorem dX6_stroke_188 : decode cX6_stroke 188 = .ok (.aload_n 0, 1) := by decide +kernel
theorem dX6_stroke_189 : decode cX6_stroke 189 = .ok (.getfield 120, 3) := by decide +kernel
theorem dX6_stroke_192 : decode cX6_stroke 192 = .ok (.goto 20, 3) := by decide +kernel
theorem dX6_stroke_195 : decode cX6_stroke 195 = .ok (.iload_n 1, 1) := by decide +kernel
theorem dX6_stroke_196 : decode cX6_stroke 196 = .ok (.bipush 6, 2) := by decide +kernel
theorem dX6_stroke_198 : decode cX6_stroke 198 = .ok (.if_icmp .ne 10, 3) := by decide +kernel
theorem dX6_stroke_201 : decode cX6_stroke 201 = .ok (.aload_n 0, 1) := by decide +kernel
theorem dX6_stroke_202 : decode cX6_stroke 202 = .ok (.getfield 117, 3) := by decide +kernel
theorem dX6_stroke_205 : decode cX6_stroke 205 = .ok (.goto 7, 3) := by decide +kernel
theorem dX6_stroke_208 : decode cX6_stroke 208 = .ok (.aload_n 0, 1) := by decide +kernel
theorem dX6_stroke_209 : decode cX6_stroke 209 = .ok (.getfield 98, 3) := by decide +kernel
theorem dX6_stroke_212 : decode cX6_stroke 212 = .ok (.iastore, 1) := by decide +kernel
theorem dX6_stroke_213 : decode cX6_stroke 213 = .ok (.aload_n 0, 1) := by decide +kernel
theorem dX6_stroke_214 : decode cX6_stroke 214 = .ok (.dup, 1) := by decide +kernel
theorem dX6_stroke_215 : decode cX6_stroke 215 = .ok (.getfield 88, 3) := by decide +kernel
theorem dX6_stroke_218 : decode cX6_stroke 218 = .ok (.iconst 1, 1) := by decide +kernel
theorem dX6_stroke_219 : decode cX6_stroke 219 = .ok (.iadd, 1) := by decide +kernel
theorem dX6_stroke_220 : decode cX6_stroke 220 = .ok (.putfield 88, 3) := by decide +kernel
theorem dX6_stroke_223 : decode cX6_stroke 223 = .ok (.aload_n 0, 1) := by decide +kernel
theorem dX6_stroke_224 : decode cX6_stroke 224 = .ok (.getfield 88, 3) := by decide +kernel
theorem dX6_stroke_227 : decode cX6_stroke 227 = .ok (.iconst 1, 1) := by decide +kernel
theorem dX6_stroke_228 : decode cX6_stroke 228 = .ok (.isub, 1) := by decide +kernel
theorem dX6_stroke_229 : decode cX6_stroke 229 = .ok (.ireturn, 1) := by decide +kernel
theorem dX6_isStroke_0 : decode cX6_isStroke 0 = .ok (.aload_n 0, 1) := by decide +kernel
theorem dX6_isStroke_1 : decode cX6_isStroke 1 = .ok (.getfield 84, 3) := by decide +kernel
theorem dX6_isStroke_4 : decode cX6_isStroke 4 = .ok (.ifCond .eq 21, 3) := by decide +kernel
theorem dX6_isStroke_7 : decode cX6_isStroke 7 = .ok (.iload_n 1, 1) := by decide +kernel
theorem dX6_isStroke_8 : decode cX6_isStroke 8 = .ok (.iconst 0, 1) := by decide +kernel
theorem dX6_isStroke_9 : decode cX6_isStroke 9 = .ok (.aload_n 0, 1) := by decide +kernel
theorem dX6_isStroke_10 : decode cX6_isStroke 10 = .ok (.getfield 88, 3) := by decide +kernel
theorem dX6_isStroke_13 : decode cX6_isStroke 13 = .ok (.iconst 1, 1) := by decide +kernel
theorem dX6_isStroke_14 : decode cX6_isStroke 14 = .ok (.isub, 1) := by decide +kernel
theorem dX6_isStroke_15 : decode cX6_isStroke 15 = .ok (.invokestatic 72, 3) := by decide +kernel
theorem dX6_isStroke_18 : decode cX6_isStroke 18 = .ok (.ifCond .eq 7, 3) := by decide +kernel
theorem dX6_isStroke_21 : decode cX6_isStroke 21 = .ok (.iconst 1, 1) := by decide +kernel
theorem dX6_isStroke_22 : decode cX6_isStroke 22 = .ok (.goto 4, 3) := by decide +kernel
theorem dX6_isStroke_25 : decode cX6_isStroke 25 = .ok (.iconst 0, 1) := by decide +kernel
theorem dX6_isStroke_26 : decode cX6_isStroke 26 = .ok (.ireturn, 1) := by decide +kernel
theorem dX6_told_0 : decode cX6_told 0 = .ok (.iload_n 1, 1) := by decide +kernel
theorem dX6_told_1 : decode cX6_told 1 = .ok (.ifCond .lt 12, 3) := by decide +kernel
theorem dX6_told_4 : decode cX6_told 4 = .ok (.iload_n 2, 1) := by decide +kernel
theorem dX6_told_5 : decode cX6_told 5 = .ok (.iconst 0, 1) := by decide +kernel
theorem dX6_told_6 : decode cX6_told 6 = .ok (.iconst 3, 1) := by decide +kernel
theorem dX6_told_7 : decode cX6_told 7 = .ok (.invokestatic 72, 3) := by decide +kernel
theorem dX6_told_10 : decode cX6_told 10 = .ok (.ifCond .ne 5, 3) := by decide +kernel
theorem dX6_told_13 : decode cX6_told 13 = .ok (.iconst (-1), 1) := by decide +kernel
theorem dX6_told_14 : decode cX6_told 14 = .ok (.ireturn, 1) := by decide +kernel
theorem dX6_told_15 : decode cX6_told 15 = .ok (.aload_n 0, 1) := by decide +kernel
theorem dX6_told_16 : decode cX6_told 16 = .ok (.iload_n 1, 1) := by decide +kernel
theorem dX6_told_17 : decode cX6_told 17 = .ok (.invokevirtual 149, 3) := by decide +kernel
theorem dX6_told_20 : decode cX6_told 20 = .ok (.ifCond .ne 6, 3) := by decide +kernel
theorem dX6_told_23 : decode cX6_told 23 = .ok (.bipush (-4), 2) := by decide +kernel
theorem dX6_told_25 : decode cX6_told 25 = .ok (.ireturn, 1) := by decide +kernel
theorem dX6_told_26 : decode cX6_told 26 = .ok (.iload_n 2, 1) := by decide +kernel
theorem dX6_told_27 : decode cX6_told 27 = .ok (.ifCond .ne 12, 3) := by decide +kernel
theorem dX6_told_30 : decode cX6_told 30 = .ok (.aload_n 0, 1) := by decide +kernel
theorem dX6_told_31 : decode cX6_told 31 = .ok (.getfield 19, 3) := by decide +kernel
theorem dX6_told_34 : decode cX6_told 34 = .ok (.iload_n 1, 1) := by decide +kernel
theorem dX6_told_35 : decode cX6_told 35 = .ok (.iaload, 1) := by decide +kernel
theorem dX6_told_36 : decode cX6_told 36 = .ok (.goto 45, 3) := by decide +kernel
theorem dX6_told_39 : decode cX6_told 39 = .ok (.iload_n 2, 1) := by decide +kernel
theorem dX6_told_40 : decode cX6_told 40 = .ok (.iconst 1, 1) := by decide +kernel
theorem dX6_told_41 : decode cX6_told 41 = .ok (.if_icmp .ne 12, 3) := by decide +kernel
theorem dX6_told_44 : decode cX6_told 44 = .ok (.aload_n 0, 1) := by decide +kernel
theorem dX6_told_45 : decode cX6_told 45 = .ok (.getfield 25, 3) := by decide +kernel
theorem dX6_told_48 : decode cX6_told 48 = .ok (.iload_n 1, 1) := by decide +kernel
theorem dX6_told_49 : decode cX6_told 49 = .ok (.iaload, 1) := by decide +kernel
theorem dX6_told_50 : decode cX6_told 50 = .ok (.goto 31, 3) := by decide +kernel
theorem dX6_told_53 : decode cX6_told 53 = .ok (.iload_n 2, 1) := by decide +kernel
theorem dX6_told_54 : decode cX6_told 54 = .ok (.iconst 2, 1) := by decide +kernel
theorem dX6_told_55 : decode cX6_told 55 = .ok (.if_icmp .ne 12, 3) := by decide +kernel
theorem dX6_told_58 : decode cX6_told 58 = .ok (.aload_n 0, 1) := by decide +kernel
theorem dX6_told_59 : decode cX6_told 59 = .ok (.getfield 28, 3) := by decide +kernel
theorem dX6_told_62 : decode cX6_told 62 = .ok (.iload_n 1, 1) := by decide +kernel
theorem dX6_told_63 : decode cX6_told 63 = .ok (.iaload, 1) := by decide +kernel
theorem dX6_told_64 : decode cX6_told 64 = .ok (.goto 17, 3) := by decide +kernel
theorem dX6_told_67 : decode cX6_told 67 = .ok (.aload_n 0, 1) := by decide +kernel
theorem dX6_told_68 : decode cX6_told 68 = .ok (.getfield 31, 3) := by decide +kernel
theorem dX6_told_71 : decode cX6_told 71 = .ok (.iload_n 1, 1) := by decide +kernel
theorem dX6_told_72 : decode cX6_told 72 = .ok (.baload, 1) := by decide +kernel
theorem dX6_told_73 : decode cX6_told 73 = .ok (.ifCond .eq 7, 3) := by decide +kernel
theorem dX6_told_76 : decode cX6_told 76 = .ok (.iconst 1, 1) := by decide +kernel
theorem dX6_told_77 : decode cX6_told 77 = .ok (.goto 4, 3) := by decide +kernel
theorem dX6_told_80 : decode cX6_told 80 = .ok (.iconst 0, 1) := by decide +kernel
theorem dX6_told_81 : decode cX6_told 81 = .ok (.ireturn, 1) := by decide +kernel
theorem dX6_hit_0 : decode cX6_hit 0 = .ok (.aload_n 0, 1) := by decide +kernel
theorem dX6_hit_1 : decode cX6_hit 1 = .ok (.iload_n 1, 1) := by decide +kernel
theorem dX6_hit_2 : decode cX6_hit 2 = .ok (.invokevirtual 149, 3) := by decide +kernel
theorem dX6_hit_5 : decode cX6_hit 5 = .ok (.ifCond .ne 7, 3) := by decide +kernel
theorem dX6_hit_8 : decode cX6_hit 8 = .ok (.iconst (-1), 1) := by decide +kernel
theorem dX6_hit_9 : decode cX6_hit 9 = .ok (.goto 24, 3) := by decide +kernel
theorem dX6_hit_12 : decode cX6_hit 12 = .ok (.aload_n 0, 1) := by decide +kernel
theorem dX6_hit_13 : decode cX6_hit 13 = .ok (.getfield 19, 3) := by decide +kernel
theorem dX6_hit_16 : decode cX6_hit 16 = .ok (.iload_n 1, 1) := by decide +kernel
theorem dX6_hit_17 : decode cX6_hit 17 = .ok (.iaload, 1) := by decide +kernel
theorem dX6_hit_18 : decode cX6_hit 18 = .ok (.iconst 3, 1) := by decide +kernel
theorem dX6_hit_19 : decode cX6_hit 19 = .ok (.if_icmp .eq 8, 3) := by decide +kernel
theorem dX6_hit_22 : decode cX6_hit 22 = .ok (.bipush (-13), 2) := by decide +kernel
theorem dX6_hit_24 : decode cX6_hit 24 = .ok (.goto 9, 3) := by decide +kernel
theorem dX6_hit_27 : decode cX6_hit 27 = .ok (.aload_n 0, 1) := by decide +kernel
theorem dX6_hit_28 : decode cX6_hit 28 = .ok (.getfield 22, 3) := by decide +kernel
theorem dX6_hit_31 : decode cX6_hit 31 = .ok (.iload_n 1, 1) := by decide +kernel
theorem dX6_hit_32 : decode cX6_hit 32 = .ok (.iaload, 1) := by decide +kernel
theorem dX6_hit_33 : decode cX6_hit 33 = .ok (.ireturn, 1) := by decide +kernel
theorem dX6_state_0 : decode cX6_state 0 = .ok (.aload_n 0, 1) := by decide +kernel
theorem dX6_state_1 : decode cX6_state 1 = .ok (.getfield 84, 3) := by decide +kernel
theorem dX6_state_4 : decode cX6_state 4 = .ok (.ifCond .eq 25, 3) := by decide +kernel
theorem dX6_state_7 : decode cX6_state 7 = .ok (.iload_n 1, 1) := by decide +kernel
theorem dX6_state_8 : decode cX6_state 8 = .ok (.iconst 0, 1) := by decide +kernel
theorem dX6_state_9 : decode cX6_state 9 = .ok (.aload_n 0, 1) := by decide +kernel
theorem dX6_state_10 : decode cX6_state 10 = .ok (.getfield 88, 3) := by decide +kernel
theorem dX6_state_13 : decode cX6_state 13 = .ok (.invokestatic 72, 3) := by decide +kernel
theorem dX6_state_16 : decode cX6_state 16 = .ok (.ifCond .eq 13, 3) := by decide +kernel
theorem dX6_state_19 : decode cX6_state 19 = .ok (.iload_n 2, 1) := by decide +kernel
theorem dX6_state_20 : decode cX6_state 20 = .ok (.iconst 0, 1) := by decide +kernel
theorem dX6_state_21 : decode cX6_state 21 = .ok (.bipush 11, 2) := by decide +kernel
theorem dX6_state_23 : decode cX6_state 23 = .ok (.invokestatic 72, 3) := by decide +kernel
theorem dX6_state_26 : decode cX6_state 26 = .ok (.ifCond .ne 5, 3) := by decide +kernel
theorem dX6_state_29 : decode cX6_state 29 = .ok (.iconst (-1), 1) := by decide +kernel
theorem dX6_state_30 : decode cX6_state 30 = .ok (.ireturn, 1) := by decide +kernel
theorem dX6_state_31 : decode cX6_state 31 = .ok (.aload_n 0, 1) := by decide +kernel
theorem dX6_state_32 : decode cX6_state 32 = .ok (.iload_n 1, 1) := by decide +kernel
theorem dX6_state_33 : decode cX6_state 33 = .ok (.invokevirtual 136, 3) := by decide +kernel
theorem dX6_state_36 : decode cX6_state 36 = .ok (.iload_n 2, 1) := by decide +kernel
theorem dX6_state_37 : decode cX6_state 37 = .ok (.tableswitch 117 0 11 #[63, 82, 87, 92, 97, 117, 117, 117, 117, 102, 102, 112], 63) := by decide +kernel
theorem dX6_state_100 : decode cX6_state 100 = .ok (.aload_n 0, 1) := by decide +kernel
theorem dX6_state_101 : decode cX6_state 101 = .ok (.getfield 95, 3) := by decide +kernel
theorem dX6_state_104 : decode cX6_state 104 = .ok (.ifCond .lt 10, 3) := by decide +kernel
theorem dX6_state_107 : decode cX6_state 107 = .ok (.aload_n 0, 1) := by decide +kernel
theorem dX6_state_108 : decode cX6_state 108 = .ok (.getfield 98, 3) := by decide +kernel
theorem dX6_state_111 : decode cX6_state 111 = .ok (.goto 7, 3) := by decide +kernel
theorem dX6_state_114 : decode cX6_state 114 = .ok (.aload_n 0, 1) := by decide +kernel
theorem dX6_state_115 : decode cX6_state 115 = .ok (.getfield 120, 3) := by decide +kernel
theorem dX6_state_118 : decode cX6_state 118 = .ok (.ireturn, 1) := by decide +kernel
theorem dX6_state_119 : decode cX6_state 119 = .ok (.aload_n 0, 1) := by decide +kernel
theorem dX6_state_120 : decode cX6_state 120 = .ok (.getfield 95, 3) := by decide +kernel
theorem dX6_state_123 : decode cX6_state 123 = .ok (.ireturn, 1) := by decide +kernel
theorem dX6_state_124 : decode cX6_state 124 = .ok (.aload_n 0, 1) := by decide +kernel
theorem dX6_state_125 : decode cX6_state 125 = .ok (.getfield 101, 3) := by decide +kernel
theorem dX6_state_128 : decode cX6_state 128 = .ok (.ireturn, 1) := by decide +kernel
theorem dX6_state_129 : decode cX6_state 129 = .ok (.aload_n 0, 1) := by decide +kernel
theorem dX6_state_130 : decode cX6_state 130 = .ok (.getfield 111, 3) := by decide +kernel
theorem dX6_state_133 : decode cX6_state 133 = .ok (.ireturn, 1) := by decide +kernel
theorem dX6_state_134 : decode cX6_state 134 = .ok (.aload_n 0, 1) := by decide +kernel
theorem dX6_state_135 : decode cX6_state 135 = .ok (.getfield 104, 3) := by decide +kernel
theorem dX6_state_138 : decode cX6_state 138 = .ok (.ireturn, 1) := by decide +kernel
theorem dX6_state_139 : decode cX6_state 139 = .ok (.aload_n 0, 1) := by decide +kernel
theorem dX6_state_140 : decode cX6_state 140 = .ok (.getfield 44, 3) := by decide +kernel
theorem dX6_state_143 : decode cX6_state 143 = .ok (.iload_n 2, 1) := by decide +kernel
theorem dX6_state_144 : decode cX6_state 144 = .ok (.bipush 9, 2) := by decide +kernel
theorem dX6_state_146 : decode cX6_state 146 = .ok (.isub, 1) := by decide +kernel
theorem dX6_state_147 : decode cX6_state 147 = .ok (.iaload, 1) := by decide +kernel
theorem dX6_state_148 : decode cX6_state 148 = .ok (.ireturn, 1) := by decide +kernel
theorem dX6_state_149 : decode cX6_state 149 = .ok (.aload_n 0, 1) := by decide +kernel
theorem dX6_state_150 : decode cX6_state 150 = .ok (.invokevirtual 139, 3) := by decide +kernel
theorem dX6_state_153 : decode cX6_state 153 = .ok (.ireturn, 1) := by decide +kernel
theorem dX6_state_154 : decode cX6_state 154 = .ok (.aload_n 0, 1) := by decide +kernel
theorem dX6_state_155 : decode cX6_state 155 = .ok (.getfield 41, 3) := by decide +kernel
theorem dX6_state_158 : decode cX6_state 158 = .ok (.iload_n 2, 1) := by decide +kernel
theorem dX6_state_159 : decode cX6_state 159 = .ok (.iconst 5, 1) := by decide +kernel
theorem dX6_state_160 : decode cX6_state 160 = .ok (.isub, 1) := by decide +kernel
theorem dX6_state_161 : decode cX6_state 161 = .ok (.iaload, 1) := by decide +kernel
theorem dX6_state_162 : decode cX6_state 162 = .ok (.ireturn, 1) := by decide +kernel
theorem dX6_count_0 : decode cX6_count 0 = .ok (.iload_n 1, 1) := by decide +kernel
theorem dX6_count_1 : decode cX6_count 1 = .ok (.iconst 0, 1) := by decide +kernel
theorem dX6_count_2 : decode cX6_count 2 = .ok (.iconst 2, 1) := by decide +kernel
theorem dX6_count_3 : decode cX6_count 3 = .ok (.invokestatic 72, 3) := by decide +kernel
theorem dX6_count_6 : decode cX6_count 6 = .ok (.ifCond .ne 5, 3) := by decide +kernel
theorem dX6_count_9 : decode cX6_count 9 = .ok (.iconst (-1), 1) := by decide +kernel
theorem dX6_count_10 : decode cX6_count 10 = .ok (.ireturn, 1) := by decide +kernel
theorem dX6_count_11 : decode cX6_count 11 = .ok (.iconst 0, 1) := by decide +kernel
theorem dX6_count_12 : decode cX6_count 12 = .ok (.istore_n 2, 1) := by decide +kernel
theorem dX6_count_13 : decode cX6_count 13 = .ok (.iconst 0, 1) := by decide +kernel
theorem dX6_count_14 : decode cX6_count 14 = .ok (.istore_n 3, 1) := by decide +kernel
theorem dX6_count_15 : decode cX6_count 15 = .ok (.iload_n 3, 1) := by decide +kernel
theorem dX6_count_16 : decode cX6_count 16 = .ok (.aload_n 0, 1) := by decide +kernel
theorem dX6_count_17 : decode cX6_count 17 = .ok (.getfield 88, 3) := by decide +kernel
theorem dX6_count_20 : decode cX6_count 20 = .ok (.if_icmp .ge 79, 3) := by decide +kernel
theorem dX6_count_23 : decode cX6_count 23 = .ok (.aload_n 0, 1) := by decide +kernel
theorem dX6_count_24 : decode cX6_count 24 = .ok (.getfield 84, 3) := by decide +kernel
theorem dX6_count_27 : decode cX6_count 27 = .ok (.ifCond .eq 72, 3) := by decide +kernel
theorem dX6_count_30 : decode cX6_count 30 = .ok (.aload_n 0, 1) := by decide +kernel
theorem dX6_count_31 : decode cX6_count 31 = .ok (.getfield 19, 3) := by decide +kernel
theorem dX6_count_34 : decode cX6_count 34 = .ok (.iload_n 3, 1) := by decide +kernel
theorem dX6_count_35 : decode cX6_count 35 = .ok (.iaload, 1) := by decide +kernel
theorem dX6_count_36 : decode cX6_count 36 = .ok (.ifCond .eq 14, 3) := by decide +kernel
theorem dX6_count_39 : decode cX6_count 39 = .ok (.aload_n 0, 1) := by decide +kernel
theorem dX6_count_40 : decode cX6_count 40 = .ok (.getfield 19, 3) := by decide +kernel
theorem dX6_count_43 : decode cX6_count 43 = .ok (.iload_n 3, 1) := by decide +kernel
theorem dX6_count_44 : decode cX6_count 44 = .ok (.iaload, 1) := by decide +kernel
theorem dX6_count_45 : decode cX6_count 45 = .ok (.bipush 6, 2) := by decide +kernel
theorem dX6_count_47 : decode cX6_count 47 = .ok (.if_icmp .ne 7, 3) := by decide +kernel
theorem dX6_count_50 : decode cX6_count 50 = .ok (.iconst 1, 1) := by decide +kernel
theorem dX6_count_51 : decode cX6_count 51 = .ok (.goto 4, 3) := by decide +kernel
theorem dX6_count_54 : decode cX6_count 54 = .ok (.iconst 0, 1) := by decide +kernel
theorem dX6_count_55 : decode cX6_count 55 = .ok (.istore 4, 2) := by decide +kernel
theorem dX6_count_57 : decode cX6_count 57 = .ok (.iload_n 2, 1) := by decide +kernel
theorem dX6_count_58 : decode cX6_count 58 = .ok (.iload_n 1, 1) := by decide +kernel
theorem dX6_count_59 : decode cX6_count 59 = .ok (.ifCond .eq 27, 3) := by decide +kernel
theorem dX6_count_62 : decode cX6_count 62 = .ok (.iload_n 1, 1) := by decide +kernel
theorem dX6_count_63 : decode cX6_count 63 = .ok (.iconst 1, 1) := by decide +kernel
theorem dX6_count_64 : decode cX6_count 64 = .ok (.if_icmp .ne 12, 3) := by decide +kernel
theorem dX6_count_67 : decode cX6_count 67 = .ok (.aload_n 0, 1) := by decide +kernel
theorem dX6_count_68 : decode cX6_count 68 = .ok (.getfield 31, 3) := by decide +kernel
theorem dX6_count_71 : decode cX6_count 71 = .ok (.iload_n 3, 1) := by decide +kernel
theorem dX6_count_72 : decode cX6_count 72 = .ok (.baload, 1) := by decide +kernel
theorem dX6_count_73 : decode cX6_count 73 = .ok (.ifCond .ne 13, 3) := by decide +kernel
theorem dX6_count_76 : decode cX6_count 76 = .ok (.iload_n 1, 1) := by decide +kernel
theorem dX6_count_77 : decode cX6_count 77 = .ok (.iconst 2, 1) := by decide +kernel
theorem dX6_count_78 : decode cX6_count 78 = .ok (.if_icmp .ne 12, 3) := by decide +kernel
theorem dX6_count_81 : decode cX6_count 81 = .ok (.iload 4, 2) := by decide +kernel
theorem dX6_count_83 : decode cX6_count 83 = .ok (.ifCond .eq 7, 3) := by decide +kernel
theorem dX6_count_86 : decode cX6_count 86 = .ok (.iconst 1, 1) := by decide +kernel
theorem dX6_count_87 : decode cX6_count 87 = .ok (.goto 4, 3) := by decide +kernel
theorem dX6_count_90 : decode cX6_count 90 = .ok (.iconst 0, 1) := by decide +kernel
theorem dX6_count_91 : decode cX6_count 91 = .ok (.iadd, 1) := by decide +kernel
theorem dX6_count_92 : decode cX6_count 92 = .ok (.istore_n 2, 1) := by decide +kernel
theorem dX6_count_93 : decode cX6_count 93 = .ok (.iinc 3 1, 3) := by decide +kernel
theorem dX6_count_96 : decode cX6_count 96 = .ok (.goto (-81), 3) := by decide +kernel
theorem dX6_count_99 : decode cX6_count 99 = .ok (.iload_n 2, 1) := by decide +kernel
theorem dX6_count_100 : decode cX6_count 100 = .ok (.ireturn, 1) := by decide +kernel
theorem dX6_found_0 : decode cX6_found 0 = .ok (.aload_n 0, 1) := by decide +kernel
theorem dX6_found_1 : decode cX6_found 1 = .ok (.iload_n 1, 1) := by decide +kernel
theorem dX6_found_2 : decode cX6_found 2 = .ok (.invokevirtual 149, 3) := by decide +kernel
theorem dX6_found_5 : decode cX6_found 5 = .ok (.ifCond .ne 5, 3) := by decide +kernel
theorem dX6_found_8 : decode cX6_found 8 = .ok (.iconst (-1), 1) := by decide +kernel
theorem dX6_found_9 : decode cX6_found 9 = .ok (.ireturn, 1) := by decide +kernel
theorem dX6_found_10 : decode cX6_found 10 = .ok (.aload_n 0, 1) := by decide +kernel
theorem dX6_found_11 : decode cX6_found 11 = .ok (.getfield 19, 3) := by decide +kernel
theorem dX6_found_14 : decode cX6_found 14 = .ok (.iload_n 1, 1) := by decide +kernel
theorem dX6_found_15 : decode cX6_found 15 = .ok (.iaload, 1) := by decide +kernel
theorem dX6_found_16 : decode cX6_found 16 = .ok (.ifCond .ne 7, 3) := by decide +kernel
theorem dX6_found_19 : decode cX6_found 19 = .ok (.iconst 0, 1) := by decide +kernel
theorem dX6_found_20 : decode cX6_found 20 = .ok (.goto 4, 3) := by decide +kernel
theorem dX6_found_23 : decode cX6_found 23 = .ok (.iconst 1, 1) := by decide +kernel
theorem dX6_found_24 : decode cX6_found 24 = .ok (.istore_n 2, 1) := by decide +kernel
theorem dX6_found_25 : decode cX6_found 25 = .ok (.aload_n 0, 1) := by decide +kernel
theorem dX6_found_26 : decode cX6_found 26 = .ok (.getfield 31, 3) := by decide +kernel
theorem dX6_found_29 : decode cX6_found 29 = .ok (.iload_n 1, 1) := by decide +kernel
theorem dX6_found_30 : decode cX6_found 30 = .ok (.baload, 1) := by decide +kernel
theorem dX6_found_31 : decode cX6_found 31 = .ok (.ifCond .eq 29, 3) := by decide +kernel
theorem dX6_found_34 : decode cX6_found 34 = .ok (.aload_n 0, 1) := by decide +kernel
theorem dX6_found_35 : decode cX6_found 35 = .ok (.getfield 50, 3) := by decide +kernel
theorem dX6_found_38 : decode cX6_found 38 = .ok (.iload_n 2, 1) := by decide +kernel
theorem dX6_found_39 : decode cX6_found 39 = .ok (.iaload, 1) := by decide +kernel
theorem dX6_found_40 : decode cX6_found 40 = .ok (.ifCond .eq 20, 3) := by decide +kernel
theorem dX6_found_43 : decode cX6_found 43 = .ok (.aload_n 0, 1) := by decide +kernel
theorem dX6_found_44 : decode cX6_found 44 = .ok (.getfield 88, 3) := by decide +kernel
theorem dX6_found_47 : decode cX6_found 47 = .ok (.iconst 1, 1) := by decide +kernel
theorem dX6_found_48 : decode cX6_found 48 = .ok (.isub, 1) := by decide +kernel
theorem dX6_found_49 : decode cX6_found 49 = .ok (.iload_n 1, 1) := by decide +kernel
theorem dX6_found_50 : decode cX6_found 50 = .ok (.isub, 1) := by decide +kernel
theorem dX6_found_51 : decode cX6_found 51 = .ok (.aload_n 0, 1) := by decide +kernel
theorem dX6_found_52 : decode cX6_found 52 = .ok (.getfield 47, 3) := by decide +kernel
theorem dX6_found_55 : decode cX6_found 55 = .ok (.iload_n 2, 1) := by decide +kernel
theorem dX6_found_56 : decode cX6_found 56 = .ok (.iaload, 1) := by decide +kernel
theorem dX6_found_57 : decode cX6_found 57 = .ok (.if_icmp .le 6, 3) := by decide +kernel
theorem dX6_found_60 : decode cX6_found 60 = .ok (.bipush (-2), 2) := by decide +kernel
theorem dX6_found_62 : decode cX6_found 62 = .ok (.ireturn, 1) := by decide +kernel
theorem dX6_found_63 : decode cX6_found 63 = .ok (.aload_n 0, 1) := by decide +kernel
theorem dX6_found_64 : decode cX6_found 64 = .ok (.getfield 31, 3) := by decide +kernel
theorem dX6_found_67 : decode cX6_found 67 = .ok (.iload_n 1, 1) := by decide +kernel
theorem dX6_found_68 : decode cX6_found 68 = .ok (.iconst 0, 1) := by decide +kernel
theorem dX6_found_69 : decode cX6_found 69 = .ok (.bastore, 1) := by decide +kernel
theorem dX6_found_70 : decode cX6_found 70 = .ok (.aload_n 0, 1) := by decide +kernel
theorem dX6_found_71 : decode cX6_found 71 = .ok (.getfield 50, 3) := by decide +kernel
theorem dX6_found_74 : decode cX6_found 74 = .ok (.iload_n 2, 1) := by decide +kernel
theorem dX6_found_75 : decode cX6_found 75 = .ok (.iaload, 1) := by decide +kernel
theorem dX6_found_76 : decode cX6_found 76 = .ok (.bipush 82, 2) := by decide +kernel
theorem dX6_found_78 : decode cX6_found 78 = .ok (.if_icmp .ne 31, 3) := by decide +kernel
theorem dX6_found_81 : decode cX6_found 81 = .ok (.aload_n 0, 1) := by decide +kernel
theorem dX6_found_82 : decode cX6_found 82 = .ok (.iload_n 1, 1) := by decide +kernel
theorem dX6_found_83 : decode cX6_found 83 = .ok (.putfield 88, 3) := by decide +kernel
theorem dX6_found_86 : decode cX6_found 86 = .ok (.aload_n 0, 1) := by decide +kernel
theorem dX6_found_87 : decode cX6_found 87 = .ok (.iload_n 1, 1) := by decide +kernel
theorem dX6_found_88 : decode cX6_found 88 = .ok (.iconst 1, 1) := by decide +kernel
theorem dX6_found_89 : decode cX6_found 89 = .ok (.iadd, 1) := by decide +kernel
theorem dX6_found_90 : decode cX6_found 90 = .ok (.invokevirtual 91, 3) := by decide +kernel
theorem dX6_found_93 : decode cX6_found 93 = .ok (.aload_n 0, 1) := by decide +kernel
theorem dX6_found_94 : decode cX6_found 94 = .ok (.getfield 35, 3) := by decide +kernel
theorem dX6_found_97 : decode cX6_found 97 = .ok (.iload_n 1, 1) := by decide +kernel
theorem dX6_found_98 : decode cX6_found 98 = .ok (.iconst 1, 1) := by decide +kernel
theorem dX6_found_99 : decode cX6_found 99 = .ok (.aload_n 0, 1) := by decide +kernel
theorem dX6_found_100 : decode cX6_found 100 = .ok (.getfield 28, 3) := by decide +kernel
theorem dX6_found_103 : decode cX6_found 103 = .ok (.iload_n 1, 1) := by decide +kernel
theorem dX6_found_104 : decode cX6_found 104 = .ok (.iaload, 1) := by decide +kernel
theorem dX6_found_105 : decode cX6_found 105 = .ok (.isub, 1) := by decide +kernel
theorem dX6_found_106 : decode cX6_found 106 = .ok (.iastore, 1) := by decide +kernel
theorem dX6_found_107 : decode cX6_found 107 = .ok (.iconst 1, 1) := by decide +kernel
theorem dX6_found_108 : decode cX6_found 108 = .ok (.ireturn, 1) := by decide +kernel
theorem dX6_found_109 : decode cX6_found 109 = .ok (.aload_n 0, 1) := by decide +kernel
theorem dX6_found_110 : decode cX6_found 110 = .ok (.aload_n 0, 1) := by decide +kernel
theorem dX6_found_111 : decode cX6_found 111 = .ok (.getfield 88, 3) := by decide +kernel
theorem dX6_found_114 : decode cX6_found 114 = .ok (.invokevirtual 136, 3) := by decide +kernel
theorem dX6_found_117 : decode cX6_found 117 = .ok (.aload_n 0, 1) := by decide +kernel
theorem dX6_found_118 : decode cX6_found 118 = .ok (.getfield 38, 3) := by decide +kernel
theorem dX6_found_121 : decode cX6_found 121 = .ok (.aload_n 0, 1) := by decide +kernel
theorem dX6_found_122 : decode cX6_found 122 = .ok (.getfield 88, 3) := by decide +kernel
theorem dX6_found_125 : decode cX6_found 125 = .ok (.aload_n 0, 1) := by decide +kernel
theorem dX6_found_126 : decode cX6_found 126 = .ok (.getfield 38, 3) := by decide +kernel
theorem dX6_found_129 : decode cX6_found 129 = .ok (.aload_n 0, 1) := by decide +kernel
theorem dX6_found_130 : decode cX6_found 130 = .ok (.getfield 88, 3) := by decide +kernel
theorem dX6_found_133 : decode cX6_found 133 = .ok (.baload, 1) := by decide +kernel
theorem dX6_found_134 : decode cX6_found 134 = .ok (.ifCond .ne 10, 3) := by decide +kernel
theorem dX6_found_137 : decode cX6_found 137 = .ok (.aload_n 0, 1) := by decide +kernel
theorem dX6_found_138 : decode cX6_found 138 = .ok (.getfield 95, 3) := by decide +kernel
theorem dX6_found_141 : decode cX6_found 141 = .ok (.ifCond .lt 7, 3) := by decide +kernel
theorem dX6_found_144 : decode cX6_found 144 = .ok (.iconst 1, 1) := by decide +kernel
theorem dX6_found_145 : decode cX6_found 145 = .ok (.goto 4, 3) := by decide +kernel
theorem dX6_found_148 : decode cX6_found 148 = .ok (.iconst 0, 1) := by decide +kernel
theorem dX6_found_149 : decode cX6_found 149 = .ok (.bastore, 1) := by decide +kernel
theorem dX6_found_150 : decode cX6_found 150 = .ok (.iconst 2, 1) := by decide +kernel
theorem dX6_found_151 : decode cX6_found 151 = .ok (.ireturn, 1) := by decide +kernel
theorem dX6_type_0 : decode cX6_type 0 = .ok (.iload_n 3, 1) := by decide +kernel
theorem dX6_type_1 : decode cX6_type 1 = .ok (.iconst 1, 1) := by decide +kernel
theorem dX6_type_2 : decode cX6_type 2 = .ok (.bipush 8, 2) := by decide +kernel
theorem dX6_type_4 : decode cX6_type 4 = .ok (.invokestatic 72, 3) := by decide +kernel
theorem dX6_type_7 : decode cX6_type 7 = .ok (.ifCond .ne 5, 3) := by decide +kernel
theorem dX6_type_10 : decode cX6_type 10 = .ok (.iconst (-1), 1) := by decide +kernel
theorem dX6_type_11 : decode cX6_type 11 = .ok (.ireturn, 1) := by decide +kernel
theorem dX6_type_12 : decode cX6_type 12 = .ok (.iload_n 3, 1) := by decide +kernel
theorem dX6_type_13 : decode cX6_type 13 = .ok (.iconst 1, 1) := by decide +kernel
theorem dX6_type_14 : decode cX6_type 14 = .ok (.isub, 1) := by decide +kernel
theorem dX6_type_15 : decode cX6_type 15 = .ok (.istore 4, 2) := by decide +kernel
theorem dX6_type_17 : decode cX6_type 17 = .ok (.iload 4, 2) := by decide +kernel
theorem dX6_type_19 : decode cX6_type 19 = .ok (.ifCond .lt 33, 3) := by decide +kernel
theorem dX6_type_22 : decode cX6_type 22 = .ok (.lload_n 1, 1) := by decide +kernel
theorem dX6_type_23 : decode cX6_type 23 = .ok (.bipush 8, 2) := by decide +kernel
theorem dX6_type_25 : decode cX6_type 25 = .ok (.iload 4, 2) := by decide +kernel
theorem dX6_type_27 : decode cX6_type 27 = .ok (.imul, 1) := by decide +kernel
theorem dX6_type_28 : decode cX6_type 28 = .ok (.lshr, 1) := by decide +kernel
theorem dX6_type_29 : decode cX6_type 29 = .ok (.ldc2_w 152, 3) := by decide +kernel
theorem dX6_type_32 : decode cX6_type 32 = .ok (.land, 1) := by decide +kernel
theorem dX6_type_33 : decode cX6_type 33 = .ok (.l2i, 1) := by decide +kernel
theorem dX6_type_34 : decode cX6_type 34 = .ok (.bipush 32, 2) := by decide +kernel
theorem dX6_type_36 : decode cX6_type 36 = .ok (.bipush 126, 2) := by decide +kernel
theorem dX6_type_38 : decode cX6_type 38 = .ok (.invokestatic 72, 3) := by decide +kernel
theorem dX6_type_41 : decode cX6_type 41 = .ok (.ifCond .ne 5, 3) := by decide +kernel
theorem dX6_type_44 : decode cX6_type 44 = .ok (.iconst (-1), 1) := by decide +kernel
theorem dX6_type_45 : decode cX6_type 45 = .ok (.ireturn, 1) := by decide +kernel
theorem dX6_type_46 : decode cX6_type 46 = .ok (.iinc 4 (-1), 3) := by decide +kernel
theorem dX6_type_49 : decode cX6_type 49 = .ok (.goto (-32), 3) := by decide +kernel
theorem dX6_type_52 : decode cX6_type 52 = .ok (.aload_n 0, 1) := by decide +kernel
theorem dX6_type_53 : decode cX6_type 53 = .ok (.getfield 154, 3) := by decide +kernel
theorem dX6_type_56 : decode cX6_type 56 = .ok (.iload_n 3, 1) := by decide +kernel
theorem dX6_type_57 : decode cX6_type 57 = .ok (.iadd, 1) := by decide +kernel
theorem dX6_type_58 : decode cX6_type 58 = .ok (.bipush 30, 2) := by decide +kernel
theorem dX6_type_60 : decode cX6_type 60 = .ok (.if_icmp .le 6, 3) := by decide +kernel
theorem dX6_type_63 : decode cX6_type 63 = .ok (.bipush (-3), 2) := by decide +kernel
theorem dX6_type_65 : decode cX6_type 65 = .ok (.ireturn, 1) := by decide +kernel
theorem dX6_type_66 : decode cX6_type 66 = .ok (.iload_n 3, 1) := by decide +kernel
theorem dX6_type_67 : decode cX6_type 67 = .ok (.iconst 1, 1) := by decide +kernel
theorem dX6_type_68 : decode cX6_type 68 = .ok (.isub, 1) := by decide +kernel
theorem dX6_type_69 : decode cX6_type 69 = .ok (.istore 4, 2) := by decide +kernel
theorem dX6_type_71 : decode cX6_type 71 = .ok (.iload 4, 2) := by decide +kernel
theorem dX6_type_73 : decode cX6_type 73 = .ok (.ifCond .lt 40, 3) := by decide +kernel
theorem dX6_type_76 : decode cX6_type 76 = .ok (.aload_n 0, 1) := by decide +kernel
theorem dX6_type_77 : decode cX6_type 77 = .ok (.getfield 59, 3) := by decide +kernel
theorem dX6_type_80 : decode cX6_type 80 = .ok (.aload_n 0, 1) := by decide +kernel
theorem dX6_type_81 : decode cX6_type 81 = .ok (.getfield 154, 3) := by decide +kernel
theorem dX6_type_84 : decode cX6_type 84 = .ok (.lload_n 1, 1) := by decide +kernel
theorem dX6_type_85 : decode cX6_type 85 = .ok (.bipush 8, 2) := by decide +kernel
theorem dX6_type_87 : decode cX6_type 87 = .ok (.iload 4, 2) := by decide +kernel
theorem dX6_type_89 : decode cX6_type 89 = .ok (.imul, 1) := by decide +kernel
theorem dX6_type_90 : decode cX6_type 90 = .ok (.lshr, 1) := by decide +kernel
theorem dX6_type_91 : decode cX6_type 91 = .ok (.ldc2_w 152, 3) := by decide +kernel
theorem dX6_type_94 : decode cX6_type 94 = .ok (.land, 1) := by decide +kernel
theorem dX6_type_95 : decode cX6_type 95 = .ok (.l2i, 1) := by decide +kernel
theorem dX6_type_96 : decode cX6_type 96 = .ok (.iastore, 1) := by decide +kernel
theorem dX6_type_97 : decode cX6_type 97 = .ok (.aload_n 0, 1) := by decide +kernel
theorem dX6_type_98 : decode cX6_type 98 = .ok (.dup, 1) := by decide +kernel
theorem dX6_type_99 : decode cX6_type 99 = .ok (.getfield 154, 3) := by decide +kernel
theorem dX6_type_102 : decode cX6_type 102 = .ok (.iconst 1, 1) := by decide +kernel
theorem dX6_type_103 : decode cX6_type 103 = .ok (.iadd, 1) := by decide +kernel
theorem dX6_type_104 : decode cX6_type 104 = .ok (.putfield 154, 3) := by decide +kernel
theorem dX6_type_107 : decode cX6_type 107 = .ok (.iinc 4 (-1), 3) := by decide +kernel
theorem dX6_type_110 : decode cX6_type 110 = .ok (.goto (-39), 3) := by decide +kernel
theorem dX6_type_113 : decode cX6_type 113 = .ok (.aload_n 0, 1) := by decide +kernel
theorem dX6_type_114 : decode cX6_type 114 = .ok (.getfield 154, 3) := by decide +kernel
theorem dX6_type_117 : decode cX6_type 117 = .ok (.ireturn, 1) := by decide +kernel
theorem dX6_next_0 : decode cX6_next 0 = .ok (.aload_n 0, 1) := by decide +kernel
theorem dX6_next_1 : decode cX6_next 1 = .ok (.getfield 157, 3) := by decide +kernel
theorem dX6_next_4 : decode cX6_next 4 = .ok (.aload_n 0, 1) := by decide +kernel
theorem dX6_next_5 : decode cX6_next 5 = .ok (.getfield 154, 3) := by decide +kernel
theorem dX6_next_8 : decode cX6_next 8 = .ok (.if_icmp .ge 30, 3) := by decide +kernel
theorem dX6_next_11 : decode cX6_next 11 = .ok (.aload_n 0, 1) := by decide +kernel
theorem dX6_next_12 : decode cX6_next 12 = .ok (.getfield 59, 3) := by decide +kernel
theorem dX6_next_15 : decode cX6_next 15 = .ok (.aload_n 0, 1) := by decide +kernel
theorem dX6_next_16 : decode cX6_next 16 = .ok (.getfield 157, 3) := by decide +kernel
theorem dX6_next_19 : decode cX6_next 19 = .ok (.iaload, 1) := by decide +kernel
theorem dX6_next_20 : decode cX6_next 20 = .ok (.bipush 32, 2) := by decide +kernel
theorem dX6_next_22 : decode cX6_next 22 = .ok (.if_icmp .ne 16, 3) := by decide +kernel
theorem dX6_next_25 : decode cX6_next 25 = .ok (.aload_n 0, 1) := by decide +kernel
theorem dX6_next_26 : decode cX6_next 26 = .ok (.dup, 1) := by decide +kernel
theorem dX6_next_27 : decode cX6_next 27 = .ok (.getfield 157, 3) := by decide +kernel
theorem dX6_next_30 : decode cX6_next 30 = .ok (.iconst 1, 1) := by decide +kernel
theorem dX6_next_31 : decode cX6_next 31 = .ok (.iadd, 1) := by decide +kernel
theorem dX6_next_32 : decode cX6_next 32 = .ok (.putfield 157, 3) := by decide +kernel
theorem dX6_next_35 : decode cX6_next 35 = .ok (.goto (-35), 3) := by decide +kernel
theorem dX6_next_38 : decode cX6_next 38 = .ok (.aload_n 0, 1) := by decide +kernel
theorem dX6_next_39 : decode cX6_next 39 = .ok (.getfield 157, 3) := by decide +kernel
theorem dX6_next_42 : decode cX6_next 42 = .ok (.aload_n 0, 1) := by decide +kernel
theorem dX6_next_43 : decode cX6_next 43 = .ok (.getfield 154, 3) := by decide +kernel
theorem dX6_next_46 : decode cX6_next 46 = .ok (.if_icmp .ge 15, 3) := by decide +kernel
theorem dX6_next_49 : decode cX6_next 49 = .ok (.aload_n 0, 1) := by decide +kernel
theorem dX6_next_50 : decode cX6_next 50 = .ok (.getfield 59, 3) := by decide +kernel
theorem dX6_next_53 : decode cX6_next 53 = .ok (.aload_n 0, 1) := by decide +kernel
theorem dX6_next_54 : decode cX6_next 54 = .ok (.getfield 157, 3) := by decide +kernel
theorem dX6_next_57 : decode cX6_next 57 = .ok (.iaload, 1) := by decide +kernel
theorem dX6_next_58 : decode cX6_next 58 = .ok (.goto 4, 3) := by decide +kernel
theorem dX6_next_61 : decode cX6_next 61 = .ok (.iconst (-1), 1) := by decide +kernel
theorem dX6_next_62 : decode cX6_next 62 = .ok (.ireturn, 1) := by decide +kernel
theorem dX6_readClause_0 : decode cX6_readClause 0 = .ok (.aload_n 0, 1) := by decide +kernel
theorem dX6_readClause_1 : decode cX6_readClause 1 = .ok (.invokevirtual 160, 3) := by decide +kernel
theorem dX6_readClause_4 : decode cX6_readClause 4 = .ok (.istore_n 1, 1) := by decide +kernel
theorem dX6_readClause_5 : decode cX6_readClause 5 = .ok (.iload_n 1, 1) := by decide +kernel
theorem dX6_readClause_6 : decode cX6_readClause 6 = .ok (.bipush 112, 2) := by decide +kernel
theorem dX6_readClause_8 : decode cX6_readClause 8 = .ok (.if_icmp .eq 11, 3) := by decide +kernel
theorem dX6_readClause_11 : decode cX6_readClause 11 = .ok (.iload_n 1, 1) := by decide +kernel
theorem dX6_readClause_12 : decode cX6_readClause 12 = .ok (.bipush 114, 2) := by decide +kernel
theorem dX6_readClause_14 : decode cX6_readClause 14 = .ok (.if_icmp .eq 5, 3) := by decide +kernel
theorem dX6_readClause_17 : decode cX6_readClause 17 = .ok (.iconst 0, 1) := by decide +kernel
theorem dX6_readClause_18 : decode cX6_readClause 18 = .ok (.ireturn, 1) := by decide +kernel
theorem dX6_readClause_19 : decode cX6_readClause 19 = .ok (.iload_n 1, 1) := by decide +kernel
theorem dX6_readClause_20 : decode cX6_readClause 20 = .ok (.bipush 112, 2) := by decide +kernel
theorem dX6_readClause_22 : decode cX6_readClause 22 = .ok (.if_icmp .ne 7, 3) := by decide +kernel
theorem dX6_readClause_25 : decode cX6_readClause 25 = .ok (.iconst 0, 1) := by decide +kernel
theorem dX6_readClause_26 : decode cX6_readClause 26 = .ok (.goto 4, 3) := by decide +kernel
theorem dX6_readClause_29 : decode cX6_readClause 29 = .ok (.iconst 1, 1) := by decide +kernel
theorem dX6_readClause_30 : decode cX6_readClause 30 = .ok (.istore_n 2, 1) := by decide +kernel
theorem dX6_readClause_31 : decode cX6_readClause 31 = .ok (.aload_n 0, 1) := by decide +kernel
theorem dX6_readClause_32 : decode cX6_readClause 32 = .ok (.dup, 1) := by decide +kernel
theorem dX6_readClause_33 : decode cX6_readClause 33 = .ok (.getfield 157, 3) := by decide +kernel
theorem dX6_readClause_36 : decode cX6_readClause 36 = .ok (.iconst 1, 1) := by decide +kernel
theorem dX6_readClause_37 : decode cX6_readClause 37 = .ok (.iadd, 1) := by decide +kernel
theorem dX6_readClause_38 : decode cX6_readClause 38 = .ok (.putfield 157, 3) := by decide +kernel
theorem dX6_readClause_41 : decode cX6_readClause 41 = .ok (.aload_n 0, 1) := by decide +kernel
theorem dX6_readClause_42 : decode cX6_readClause 42 = .ok (.invokevirtual 160, 3) := by decide +kernel
theorem dX6_readClause_45 : decode cX6_readClause 45 = .ok (.istore_n 1, 1) := by decide +kernel
theorem dX6_readClause_46 : decode cX6_readClause 46 = .ok (.aload_n 0, 1) := by decide +kernel
theorem dX6_readClause_47 : decode cX6_readClause 47 = .ok (.getfield 157, 3) := by decide +kernel
theorem dX6_readClause_50 : decode cX6_readClause 50 = .ok (.istore_n 3, 1) := by decide +kernel
theorem dX6_readClause_51 : decode cX6_readClause 51 = .ok (.iconst 0, 1) := by decide +kernel
theorem dX6_readClause_52 : decode cX6_readClause 52 = .ok (.istore 4, 2) := by decide +kernel
theorem dX6_readClause_54 : decode cX6_readClause 54 = .ok (.aload_n 0, 1) := by decide +kernel
theorem dX6_readClause_55 : decode cX6_readClause 55 = .ok (.getfield 157, 3) := by decide +kernel
theorem dX6_readClause_58 : decode cX6_readClause 58 = .ok (.aload_n 0, 1) := by decide +kernel
theorem dX6_readClause_59 : decode cX6_readClause 59 = .ok (.getfield 154, 3) := by decide +kernel
theorem dX6_readClause_62 : decode cX6_readClause 62 = .ok (.if_icmp .ge 67, 3) := by decide +kernel
theorem dX6_readClause_65 : decode cX6_readClause 65 = .ok (.aload_n 0, 1) := by decide +kernel
theorem dX6_readClause_66 : decode cX6_readClause 66 = .ok (.getfield 59, 3) := by decide +kernel
theorem dX6_readClause_69 : decode cX6_readClause 69 = .ok (.aload_n 0, 1) := by decide +kernel
theorem dX6_readClause_70 : decode cX6_readClause 70 = .ok (.getfield 157, 3) := by decide +kernel
theorem dX6_readClause_73 : decode cX6_readClause 73 = .ok (.iaload, 1) := by decide +kernel
theorem dX6_readClause_74 : decode cX6_readClause 74 = .ok (.bipush 48, 2) := by decide +kernel
theorem dX6_readClause_76 : decode cX6_readClause 76 = .ok (.bipush 57, 2) := by decide +kernel
theorem dX6_readClause_78 : decode cX6_readClause 78 = .ok (.invokestatic 72, 3) := by decide +kernel
theorem dX6_readClause_81 : decode cX6_readClause 81 = .ok (.ifCond .eq 48, 3) := by decide +kernel
theorem dX6_readClause_84 : decode cX6_readClause 84 = .ok (.iload 4, 2) := by decide +kernel
theorem dX6_readClause_86 : decode cX6_readClause 86 = .ok (.bipush 99, 2) := by decide +kernel
theorem dX6_readClause_88 : decode cX6_readClause 88 = .ok (.if_icmp .le 8, 3) := by decide +kernel
theorem dX6_readClause_91 : decode cX6_readClause 91 = .ok (.iload 4, 2) := by decide +kernel
theorem dX6_readClause_93 : decode cX6_readClause 93 = .ok (.goto 21, 3) := by decide +kernel
theorem dX6_readClause_96 : decode cX6_readClause 96 = .ok (.bipush 10, 2) := by decide +kernel
theorem dX6_readClause_98 : decode cX6_readClause 98 = .ok (.iload 4, 2) := by decide +kernel
theorem dX6_readClause_100 : decode cX6_readClause 100 = .ok (.imul, 1) := by decide +kernel
theorem dX6_readClause_101 : decode cX6_readClause 101 = .ok (.aload_n 0, 1) := by decide +kernel
theorem dX6_readClause_102 : decode cX6_readClause 102 = .ok (.getfield 59, 3) := by decide +kernel
theorem dX6_readClause_105 : decode cX6_readClause 105 = .ok (.aload_n 0, 1) := by decide +kernel
theorem dX6_readClause_106 : decode cX6_readClause 106 = .ok (.getfield 157, 3) := by decide +kernel
theorem dX6_readClause_109 : decode cX6_readClause 109 = .ok (.iaload, 1) := by decide +kernel
theorem dX6_readClause_110 : decode cX6_readClause 110 = .ok (.iadd, 1) := by decide +kernel
theorem dX6_readClause_111 : decode cX6_readClause 111 = .ok (.bipush 48, 2) := by decide +kernel
theorem dX6_readClause_113 : decode cX6_readClause 113 = .ok (.isub, 1) := by decide +kernel
theorem dX6_readClause_114 : decode cX6_readClause 114 = .ok (.istore 4, 2) := by decide +kernel
theorem dX6_readClause_116 : decode cX6_readClause 116 = .ok (.aload_n 0, 1) := by decide +kernel
theorem dX6_readClause_117 : decode cX6_readClause 117 = .ok (.dup, 1) := by decide +kernel
theorem dX6_readClause_118 : decode cX6_readClause 118 = .ok (.getfield 157, 3) := by decide +kernel
theorem dX6_readClause_121 : decode cX6_readClause 121 = .ok (.iconst 1, 1) := by decide +kernel
theorem dX6_readClause_122 : decode cX6_readClause 122 = .ok (.iadd, 1) := by decide +kernel
theorem dX6_readClause_123 : decode cX6_readClause 123 = .ok (.putfield 157, 3) := by decide +kernel
theorem dX6_readClause_126 : decode cX6_readClause 126 = .ok (.goto (-72), 3) := by decide +kernel
theorem dX6_readClause_129 : decode cX6_readClause 129 = .ok (.aload_n 0, 1) := by decide +kernel
theorem dX6_readClause_130 : decode cX6_readClause 130 = .ok (.getfield 157, 3) := by decide +kernel
theorem dX6_readClause_133 : decode cX6_readClause 133 = .ok (.iload_n 3, 1) := by decide +kernel
theorem dX6_readClause_134 : decode cX6_readClause 134 = .ok (.if_icmp .eq 10, 3) := by decide +kernel
theorem dX6_readClause_137 : decode cX6_readClause 137 = .ok (.iload 4, 2) := by decide +kernel
theorem dX6_readClause_139 : decode cX6_readClause 139 = .ok (.bipush 99, 2) := by decide +kernel
theorem dX6_readClause_141 : decode cX6_readClause 141 = .ok (.if_icmp .le 10, 3) := by decide +kernel
theorem dX6_readClause_144 : decode cX6_readClause 144 = .ok (.aload_n 0, 1) := by decide +kernel
theorem dX6_readClause_145 : decode cX6_readClause 145 = .ok (.iload_n 3, 1) := by decide +kernel
theorem dX6_readClause_146 : decode cX6_readClause 146 = .ok (.putfield 157, 3) := by decide +kernel
theorem dX6_readClause_149 : decode cX6_readClause 149 = .ok (.iconst 0, 1) := by decide +kernel
theorem dX6_readClause_150 : decode cX6_readClause 150 = .ok (.ireturn, 1) := by decide +kernel
theorem dX6_readClause_151 : decode cX6_readClause 151 = .ok (.aload_n 0, 1) := by decide +kernel
theorem dX6_readClause_152 : decode cX6_readClause 152 = .ok (.invokevirtual 160, 3) := by decide +kernel
theorem dX6_readClause_155 : decode cX6_readClause 155 = .ok (.istore_n 1, 1) := by decide +kernel
theorem dX6_readClause_156 : decode cX6_readClause 156 = .ok (.iload_n 1, 1) := by decide +kernel
theorem dX6_readClause_157 : decode cX6_readClause 157 = .ok (.bipush 82, 2) := by decide +kernel
theorem dX6_readClause_159 : decode cX6_readClause 159 = .ok (.if_icmp .eq 11, 3) := by decide +kernel
theorem dX6_readClause_162 : decode cX6_readClause 162 = .ok (.iload_n 1, 1) := by decide +kernel
theorem dX6_readClause_163 : decode cX6_readClause 163 = .ok (.bipush 78, 2) := by decide +kernel
theorem dX6_readClause_165 : decode cX6_readClause 165 = .ok (.if_icmp .eq 5, 3) := by decide +kernel
theorem dX6_readClause_168 : decode cX6_readClause 168 = .ok (.iconst 0, 1) := by decide +kernel
theorem dX6_readClause_169 : decode cX6_readClause 169 = .ok (.ireturn, 1) := by decide +kernel
theorem dX6_readClause_170 : decode cX6_readClause 170 = .ok (.aload_n 0, 1) := by decide +kernel
theorem dX6_readClause_171 : decode cX6_readClause 171 = .ok (.dup, 1) := by decide +kernel
theorem dX6_readClause_172 : decode cX6_readClause 172 = .ok (.getfield 157, 3) := by decide +kernel
theorem dX6_readClause_175 : decode cX6_readClause 175 = .ok (.iconst 1, 1) := by decide +kernel
theorem dX6_readClause_176 : decode cX6_readClause 176 = .ok (.iadd, 1) := by decide +kernel
theorem dX6_readClause_177 : decode cX6_readClause 177 = .ok (.putfield 157, 3) := by decide +kernel
theorem dX6_readClause_180 : decode cX6_readClause 180 = .ok (.aload_n 0, 1) := by decide +kernel
theorem dX6_readClause_181 : decode cX6_readClause 181 = .ok (.getfield 53, 3) := by decide +kernel
theorem dX6_readClause_184 : decode cX6_readClause 184 = .ok (.iload_n 2, 1) := by decide +kernel
theorem dX6_readClause_185 : decode cX6_readClause 185 = .ok (.iload 4, 2) := by decide +kernel
theorem dX6_readClause_187 : decode cX6_readClause 187 = .ok (.iastore, 1) := by decide +kernel
theorem dX6_readClause_188 : decode cX6_readClause 188 = .ok (.aload_n 0, 1) := by decide +kernel
theorem dX6_readClause_189 : decode cX6_readClause 189 = .ok (.getfield 56, 3) := by decide +kernel
theorem dX6_readClause_192 : decode cX6_readClause 192 = .ok (.iload_n 2, 1) := by decide +kernel
theorem dX6_readClause_193 : decode cX6_readClause 193 = .ok (.iload_n 1, 1) := by decide +kernel
theorem dX6_readClause_194 : decode cX6_readClause 194 = .ok (.iastore, 1) := by decide +kernel
theorem dX6_readClause_195 : decode cX6_readClause 195 = .ok (.iconst 1, 1) := by decide +kernel
theorem dX6_readClause_196 : decode cX6_readClause 196 = .ok (.ireturn, 1) := by decide +kernel
theorem dX6_readLaws_0 : decode cX6_readLaws 0 = .ok (.aload_n 0, 1) := by decide +kernel
theorem dX6_readLaws_1 : decode cX6_readLaws 1 = .ok (.iconst 0, 1) := by decide +kernel
theorem dX6_readLaws_2 : decode cX6_readLaws 2 = .ok (.putfield 157, 3) := by decide +kernel
theorem dX6_readLaws_5 : decode cX6_readLaws 5 = .ok (.aload_n 0, 1) := by decide +kernel
theorem dX6_readLaws_6 : decode cX6_readLaws 6 = .ok (.getfield 56, 3) := by decide +kernel
theorem dX6_readLaws_9 : decode cX6_readLaws 9 = .ok (.iconst 0, 1) := by decide +kernel
theorem dX6_readLaws_10 : decode cX6_readLaws 10 = .ok (.iconst 0, 1) := by decide +kernel
theorem dX6_readLaws_11 : decode cX6_readLaws 11 = .ok (.iastore, 1) := by decide +kernel
theorem dX6_readLaws_12 : decode cX6_readLaws 12 = .ok (.aload_n 0, 1) := by decide +kernel
theorem dX6_readLaws_13 : decode cX6_readLaws 13 = .ok (.getfield 56, 3) := by decide +kernel
theorem dX6_readLaws_16 : decode cX6_readLaws 16 = .ok (.iconst 1, 1) := by decide +kernel
theorem dX6_readLaws_17 : decode cX6_readLaws 17 = .ok (.iconst 0, 1) := by decide +kernel
theorem dX6_readLaws_18 : decode cX6_readLaws 18 = .ok (.iastore, 1) := by decide +kernel
theorem dX6_readLaws_19 : decode cX6_readLaws 19 = .ok (.aload_n 0, 1) := by decide +kernel
theorem dX6_readLaws_20 : decode cX6_readLaws 20 = .ok (.invokevirtual 160, 3) := by decide +kernel
theorem dX6_readLaws_23 : decode cX6_readLaws 23 = .ok (.ifCond .ge 5, 3) := by decide +kernel
theorem dX6_readLaws_26 : decode cX6_readLaws 26 = .ok (.iconst 0, 1) := by decide +kernel
theorem dX6_readLaws_27 : decode cX6_readLaws 27 = .ok (.ireturn, 1) := by decide +kernel
theorem dX6_readLaws_28 : decode cX6_readLaws 28 = .ok (.iconst 0, 1) := by decide +kernel
theorem dX6_readLaws_29 : decode cX6_readLaws 29 = .ok (.istore_n 1, 1) := by decide +kernel
theorem dX6_readLaws_30 : decode cX6_readLaws 30 = .ok (.iconst 1, 1) := by decide +kernel
theorem dX6_readLaws_31 : decode cX6_readLaws 31 = .ok (.istore_n 2, 1) := by decide +kernel
theorem dX6_readLaws_32 : decode cX6_readLaws 32 = .ok (.iload_n 2, 1) := by decide +kernel
theorem dX6_readLaws_33 : decode cX6_readLaws 33 = .ok (.ifCond .eq 68, 3) := by decide +kernel
theorem dX6_readLaws_36 : decode cX6_readLaws 36 = .ok (.aload_n 0, 1) := by decide +kernel
theorem dX6_readLaws_37 : decode cX6_readLaws 37 = .ok (.invokevirtual 163, 3) := by decide +kernel
theorem dX6_readLaws_40 : decode cX6_readLaws 40 = .ok (.ifCond .ne 5, 3) := by decide +kernel
theorem dX6_readLaws_43 : decode cX6_readLaws 43 = .ok (.iconst (-1), 1) := by decide +kernel
theorem dX6_readLaws_44 : decode cX6_readLaws 44 = .ok (.ireturn, 1) := by decide +kernel
theorem dX6_readLaws_45 : decode cX6_readLaws 45 = .ok (.iinc 1 1, 3) := by decide +kernel
theorem dX6_readLaws_48 : decode cX6_readLaws 48 = .ok (.aload_n 0, 1) := by decide +kernel
theorem dX6_readLaws_49 : decode cX6_readLaws 49 = .ok (.invokevirtual 160, 3) := by decide +kernel
theorem dX6_readLaws_52 : decode cX6_readLaws 52 = .ok (.istore_n 3, 1) := by decide +kernel
theorem dX6_readLaws_53 : decode cX6_readLaws 53 = .ok (.iload_n 3, 1) := by decide +kernel
theorem dX6_readLaws_54 : decode cX6_readLaws 54 = .ok (.ifCond .lt 16, 3) := by decide +kernel
theorem dX6_readLaws_57 : decode cX6_readLaws 57 = .ok (.iload_n 3, 1) := by decide +kernel
theorem dX6_readLaws_58 : decode cX6_readLaws 58 = .ok (.bipush 59, 2) := by decide +kernel
theorem dX6_readLaws_60 : decode cX6_readLaws 60 = .ok (.if_icmp .ne 8, 3) := by decide +kernel
theorem dX6_readLaws_63 : decode cX6_readLaws 63 = .ok (.iload_n 1, 1) := by decide +kernel
theorem dX6_readLaws_64 : decode cX6_readLaws 64 = .ok (.iconst 2, 1) := by decide +kernel
theorem dX6_readLaws_65 : decode cX6_readLaws 65 = .ok (.if_icmp .ne 5, 3) := by decide +kernel
theorem dX6_readLaws_68 : decode cX6_readLaws 68 = .ok (.iconst (-1), 1) := by decide +kernel
theorem dX6_readLaws_69 : decode cX6_readLaws 69 = .ok (.ireturn, 1) := by decide +kernel
theorem dX6_readLaws_70 : decode cX6_readLaws 70 = .ok (.iload_n 3, 1) := by decide +kernel
theorem dX6_readLaws_71 : decode cX6_readLaws 71 = .ok (.ifCond .lt 7, 3) := by decide +kernel
theorem dX6_readLaws_74 : decode cX6_readLaws 74 = .ok (.iconst 1, 1) := by decide +kernel
theorem dX6_readLaws_75 : decode cX6_readLaws 75 = .ok (.goto 4, 3) := by decide +kernel
theorem dX6_readLaws_78 : decode cX6_readLaws 78 = .ok (.iconst 0, 1) := by decide +kernel
theorem dX6_readLaws_79 : decode cX6_readLaws 79 = .ok (.istore_n 2, 1) := by decide +kernel
theorem dX6_readLaws_80 : decode cX6_readLaws 80 = .ok (.aload_n 0, 1) := by decide +kernel
theorem dX6_readLaws_81 : decode cX6_readLaws 81 = .ok (.dup, 1) := by decide +kernel
theorem dX6_readLaws_82 : decode cX6_readLaws 82 = .ok (.getfield 157, 3) := by decide +kernel
theorem dX6_readLaws_85 : decode cX6_readLaws 85 = .ok (.iload_n 2, 1) := by decide +kernel
theorem dX6_readLaws_86 : decode cX6_readLaws 86 = .ok (.ifCond .eq 7, 3) := by decide +kernel
theorem dX6_readLaws_89 : decode cX6_readLaws 89 = .ok (.iconst 1, 1) := by decide +kernel
theorem dX6_readLaws_90 : decode cX6_readLaws 90 = .ok (.goto 4, 3) := by decide +kernel
theorem dX6_readLaws_93 : decode cX6_readLaws 93 = .ok (.iconst 0, 1) := by decide +kernel
theorem dX6_readLaws_94 : decode cX6_readLaws 94 = .ok (.iadd, 1) := by decide +kernel
theorem dX6_readLaws_95 : decode cX6_readLaws 95 = .ok (.putfield 157, 3) := by decide +kernel
theorem dX6_readLaws_98 : decode cX6_readLaws 98 = .ok (.goto (-66), 3) := by decide +kernel
theorem dX6_readLaws_101 : decode cX6_readLaws 101 = .ok (.iload_n 1, 1) := by decide +kernel
theorem dX6_readLaws_102 : decode cX6_readLaws 102 = .ok (.ireturn, 1) := by decide +kernel
theorem dX6_laws_0 : decode cX6_laws 0 = .ok (.aload_n 0, 1) := by decide +kernel
theorem dX6_laws_1 : decode cX6_laws 1 = .ok (.invokevirtual 167, 3) := by decide +kernel
theorem dX6_laws_4 : decode cX6_laws 4 = .ok (.istore_n 1, 1) := by decide +kernel
theorem dX6_laws_5 : decode cX6_laws 5 = .ok (.aload_n 0, 1) := by decide +kernel
theorem dX6_laws_6 : decode cX6_laws 6 = .ok (.iconst 0, 1) := by decide +kernel
theorem dX6_laws_7 : decode cX6_laws 7 = .ok (.putfield 154, 3) := by decide +kernel
theorem dX6_laws_10 : decode cX6_laws 10 = .ok (.iload_n 1, 1) := by decide +kernel
theorem dX6_laws_11 : decode cX6_laws 11 = .ok (.ifCond .ge 11, 3) := by decide +kernel
theorem dX6_laws_14 : decode cX6_laws 14 = .ok (.bipush (-20), 2) := by decide +kernel
theorem dX6_laws_16 : decode cX6_laws 16 = .ok (.aload_n 0, 1) := by decide +kernel
theorem dX6_laws_17 : decode cX6_laws 17 = .ok (.getfield 157, 3) := by decide +kernel
theorem dX6_laws_20 : decode cX6_laws 20 = .ok (.isub, 1) := by decide +kernel
theorem dX6_laws_21 : decode cX6_laws 21 = .ok (.ireturn, 1) := by decide +kernel
theorem dX6_laws_22 : decode cX6_laws 22 = .ok (.iconst 0, 1) := by decide +kernel
theorem dX6_laws_23 : decode cX6_laws 23 = .ok (.istore_n 2, 1) := by decide +kernel
theorem dX6_laws_24 : decode cX6_laws 24 = .ok (.iload_n 2, 1) := by decide +kernel
theorem dX6_laws_25 : decode cX6_laws 25 = .ok (.iconst 2, 1) := by decide +kernel
theorem dX6_laws_26 : decode cX6_laws 26 = .ok (.if_icmp .ge 33, 3) := by decide +kernel
theorem dX6_laws_29 : decode cX6_laws 29 = .ok (.aload_n 0, 1) := by decide +kernel
theorem dX6_laws_30 : decode cX6_laws 30 = .ok (.getfield 47, 3) := by decide +kernel
theorem dX6_laws_33 : decode cX6_laws 33 = .ok (.iload_n 2, 1) := by decide +kernel
theorem dX6_laws_34 : decode cX6_laws 34 = .ok (.aload_n 0, 1) := by decide +kernel
theorem dX6_laws_35 : decode cX6_laws 35 = .ok (.getfield 53, 3) := by decide +kernel
theorem dX6_laws_38 : decode cX6_laws 38 = .ok (.iload_n 2, 1) := by decide +kernel
theorem dX6_laws_39 : decode cX6_laws 39 = .ok (.iaload, 1) := by decide +kernel
theorem dX6_laws_40 : decode cX6_laws 40 = .ok (.iastore, 1) := by decide +kernel
theorem dX6_laws_41 : decode cX6_laws 41 = .ok (.aload_n 0, 1) := by decide +kernel
theorem dX6_laws_42 : decode cX6_laws 42 = .ok (.getfield 50, 3) := by decide +kernel
theorem dX6_laws_45 : decode cX6_laws 45 = .ok (.iload_n 2, 1) := by decide +kernel
theorem dX6_laws_46 : decode cX6_laws 46 = .ok (.aload_n 0, 1) := by decide +kernel
theorem dX6_laws_47 : decode cX6_laws 47 = .ok (.getfield 56, 3) := by decide +kernel
theorem dX6_laws_50 : decode cX6_laws 50 = .ok (.iload_n 2, 1) := by decide +kernel
theorem dX6_laws_51 : decode cX6_laws 51 = .ok (.iaload, 1) := by decide +kernel
theorem dX6_laws_52 : decode cX6_laws 52 = .ok (.iastore, 1) := by decide +kernel
theorem dX6_laws_53 : decode cX6_laws 53 = .ok (.iinc 2 1, 3) := by decide +kernel
theorem dX6_laws_56 : decode cX6_laws 56 = .ok (.goto (-32), 3) := by decide +kernel
theorem dX6_laws_59 : decode cX6_laws 59 = .ok (.iload_n 1, 1) := by decide +kernel
theorem dX6_laws_60 : decode cX6_laws 60 = .ok (.ireturn, 1) := by decide +kernel
theorem dX6_held_0 : decode cX6_held 0 = .ok (.iload_n 0, 1) := by decide +kernel
theorem dX6_held_1 : decode cX6_held 1 = .ok (.iload_n 1, 1) := by decide +kernel
theorem dX6_held_2 : decode cX6_held 2 = .ok (.if_icmp .ge 7, 3) := by decide +kernel
theorem dX6_held_5 : decode cX6_held 5 = .ok (.iload_n 1, 1) := by decide +kernel
theorem dX6_held_6 : decode cX6_held 6 = .ok (.goto 13, 3) := by decide +kernel
theorem dX6_held_9 : decode cX6_held 9 = .ok (.iload_n 0, 1) := by decide +kernel
theorem dX6_held_10 : decode cX6_held 10 = .ok (.iload_n 2, 1) := by decide +kernel
theorem dX6_held_11 : decode cX6_held 11 = .ok (.if_icmp .le 7, 3) := by decide +kernel
theorem dX6_held_14 : decode cX6_held 14 = .ok (.iload_n 2, 1) := by decide +kernel
theorem dX6_held_15 : decode cX6_held 15 = .ok (.goto 4, 3) := by decide +kernel
theorem dX6_held_18 : decode cX6_held 18 = .ok (.iload_n 0, 1) := by decide +kernel
theorem dX6_held_19 : decode cX6_held 19 = .ok (.ireturn, 1) := by decide +kernel
theorem dX6_settle_0 : decode cX6_settle 0 = .ok (.aload_n 0, 1) := by decide +kernel
theorem dX6_settle_1 : decode cX6_settle 1 = .ok (.getfield 84, 3) := by decide +kernel
theorem dX6_settle_4 : decode cX6_settle 4 = .ok (.ifCond .ne 6, 3) := by decide +kernel
theorem dX6_settle_7 : decode cX6_settle 7 = .ok (.bipush (-2), 2) := by decide +kernel
theorem dX6_settle_9 : decode cX6_settle 9 = .ok (.ireturn, 1) := by decide +kernel
theorem dX6_settle_10 : decode cX6_settle 10 = .ok (.aload_n 0, 1) := by decide +kernel
theorem dX6_settle_11 : decode cX6_settle 11 = .ok (.aload_n 0, 1) := by decide +kernel
theorem dX6_settle_12 : decode cX6_settle 12 = .ok (.getfield 88, 3) := by decide +kernel
theorem dX6_settle_15 : decode cX6_settle 15 = .ok (.invokevirtual 136, 3) := by decide +kernel
theorem dX6_settle_18 : decode cX6_settle 18 = .ok (.aload_n 0, 1) := by decide +kernel
theorem dX6_settle_19 : decode cX6_settle 19 = .ok (.invokevirtual 139, 3) := by decide +kernel
theorem dX6_settle_22 : decode cX6_settle 22 = .ok (.istore_n 1, 1) := by decide +kernel
theorem dX6_settle_23 : decode cX6_settle 23 = .ok (.iload_n 1, 1) := by decide +kernel
theorem dX6_settle_24 : decode cX6_settle 24 = .ok (.bipush (-4), 2) := by decide +kernel
theorem dX6_settle_26 : decode cX6_settle 26 = .ok (.if_icmp .ne 6, 3) := by decide +kernel
theorem dX6_settle_29 : decode cX6_settle 29 = .ok (.bipush (-2), 2) := by decide +kernel
theorem dX6_settle_31 : decode cX6_settle 31 = .ok (.ireturn, 1) := by decide +kernel
theorem dX6_settle_32 : decode cX6_settle 32 = .ok (.aload_n 0, 1) := by decide +kernel
theorem dX6_settle_33 : decode cX6_settle 33 = .ok (.getfield 13, 3) := by decide +kernel
theorem dX6_settle_36 : decode cX6_settle 36 = .ok (.iload_n 1, 1) := by decide +kernel
theorem dX6_settle_37 : decode cX6_settle 37 = .ok (.iaload, 1) := by decide +kernel
theorem dX6_settle_38 : decode cX6_settle 38 = .ok (.istore_n 2, 1) := by decide +kernel
theorem dX6_settle_39 : decode cX6_settle 39 = .ok (.aload_n 0, 1) := by decide +kernel
theorem dX6_settle_40 : decode cX6_settle 40 = .ok (.getfield 13, 3) := by decide +kernel
theorem dX6_settle_43 : decode cX6_settle 43 = .ok (.iconst 1, 1) := by decide +kernel
theorem dX6_settle_44 : decode cX6_settle 44 = .ok (.iload_n 1, 1) := by decide +kernel
theorem dX6_settle_45 : decode cX6_settle 45 = .ok (.isub, 1) := by decide +kernel
theorem dX6_settle_46 : decode cX6_settle 46 = .ok (.iaload, 1) := by decide +kernel
theorem dX6_settle_47 : decode cX6_settle 47 = .ok (.istore_n 3, 1) := by decide +kernel
theorem dX6_settle_48 : decode cX6_settle 48 = .ok (.bipush 10, 2) := by decide +kernel
theorem dX6_settle_50 : decode cX6_settle 50 = .ok (.aload_n 0, 1) := by decide +kernel
theorem dX6_settle_51 : decode cX6_settle 51 = .ok (.getfield 7, 3) := by decide +kernel
theorem dX6_settle_54 : decode cX6_settle 54 = .ok (.iload_n 2, 1) := by decide +kernel
theorem dX6_settle_55 : decode cX6_settle 55 = .ok (.iaload, 1) := by decide +kernel
theorem dX6_settle_56 : decode cX6_settle 56 = .ok (.aload_n 0, 1) := by decide +kernel
theorem dX6_settle_57 : decode cX6_settle 57 = .ok (.getfield 7, 3) := by decide +kernel
theorem dX6_settle_60 : decode cX6_settle 60 = .ok (.iload_n 3, 1) := by decide +kernel
theorem dX6_settle_61 : decode cX6_settle 61 = .ok (.iaload, 1) := by decide +kernel
theorem dX6_settle_62 : decode cX6_settle 62 = .ok (.isub, 1) := by decide +kernel
theorem dX6_settle_63 : decode cX6_settle 63 = .ok (.bipush 20, 2) := by decide +kernel
theorem dX6_settle_65 : decode cX6_settle 65 = .ok (.idiv, 1) := by decide +kernel
theorem dX6_settle_66 : decode cX6_settle 66 = .ok (.isub, 1) := by decide +kernel
theorem dX6_settle_67 : decode cX6_settle 67 = .ok (.iconst 1, 1) := by decide +kernel
theorem dX6_settle_68 : decode cX6_settle 68 = .ok (.bipush 19, 2) := by decide +kernel
theorem dX6_settle_70 : decode cX6_settle 70 = .ok (.invokestatic 170, 3) := by decide +kernel
theorem dX6_settle_73 : decode cX6_settle 73 = .ok (.istore 4, 2) := by decide +kernel
theorem dX6_settle_75 : decode cX6_settle 75 = .ok (.aload_n 0, 1) := by decide +kernel
theorem dX6_settle_76 : decode cX6_settle 76 = .ok (.getfield 7, 3) := by decide +kernel
theorem dX6_settle_79 : decode cX6_settle 79 = .ok (.iload_n 2, 1) := by decide +kernel
theorem dX6_settle_80 : decode cX6_settle 80 = .ok (.aload_n 0, 1) := by decide +kernel
theorem dX6_settle_81 : decode cX6_settle 81 = .ok (.getfield 7, 3) := by decide +kernel
theorem dX6_settle_84 : decode cX6_settle 84 = .ok (.iload_n 2, 1) := by decide +kernel
theorem dX6_settle_85 : decode cX6_settle 85 = .ok (.iaload, 1) := by decide +kernel
theorem dX6_settle_86 : decode cX6_settle 86 = .ok (.iload 4, 2) := by decide +kernel
theorem dX6_settle_88 : decode cX6_settle 88 = .ok (.iadd, 1) := by decide +kernel
theorem dX6_settle_89 : decode cX6_settle 89 = .ok (.iconst 0, 1) := by decide +kernel
theorem dX6_settle_90 : decode cX6_settle 90 = .ok (.sipush 2000, 3) := by decide +kernel
theorem dX6_settle_93 : decode cX6_settle 93 = .ok (.invokestatic 170, 3) := by decide +kernel
theorem dX6_settle_96 : decode cX6_settle 96 = .ok (.iastore, 1) := by decide +kernel
theorem dX6_settle_97 : decode cX6_settle 97 = .ok (.aload_n 0, 1) := by decide +kernel
theorem dX6_settle_98 : decode cX6_settle 98 = .ok (.getfield 7, 3) := by decide +kernel
theorem dX6_settle_101 : decode cX6_settle 101 = .ok (.iload_n 3, 1) := by decide +kernel
theorem dX6_settle_102 : decode cX6_settle 102 = .ok (.aload_n 0, 1) := by decide +kernel
theorem dX6_settle_103 : decode cX6_settle 103 = .ok (.getfield 7, 3) := by decide +kernel
theorem dX6_settle_106 : decode cX6_settle 106 = .ok (.iload_n 3, 1) := by decide +kernel
theorem dX6_settle_107 : decode cX6_settle 107 = .ok (.iaload, 1) := by decide +kernel
theorem dX6_settle_108 : decode cX6_settle 108 = .ok (.iload 4, 2) := by decide +kernel
theorem dX6_settle_110 : decode cX6_settle 110 = .ok (.isub, 1) := by decide +kernel
theorem dX6_settle_111 : decode cX6_settle 111 = .ok (.iconst 0, 1) := by decide +kernel
theorem dX6_settle_112 : decode cX6_settle 112 = .ok (.sipush 2000, 3) := by decide +kernel
theorem dX6_settle_115 : decode cX6_settle 115 = .ok (.invokestatic 170, 3) := by decide +kernel
theorem dX6_settle_118 : decode cX6_settle 118 = .ok (.iastore, 1) := by decide +kernel
theorem dX6_settle_119 : decode cX6_settle 119 = .ok (.aload_n 0, 1) := by decide +kernel
theorem dX6_settle_120 : decode cX6_settle 120 = .ok (.iconst 0, 1) := by decide +kernel
theorem dX6_settle_121 : decode cX6_settle 121 = .ok (.putfield 84, 3) := by decide +kernel
theorem dX6_settle_124 : decode cX6_settle 124 = .ok (.iload 4, 2) := by decide +kernel
theorem dX6_settle_126 : decode cX6_settle 126 = .ok (.ireturn, 1) := by decide +kernel
theorem dX6_isMatch_0 : decode cX6_isMatch 0 = .ok (.iload_n 0, 1) := by decide +kernel
theorem dX6_isMatch_1 : decode cX6_isMatch 1 = .ok (.iconst 0, 1) := by decide +kernel
theorem dX6_isMatch_2 : decode cX6_isMatch 2 = .ok (.bipush 14, 2) := by decide +kernel
theorem dX6_isMatch_4 : decode cX6_isMatch 4 = .ok (.invokestatic 72, 3) := by decide +kernel
theorem dX6_isMatch_7 : decode cX6_isMatch 7 = .ok (.ireturn, 1) := by decide +kernel
theorem dX6_isFirst_0 : decode cX6_isFirst 0 = .ok (.iload_n 0, 1) := by decide +kernel
theorem dX6_isFirst_1 : decode cX6_isFirst 1 = .ok (.iconst 4, 1) := by decide +kernel
theorem dX6_isFirst_2 : decode cX6_isFirst 2 = .ok (.if_icmp .lt 15, 3) := by decide +kernel
theorem dX6_isFirst_5 : decode cX6_isFirst 5 = .ok (.iload_n 0, 1) := by decide +kernel
theorem dX6_isFirst_6 : decode cX6_isFirst 6 = .ok (.bipush 7, 2) := by decide +kernel
theorem dX6_isFirst_8 : decode cX6_isFirst 8 = .ok (.if_icmp .lt 13, 3) := by decide +kernel
theorem dX6_isFirst_11 : decode cX6_isFirst 11 = .ok (.iload_n 0, 1) := by decide +kernel
theorem dX6_isFirst_12 : decode cX6_isFirst 12 = .ok (.bipush 11, 2) := by decide +kernel
theorem dX6_isFirst_14 : decode cX6_isFirst 14 = .ok (.if_icmp .ge 7, 3) := by decide +kernel
theorem dX6_isFirst_17 : decode cX6_isFirst 17 = .ok (.iconst 1, 1) := by decide +kernel
theorem dX6_isFirst_18 : decode cX6_isFirst 18 = .ok (.goto 4, 3) := by decide +kernel
theorem dX6_isFirst_21 : decode cX6_isFirst 21 = .ok (.iconst 0, 1) := by decide +kernel
theorem dX6_isFirst_22 : decode cX6_isFirst 22 = .ok (.ireturn, 1) := by decide +kernel
theorem dX6_from_0 : decode cX6_from 0 = .ok (.iload_n 0, 1) := by decide +kernel
theorem dX6_from_1 : decode cX6_from 1 = .ok (.bipush 14, 2) := by decide +kernel
theorem dX6_from_3 : decode cX6_from 3 = .ok (.if_icmp .ne 15, 3) := by decide +kernel
theorem dX6_from_6 : decode cX6_from 6 = .ok (.iload_n 1, 1) := by decide +kernel
theorem dX6_from_7 : decode cX6_from 7 = .ok (.ifCond .ne 8, 3) := by decide +kernel
theorem dX6_from_10 : decode cX6_from 10 = .ok (.bipush 6, 2) := by decide +kernel
theorem dX6_from_12 : decode cX6_from 12 = .ok (.goto 5, 3) := by decide +kernel
theorem dX6_from_15 : decode cX6_from 15 = .ok (.bipush 13, 2) := by decide +kernel
theorem dX6_from_17 : decode cX6_from 17 = .ok (.ireturn, 1) := by decide +kernel
theorem dX6_from_18 : decode cX6_from 18 = .ok (.iload_n 0, 1) := by decide +kernel
theorem dX6_from_19 : decode cX6_from 19 = .ok (.bipush 7, 2) := by decide +kernel
theorem dX6_from_21 : decode cX6_from 21 = .ok (.if_icmp .ge 7, 3) := by decide +kernel
theorem dX6_from_24 : decode cX6_from 24 = .ok (.iconst 0, 1) := by decide +kernel
theorem dX6_from_25 : decode cX6_from 25 = .ok (.goto 5, 3) := by decide +kernel
theorem dX6_from_28 : decode cX6_from 28 = .ok (.bipush 7, 2) := by decide +kernel
theorem dX6_from_30 : decode cX6_from 30 = .ok (.istore_n 2, 1) := by decide +kernel
theorem dX6_from_31 : decode cX6_from 31 = .ok (.iload_n 2, 1) := by decide +kernel
theorem dX6_from_32 : decode cX6_from 32 = .ok (.iconst 2, 1) := by decide +kernel
theorem dX6_from_33 : decode cX6_from 33 = .ok (.iload_n 0, 1) := by decide +kernel
theorem dX6_from_34 : decode cX6_from 34 = .ok (.iload_n 2, 1) := by decide +kernel
theorem dX6_from_35 : decode cX6_from 35 = .ok (.isub, 1) := by decide +kernel
theorem dX6_from_36 : decode cX6_from 36 = .ok (.iconst 4, 1) := by decide +kernel
theorem dX6_from_37 : decode cX6_from 37 = .ok (.isub, 1) := by decide +kernel
theorem dX6_from_38 : decode cX6_from 38 = .ok (.imul, 1) := by decide +kernel
theorem dX6_from_39 : decode cX6_from 39 = .ok (.iadd, 1) := by decide +kernel
theorem dX6_from_40 : decode cX6_from 40 = .ok (.iload_n 1, 1) := by decide +kernel
theorem dX6_from_41 : decode cX6_from 41 = .ok (.iadd, 1) := by decide +kernel
theorem dX6_from_42 : decode cX6_from 42 = .ok (.ireturn, 1) := by decide +kernel
theorem dX6_playerOf_0 : decode cX6_playerOf 0 = .ok (.iload_n 1, 1) := by decide +kernel
theorem dX6_playerOf_1 : decode cX6_playerOf 1 = .ok (.iconst 4, 1) := by decide +kernel
theorem dX6_playerOf_2 : decode cX6_playerOf 2 = .ok (.if_icmp .ge 9, 3) := by decide +kernel
theorem dX6_playerOf_5 : decode cX6_playerOf 5 = .ok (.iconst 2, 1) := by decide +kernel
theorem dX6_playerOf_6 : decode cX6_playerOf 6 = .ok (.iload_n 1, 1) := by decide +kernel
theorem dX6_playerOf_7 : decode cX6_playerOf 7 = .ok (.imul, 1) := by decide +kernel
theorem dX6_playerOf_8 : decode cX6_playerOf 8 = .ok (.iload_n 2, 1) := by decide +kernel
theorem dX6_playerOf_9 : decode cX6_playerOf 9 = .ok (.iadd, 1) := by decide +kernel
theorem dX6_playerOf_10 : decode cX6_playerOf 10 = .ok (.ireturn, 1) := by decide +kernel
theorem dX6_playerOf_11 : decode cX6_playerOf 11 = .ok (.iload_n 1, 1) := by decide +kernel
theorem dX6_playerOf_12 : decode cX6_playerOf 12 = .ok (.invokestatic 174, 3) := by decide +kernel
theorem dX6_playerOf_15 : decode cX6_playerOf 15 = .ok (.ifCond .eq 41, 3) := by decide +kernel
theorem dX6_playerOf_18 : decode cX6_playerOf 18 = .ok (.iload_n 1, 1) := by decide +kernel
theorem dX6_playerOf_19 : decode cX6_playerOf 19 = .ok (.bipush 7, 2) := by decide +kernel
theorem dX6_playerOf_21 : decode cX6_playerOf 21 = .ok (.if_icmp .ne 7, 3) := by decide +kernel
theorem dX6_playerOf_24 : decode cX6_playerOf 24 = .ok (.iconst 0, 1) := by decide +kernel
theorem dX6_playerOf_25 : decode cX6_playerOf 25 = .ok (.goto 24, 3) := by decide +kernel
theorem dX6_playerOf_28 : decode cX6_playerOf 28 = .ok (.iload_n 1, 1) := by decide +kernel
theorem dX6_playerOf_29 : decode cX6_playerOf 29 = .ok (.bipush 8, 2) := by decide +kernel
theorem dX6_playerOf_31 : decode cX6_playerOf 31 = .ok (.if_icmp .ne 7, 3) := by decide +kernel
theorem dX6_playerOf_34 : decode cX6_playerOf 34 = .ok (.iconst 2, 1) := by decide +kernel
theorem dX6_playerOf_35 : decode cX6_playerOf 35 = .ok (.goto 14, 3) := by decide +kernel
theorem dX6_playerOf_38 : decode cX6_playerOf 38 = .ok (.iload_n 1, 1) := by decide +kernel
theorem dX6_playerOf_39 : decode cX6_playerOf 39 = .ok (.bipush 9, 2) := by decide +kernel
theorem dX6_playerOf_41 : decode cX6_playerOf 41 = .ok (.if_icmp .ne 7, 3) := by decide +kernel
theorem dX6_playerOf_44 : decode cX6_playerOf 44 = .ok (.iconst 1, 1) := by decide +kernel
theorem dX6_playerOf_45 : decode cX6_playerOf 45 = .ok (.goto 4, 3) := by decide +kernel
theorem dX6_playerOf_48 : decode cX6_playerOf 48 = .ok (.iconst 3, 1) := by decide +kernel
theorem dX6_playerOf_49 : decode cX6_playerOf 49 = .ok (.istore_n 3, 1) := by decide +kernel
theorem dX6_playerOf_50 : decode cX6_playerOf 50 = .ok (.iload_n 3, 1) := by decide +kernel
theorem dX6_playerOf_51 : decode cX6_playerOf 51 = .ok (.iconst 4, 1) := by decide +kernel
theorem dX6_playerOf_52 : decode cX6_playerOf 52 = .ok (.iload_n 2, 1) := by decide +kernel
theorem dX6_playerOf_53 : decode cX6_playerOf 53 = .ok (.imul, 1) := by decide +kernel
theorem dX6_playerOf_54 : decode cX6_playerOf 54 = .ok (.iadd, 1) := by decide +kernel
theorem dX6_playerOf_55 : decode cX6_playerOf 55 = .ok (.ireturn, 1) := by decide +kernel
theorem dX6_playerOf_56 : decode cX6_playerOf 56 = .ok (.iload_n 1, 1) := by decide +kernel
theorem dX6_playerOf_57 : decode cX6_playerOf 57 = .ok (.bipush 14, 2) := by decide +kernel
theorem dX6_playerOf_59 : decode cX6_playerOf 59 = .ok (.if_icmp .ne 42, 3) := by decide +kernel
theorem dX6_playerOf_62 : decode cX6_playerOf 62 = .ok (.aload_n 0, 1) := by decide +kernel
theorem dX6_playerOf_63 : decode cX6_playerOf 63 = .ok (.getfield 62, 3) := by decide +kernel
theorem dX6_playerOf_66 : decode cX6_playerOf 66 = .ok (.bipush 6, 2) := by decide +kernel
theorem dX6_playerOf_68 : decode cX6_playerOf 68 = .ok (.iaload, 1) := by decide +kernel
theorem dX6_playerOf_69 : decode cX6_playerOf 69 = .ok (.ifCond .lt 30, 3) := by decide +kernel
theorem dX6_playerOf_72 : decode cX6_playerOf 72 = .ok (.aload_n 0, 1) := by decide +kernel
theorem dX6_playerOf_73 : decode cX6_playerOf 73 = .ok (.getfield 62, 3) := by decide +kernel
theorem dX6_playerOf_76 : decode cX6_playerOf 76 = .ok (.bipush 13, 2) := by decide +kernel
theorem dX6_playerOf_78 : decode cX6_playerOf 78 = .ok (.iaload, 1) := by decide +kernel
theorem dX6_playerOf_79 : decode cX6_playerOf 79 = .ok (.ifCond .lt 20, 3) := by decide +kernel
theorem dX6_playerOf_82 : decode cX6_playerOf 82 = .ok (.aload_n 0, 1) := by decide +kernel
theorem dX6_playerOf_83 : decode cX6_playerOf 83 = .ok (.getfield 62, 3) := by decide +kernel
theorem dX6_playerOf_86 : decode cX6_playerOf 86 = .ok (.bipush 6, 2) := by decide +kernel
theorem dX6_playerOf_88 : decode cX6_playerOf 88 = .ok (.iaload, 1) := by decide +kernel
theorem dX6_playerOf_89 : decode cX6_playerOf 89 = .ok (.aload_n 0, 1) := by decide +kernel
theorem dX6_playerOf_90 : decode cX6_playerOf 90 = .ok (.getfield 62, 3) := by decide +kernel
theorem dX6_playerOf_93 : decode cX6_playerOf 93 = .ok (.bipush 13, 2) := by decide +kernel
theorem dX6_playerOf_95 : decode cX6_playerOf 95 = .ok (.iaload, 1) := by decide +kernel
theorem dX6_playerOf_96 : decode cX6_playerOf 96 = .ok (.if_icmp .ne 5, 3) := by decide +kernel
theorem dX6_playerOf_99 : decode cX6_playerOf 99 = .ok (.iconst (-1), 1) := by decide +kernel
theorem dX6_playerOf_100 : decode cX6_playerOf 100 = .ok (.ireturn, 1) := by decide +kernel
theorem dX6_playerOf_101 : decode cX6_playerOf 101 = .ok (.aload_n 0, 1) := by decide +kernel
theorem dX6_playerOf_102 : decode cX6_playerOf 102 = .ok (.getfield 62, 3) := by decide +kernel
theorem dX6_playerOf_105 : decode cX6_playerOf 105 = .ok (.iload_n 1, 1) := by decide +kernel
theorem dX6_playerOf_106 : decode cX6_playerOf 106 = .ok (.iload_n 2, 1) := by decide +kernel
theorem dX6_playerOf_107 : decode cX6_playerOf 107 = .ok (.invokestatic 177, 3) := by decide +kernel
theorem dX6_playerOf_110 : decode cX6_playerOf 110 = .ok (.iaload, 1) := by decide +kernel
theorem dX6_playerOf_111 : decode cX6_playerOf 111 = .ok (.ireturn, 1) := by decide +kernel
theorem dX6_match_0 : decode cX6_match 0 = .ok (.iload_n 1, 1) := by decide +kernel
theorem dX6_match_1 : decode cX6_match 1 = .ok (.invokestatic 181, 3) := by decide +kernel
theorem dX6_match_4 : decode cX6_match 4 = .ok (.ifCond .eq 12, 3) := by decide +kernel
theorem dX6_match_7 : decode cX6_match 7 = .ok (.iload_n 2, 1) := by decide +kernel
theorem dX6_match_8 : decode cX6_match 8 = .ok (.iconst 0, 1) := by decide +kernel
theorem dX6_match_9 : decode cX6_match 9 = .ok (.iconst 2, 1) := by decide +kernel
theorem dX6_match_10 : decode cX6_match 10 = .ok (.invokestatic 72, 3) := by decide +kernel
theorem dX6_match_13 : decode cX6_match 13 = .ok (.ifCond .ne 5, 3) := by decide +kernel
theorem dX6_match_16 : decode cX6_match 16 = .ok (.iconst (-1), 1) := by decide +kernel
theorem dX6_match_17 : decode cX6_match 17 = .ok (.ireturn, 1) := by decide +kernel
theorem dX6_match_18 : decode cX6_match 18 = .ok (.iload_n 2, 1) := by decide +kernel
theorem dX6_match_19 : decode cX6_match 19 = .ok (.iconst 2, 1) := by decide +kernel
theorem dX6_match_20 : decode cX6_match 20 = .ok (.if_icmp .ne 12, 3) := by decide +kernel
theorem dX6_match_23 : decode cX6_match 23 = .ok (.aload_n 0, 1) := by decide +kernel
theorem dX6_match_24 : decode cX6_match 24 = .ok (.getfield 62, 3) := by decide +kernel
theorem dX6_match_27 : decode cX6_match 27 = .ok (.iload_n 1, 1) := by decide +kernel
theorem dX6_match_28 : decode cX6_match 28 = .ok (.iaload, 1) := by decide +kernel
theorem dX6_match_29 : decode cX6_match 29 = .ok (.goto 9, 3) := by decide +kernel
theorem dX6_match_32 : decode cX6_match 32 = .ok (.aload_n 0, 1) := by decide +kernel
theorem dX6_match_33 : decode cX6_match 33 = .ok (.iload_n 1, 1) := by decide +kernel
theorem dX6_match_34 : decode cX6_match 34 = .ok (.iload_n 2, 1) := by decide +kernel
theorem dX6_match_35 : decode cX6_match 35 = .ok (.invokevirtual 184, 3) := by decide +kernel
theorem dX6_match_38 : decode cX6_match 38 = .ok (.istore_n 3, 1) := by decide +kernel
theorem dX6_match_39 : decode cX6_match 39 = .ok (.iload_n 3, 1) := by decide +kernel
theorem dX6_match_40 : decode cX6_match 40 = .ok (.ifCond .ge 8, 3) := by decide +kernel
theorem dX6_match_43 : decode cX6_match 43 = .ok (.bipush (-4), 2) := by decide +kernel
theorem dX6_match_45 : decode cX6_match 45 = .ok (.goto 4, 3) := by decide +kernel
theorem dX6_match_48 : decode cX6_match 48 = .ok (.iload_n 3, 1) := by decide +kernel
theorem dX6_match_49 : decode cX6_match 49 = .ok (.ireturn, 1) := by decide +kernel
theorem dX6_win_0 : decode cX6_win 0 = .ok (.iload_n 1, 1) := by decide +kernel
theorem dX6_win_1 : decode cX6_win 1 = .ok (.invokestatic 181, 3) := by decide +kernel
theorem dX6_win_4 : decode cX6_win 4 = .ok (.ifCond .eq 10, 3) := by decide +kernel
theorem dX6_win_7 : decode cX6_win 7 = .ok (.iload_n 2, 1) := by decide +kernel
theorem dX6_win_8 : decode cX6_win 8 = .ok (.invokestatic 76, 3) := by decide +kernel
theorem dX6_win_11 : decode cX6_win 11 = .ok (.ifCond .ne 5, 3) := by decide +kernel
theorem dX6_win_14 : decode cX6_win 14 = .ok (.iconst (-1), 1) := by decide +kernel
theorem dX6_win_15 : decode cX6_win 15 = .ok (.ireturn, 1) := by decide +kernel
theorem dX6_win_16 : decode cX6_win 16 = .ok (.aload_n 0, 1) := by decide +kernel
theorem dX6_win_17 : decode cX6_win 17 = .ok (.iload_n 1, 1) := by decide +kernel
theorem dX6_win_18 : decode cX6_win 18 = .ok (.iconst 0, 1) := by decide +kernel
theorem dX6_win_19 : decode cX6_win 19 = .ok (.invokevirtual 184, 3) := by decide +kernel
theorem dX6_win_22 : decode cX6_win 22 = .ok (.istore_n 3, 1) := by decide +kernel
theorem dX6_win_23 : decode cX6_win 23 = .ok (.aload_n 0, 1) := by decide +kernel
theorem dX6_win_24 : decode cX6_win 24 = .ok (.iload_n 1, 1) := by decide +kernel
theorem dX6_win_25 : decode cX6_win 25 = .ok (.iconst 1, 1) := by decide +kernel
theorem dX6_win_26 : decode cX6_win 26 = .ok (.invokevirtual 184, 3) := by decide +kernel
theorem dX6_win_29 : decode cX6_win 29 = .ok (.istore 4, 2) := by decide +kernel
theorem dX6_win_31 : decode cX6_win 31 = .ok (.iload_n 3, 1) := by decide +kernel
theorem dX6_win_32 : decode cX6_win 32 = .ok (.ifCond .lt 28, 3) := by decide +kernel
theorem dX6_win_35 : decode cX6_win 35 = .ok (.iload 4, 2) := by decide +kernel
theorem dX6_win_37 : decode cX6_win 37 = .ok (.ifCond .lt 23, 3) := by decide +kernel
theorem dX6_win_40 : decode cX6_win 40 = .ok (.aload_n 0, 1) := by decide +kernel
theorem dX6_win_41 : decode cX6_win 41 = .ok (.getfield 62, 3) := by decide +kernel
theorem dX6_win_44 : decode cX6_win 44 = .ok (.iload_n 1, 1) := by decide +kernel
theorem dX6_win_45 : decode cX6_win 45 = .ok (.iaload, 1) := by decide +kernel
theorem dX6_win_46 : decode cX6_win 46 = .ok (.ifCond .ge 14, 3) := by decide +kernel
theorem dX6_win_49 : decode cX6_win 49 = .ok (.iload_n 2, 1) := by decide +kernel
theorem dX6_win_50 : decode cX6_win 50 = .ok (.iload_n 3, 1) := by decide +kernel
theorem dX6_win_51 : decode cX6_win 51 = .ok (.if_icmp .eq 12, 3) := by decide +kernel
theorem dX6_win_54 : decode cX6_win 54 = .ok (.iload_n 2, 1) := by decide +kernel
theorem dX6_win_55 : decode cX6_win 55 = .ok (.iload 4, 2) := by decide +kernel
theorem dX6_win_57 : decode cX6_win 57 = .ok (.if_icmp .eq 6, 3) := by decide +kernel
theorem dX6_win_60 : decode cX6_win 60 = .ok (.bipush (-2), 2) := by decide +kernel
theorem dX6_win_62 : decode cX6_win 62 = .ok (.ireturn, 1) := by decide +kernel
theorem dX6_win_63 : decode cX6_win 63 = .ok (.aload_n 0, 1) := by decide +kernel
theorem dX6_win_64 : decode cX6_win 64 = .ok (.getfield 62, 3) := by decide +kernel
theorem dX6_win_67 : decode cX6_win 67 = .ok (.iload_n 1, 1) := by decide +kernel
theorem dX6_win_68 : decode cX6_win 68 = .ok (.iload_n 2, 1) := by decide +kernel
theorem dX6_win_69 : decode cX6_win 69 = .ok (.iastore, 1) := by decide +kernel
theorem dX6_win_70 : decode cX6_win 70 = .ok (.iconst 1, 1) := by decide +kernel
theorem dX6_win_71 : decode cX6_win 71 = .ok (.ireturn, 1) := by decide +kernel
theorem dX6_unwin_0 : decode cX6_unwin 0 = .ok (.iload_n 1, 1) := by decide +kernel
theorem dX6_unwin_1 : decode cX6_unwin 1 = .ok (.invokestatic 181, 3) := by decide +kernel
theorem dX6_unwin_4 : decode cX6_unwin 4 = .ok (.ifCond .ne 5, 3) := by decide +kernel
theorem dX6_unwin_7 : decode cX6_unwin 7 = .ok (.iconst (-1), 1) := by decide +kernel
theorem dX6_unwin_8 : decode cX6_unwin 8 = .ok (.ireturn, 1) := by decide +kernel
theorem dX6_unwin_9 : decode cX6_unwin 9 = .ok (.aload_n 0, 1) := by decide +kernel
theorem dX6_unwin_10 : decode cX6_unwin 10 = .ok (.getfield 62, 3) := by decide +kernel
theorem dX6_unwin_13 : decode cX6_unwin 13 = .ok (.iload_n 1, 1) := by decide +kernel
theorem dX6_unwin_14 : decode cX6_unwin 14 = .ok (.iaload, 1) := by decide +kernel
theorem dX6_unwin_15 : decode cX6_unwin 15 = .ok (.ifCond .ge 6, 3) := by decide +kernel
theorem dX6_unwin_18 : decode cX6_unwin 18 = .ok (.bipush (-2), 2) := by decide +kernel
theorem dX6_unwin_20 : decode cX6_unwin 20 = .ok (.ireturn, 1) := by decide +kernel
theorem dX6_unwin_21 : decode cX6_unwin 21 = .ok (.aload_n 0, 1) := by decide +kernel
theorem dX6_unwin_22 : decode cX6_unwin 22 = .ok (.getfield 62, 3) := by decide +kernel
theorem dX6_unwin_25 : decode cX6_unwin 25 = .ok (.iload_n 1, 1) := by decide +kernel
theorem dX6_unwin_26 : decode cX6_unwin 26 = .ok (.iconst (-1), 1) := by decide +kernel
theorem dX6_unwin_27 : decode cX6_unwin 27 = .ok (.iastore, 1) := by decide +kernel
theorem dX6_unwin_28 : decode cX6_unwin 28 = .ok (.iconst 1, 1) := by decide +kernel
theorem dX6_unwin_29 : decode cX6_unwin 29 = .ok (.istore_n 2, 1) := by decide +kernel
theorem dX6_unwin_30 : decode cX6_unwin 30 = .ok (.iload_n 1, 1) := by decide +kernel
theorem dX6_unwin_31 : decode cX6_unwin 31 = .ok (.iconst 1, 1) := by decide +kernel
theorem dX6_unwin_32 : decode cX6_unwin 32 = .ok (.iadd, 1) := by decide +kernel
theorem dX6_unwin_33 : decode cX6_unwin 33 = .ok (.istore_n 3, 1) := by decide +kernel
theorem dX6_unwin_34 : decode cX6_unwin 34 = .ok (.iload_n 3, 1) := by decide +kernel
theorem dX6_unwin_35 : decode cX6_unwin 35 = .ok (.bipush 15, 2) := by decide +kernel
theorem dX6_unwin_37 : decode cX6_unwin 37 = .ok (.if_icmp .ge 53, 3) := by decide +kernel
theorem dX6_unwin_40 : decode cX6_unwin 40 = .ok (.iload_n 3, 1) := by decide +kernel
theorem dX6_unwin_41 : decode cX6_unwin 41 = .ok (.invokestatic 174, 3) := by decide +kernel
theorem dX6_unwin_44 : decode cX6_unwin 44 = .ok (.ifCond .ne 40, 3) := by decide +kernel
theorem dX6_unwin_47 : decode cX6_unwin 47 = .ok (.aload_n 0, 1) := by decide +kernel
theorem dX6_unwin_48 : decode cX6_unwin 48 = .ok (.getfield 62, 3) := by decide +kernel
theorem dX6_unwin_51 : decode cX6_unwin 51 = .ok (.iload_n 3, 1) := by decide +kernel
theorem dX6_unwin_52 : decode cX6_unwin 52 = .ok (.iaload, 1) := by decide +kernel
theorem dX6_unwin_53 : decode cX6_unwin 53 = .ok (.ifCond .lt 31, 3) := by decide +kernel
theorem dX6_unwin_56 : decode cX6_unwin 56 = .ok (.aload_n 0, 1) := by decide +kernel
theorem dX6_unwin_57 : decode cX6_unwin 57 = .ok (.iload_n 3, 1) := by decide +kernel
theorem dX6_unwin_58 : decode cX6_unwin 58 = .ok (.iconst 0, 1) := by decide +kernel
theorem dX6_unwin_59 : decode cX6_unwin 59 = .ok (.invokevirtual 184, 3) := by decide +kernel
theorem dX6_unwin_62 : decode cX6_unwin 62 = .ok (.ifCond .lt 12, 3) := by decide +kernel
theorem dX6_unwin_65 : decode cX6_unwin 65 = .ok (.aload_n 0, 1) := by decide +kernel
theorem dX6_unwin_66 : decode cX6_unwin 66 = .ok (.iload_n 3, 1) := by decide +kernel
theorem dX6_unwin_67 : decode cX6_unwin 67 = .ok (.iconst 1, 1) := by decide +kernel
theorem dX6_unwin_68 : decode cX6_unwin 68 = .ok (.invokevirtual 184, 3) := by decide +kernel
theorem dX6_unwin_71 : decode cX6_unwin 71 = .ok (.ifCond .ge 13, 3) := by decide +kernel
theorem dX6_unwin_74 : decode cX6_unwin 74 = .ok (.aload_n 0, 1) := by decide +kernel
theorem dX6_unwin_75 : decode cX6_unwin 75 = .ok (.getfield 62, 3) := by decide +kernel
theorem dX6_unwin_78 : decode cX6_unwin 78 = .ok (.iload_n 3, 1) := by decide +kernel
theorem dX6_unwin_79 : decode cX6_unwin 79 = .ok (.iconst (-1), 1) := by decide +kernel
theorem dX6_unwin_80 : decode cX6_unwin 80 = .ok (.iastore, 1) := by decide +kernel
theorem dX6_unwin_81 : decode cX6_unwin 81 = .ok (.iinc 2 1, 3) := by decide +kernel
theorem dX6_unwin_84 : decode cX6_unwin 84 = .ok (.iinc 3 1, 3) := by decide +kernel
theorem dX6_unwin_87 : decode cX6_unwin 87 = .ok (.goto (-53), 3) := by decide +kernel
theorem dX6_unwin_90 : decode cX6_unwin 90 = .ok (.iload_n 2, 1) := by decide +kernel
theorem dX6_unwin_91 : decode cX6_unwin 91 = .ok (.ireturn, 1) := by decide +kernel
theorem dX6_champion_0 : decode cX6_champion 0 = .ok (.aload_n 0, 1) := by decide +kernel
theorem dX6_champion_1 : decode cX6_champion 1 = .ok (.getfield 62, 3) := by decide +kernel
theorem dX6_champion_4 : decode cX6_champion 4 = .ok (.bipush 6, 2) := by decide +kernel
theorem dX6_champion_6 : decode cX6_champion 6 = .ok (.iaload, 1) := by decide +kernel
theorem dX6_champion_7 : decode cX6_champion 7 = .ok (.istore_n 1, 1) := by decide +kernel
theorem dX6_champion_8 : decode cX6_champion 8 = .ok (.aload_n 0, 1) := by decide +kernel
theorem dX6_champion_9 : decode cX6_champion 9 = .ok (.getfield 62, 3) := by decide +kernel
theorem dX6_champion_12 : decode cX6_champion 12 = .ok (.bipush 13, 2) := by decide +kernel
theorem dX6_champion_14 : decode cX6_champion 14 = .ok (.iaload, 1) := by decide +kernel
theorem dX6_champion_15 : decode cX6_champion 15 = .ok (.istore_n 2, 1) := by decide +kernel
theorem dX6_champion_16 : decode cX6_champion 16 = .ok (.iload_n 1, 1) := by decide +kernel
theorem dX6_champion_17 : decode cX6_champion 17 = .ok (.ifCond .lt 10, 3) := by decide +kernel
theorem dX6_champion_20 : decode cX6_champion 20 = .ok (.iload_n 1, 1) := by decide +kernel
theorem dX6_champion_21 : decode cX6_champion 21 = .ok (.iload_n 2, 1) := by decide +kernel
theorem dX6_champion_22 : decode cX6_champion 22 = .ok (.if_icmp .ne 5, 3) := by decide +kernel
theorem dX6_champion_25 : decode cX6_champion 25 = .ok (.iload_n 1, 1) := by decide +kernel
theorem dX6_champion_26 : decode cX6_champion 26 = .ok (.ireturn, 1) := by decide +kernel
theorem dX6_champion_27 : decode cX6_champion 27 = .ok (.aload_n 0, 1) := by decide +kernel
theorem dX6_champion_28 : decode cX6_champion 28 = .ok (.getfield 62, 3) := by decide +kernel
theorem dX6_champion_31 : decode cX6_champion 31 = .ok (.bipush 14, 2) := by decide +kernel
theorem dX6_champion_33 : decode cX6_champion 33 = .ok (.iaload, 1) := by decide +kernel
theorem dX6_champion_34 : decode cX6_champion 34 = .ok (.ifCond .ge 8, 3) := by decide +kernel
theorem dX6_champion_37 : decode cX6_champion 37 = .ok (.bipush (-4), 2) := by decide +kernel
theorem dX6_champion_39 : decode cX6_champion 39 = .ok (.goto 10, 3) := by decide +kernel
theorem dX6_champion_42 : decode cX6_champion 42 = .ok (.aload_n 0, 1) := by decide +kernel
theorem dX6_champion_43 : decode cX6_champion 43 = .ok (.getfield 62, 3) := by decide +kernel
theorem dX6_champion_46 : decode cX6_champion 46 = .ok (.bipush 14, 2) := by decide +kernel
theorem dX6_champion_48 : decode cX6_champion 48 = .ok (.iaload, 1) := by decide +kernel
theorem dX6_champion_49 : decode cX6_champion 49 = .ok (.ireturn, 1) := by decide +kernel
theorem dX6_laid_0 : decode cX6_laid 0 = .ok (.iconst 0, 1) := by decide +kernel
theorem dX6_laid_1 : decode cX6_laid 1 = .ok (.istore_n 1, 1) := by decide +kernel
theorem dX6_laid_2 : decode cX6_laid 2 = .ok (.iconst 0, 1) := by decide +kernel
theorem dX6_laid_3 : decode cX6_laid 3 = .ok (.istore_n 2, 1) := by decide +kernel
theorem dX6_laid_4 : decode cX6_laid 4 = .ok (.iload_n 2, 1) := by decide +kernel
theorem dX6_laid_5 : decode cX6_laid 5 = .ok (.bipush 15, 2) := by decide +kernel
theorem dX6_laid_7 : decode cX6_laid 7 = .ok (.if_icmp .ge 26, 3) := by decide +kernel
theorem dX6_laid_10 : decode cX6_laid 10 = .ok (.iload_n 1, 1) := by decide +kernel
theorem dX6_laid_11 : decode cX6_laid 11 = .ok (.aload_n 0, 1) := by decide +kernel
theorem dX6_laid_12 : decode cX6_laid 12 = .ok (.getfield 65, 3) := by decide +kernel
theorem dX6_laid_15 : decode cX6_laid 15 = .ok (.iload_n 2, 1) := by decide +kernel
theorem dX6_laid_16 : decode cX6_laid 16 = .ok (.iaload, 1) := by decide +kernel
theorem dX6_laid_17 : decode cX6_laid 17 = .ok (.ifCond .lt 7, 3) := by decide +kernel
theorem dX6_laid_20 : decode cX6_laid 20 = .ok (.iconst 1, 1) := by decide +kernel
theorem dX6_laid_21 : decode cX6_laid 21 = .ok (.goto 4, 3) := by decide +kernel
theorem dX6_laid_24 : decode cX6_laid 24 = .ok (.iconst 0, 1) := by decide +kernel
theorem dX6_laid_25 : decode cX6_laid 25 = .ok (.iadd, 1) := by decide +kernel
theorem dX6_laid_26 : decode cX6_laid 26 = .ok (.istore_n 1, 1) := by decide +kernel
theorem dX6_laid_27 : decode cX6_laid 27 = .ok (.iinc 2 1, 3) := by decide +kernel
theorem dX6_laid_30 : decode cX6_laid 30 = .ok (.goto (-26), 3) := by decide +kernel
theorem dX6_laid_33 : decode cX6_laid 33 = .ok (.iload_n 1, 1) := by decide +kernel
theorem dX6_laid_34 : decode cX6_laid 34 = .ok (.ireturn, 1) := by decide +kernel
theorem dX6_lawns_0 : decode cX6_lawns 0 = .ok (.iload_n 1, 1) := by decide +kernel
theorem dX6_lawns_1 : decode cX6_lawns 1 = .ok (.iconst 1, 1) := by decide +kernel
theorem dX6_lawns_2 : decode cX6_lawns 2 = .ok (.iconst 4, 1) := by decide +kernel
theorem dX6_lawns_3 : decode cX6_lawns 3 = .ok (.invokestatic 72, 3) := by decide +kernel
theorem dX6_lawns_6 : decode cX6_lawns 6 = .ok (.ifCond .ne 5, 3) := by decide +kernel
theorem dX6_lawns_9 : decode cX6_lawns 9 = .ok (.iconst (-1), 1) := by decide +kernel
theorem dX6_lawns_10 : decode cX6_lawns 10 = .ok (.ireturn, 1) := by decide +kernel
theorem dX6_lawns_11 : decode cX6_lawns 11 = .ok (.aload_n 0, 1) := by decide +kernel
theorem dX6_lawns_12 : decode cX6_lawns 12 = .ok (.invokevirtual 187, 3) := by decide +kernel
theorem dX6_lawns_15 : decode cX6_lawns 15 = .ok (.ifCond .le 6, 3) := by decide +kernel
theorem dX6_lawns_18 : decode cX6_lawns 18 = .ok (.bipush (-2), 2) := by decide +kernel
theorem dX6_lawns_20 : decode cX6_lawns 20 = .ok (.ireturn, 1) := by decide +kernel
theorem dX6_lawns_21 : decode cX6_lawns 21 = .ok (.aload_n 0, 1) := by decide +kernel
theorem dX6_lawns_22 : decode cX6_lawns 22 = .ok (.getfield 68, 3) := by decide +kernel
theorem dX6_lawns_25 : decode cX6_lawns 25 = .ok (.istore_n 2, 1) := by decide +kernel
theorem dX6_lawns_26 : decode cX6_lawns 26 = .ok (.aload_n 0, 1) := by decide +kernel
theorem dX6_lawns_27 : decode cX6_lawns 27 = .ok (.iload_n 1, 1) := by decide +kernel
theorem dX6_lawns_28 : decode cX6_lawns 28 = .ok (.putfield 68, 3) := by decide +kernel
theorem dX6_lawns_31 : decode cX6_lawns 31 = .ok (.iload_n 2, 1) := by decide +kernel
theorem dX6_lawns_32 : decode cX6_lawns 32 = .ok (.ireturn, 1) := by decide +kernel
theorem dX6_isIn_0 : decode cX6_isIn 0 = .ok (.iload_n 1, 1) := by decide +kernel
theorem dX6_isIn_1 : decode cX6_isIn 1 = .ok (.ifCond .lt 27, 3) := by decide +kernel
theorem dX6_isIn_4 : decode cX6_isIn 4 = .ok (.aload_n 0, 1) := by decide +kernel
theorem dX6_isIn_5 : decode cX6_isIn 5 = .ok (.iload_n 2, 1) := by decide +kernel
theorem dX6_isIn_6 : decode cX6_isIn 6 = .ok (.iconst 0, 1) := by decide +kernel
theorem dX6_isIn_7 : decode cX6_isIn 7 = .ok (.invokevirtual 184, 3) := by decide +kernel
theorem dX6_isIn_10 : decode cX6_isIn 10 = .ok (.iload_n 1, 1) := by decide +kernel
theorem dX6_isIn_11 : decode cX6_isIn 11 = .ok (.if_icmp .eq 13, 3) := by decide +kernel
theorem dX6_isIn_14 : decode cX6_isIn 14 = .ok (.aload_n 0, 1) := by decide +kernel
theorem dX6_isIn_15 : decode cX6_isIn 15 = .ok (.iload_n 2, 1) := by decide +kernel
theorem dX6_isIn_16 : decode cX6_isIn 16 = .ok (.iconst 1, 1) := by decide +kernel
theorem dX6_isIn_17 : decode cX6_isIn 17 = .ok (.invokevirtual 184, 3) := by decide +kernel
theorem dX6_isIn_20 : decode cX6_isIn 20 = .ok (.iload_n 1, 1) := by decide +kernel
theorem dX6_isIn_21 : decode cX6_isIn 21 = .ok (.if_icmp .ne 7, 3) := by decide +kernel
theorem dX6_isIn_24 : decode cX6_isIn 24 = .ok (.iconst 1, 1) := by decide +kernel
theorem dX6_isIn_25 : decode cX6_isIn 25 = .ok (.goto 4, 3) := by decide +kernel
theorem dX6_isIn_28 : decode cX6_isIn 28 = .ok (.iconst 0, 1) := by decide +kernel
theorem dX6_isIn_29 : decode cX6_isIn 29 = .ok (.ireturn, 1) := by decide +kernel
theorem dX6_isFree_0 : decode cX6_isFree 0 = .ok (.iconst 0, 1) := by decide +kernel
theorem dX6_isFree_1 : decode cX6_isFree 1 = .ok (.istore_n 3, 1) := by decide +kernel
theorem dX6_isFree_2 : decode cX6_isFree 2 = .ok (.iconst 1, 1) := by decide +kernel
theorem dX6_isFree_3 : decode cX6_isFree 3 = .ok (.istore 4, 2) := by decide +kernel
theorem dX6_isFree_5 : decode cX6_isFree 5 = .ok (.iconst 0, 1) := by decide +kernel
theorem dX6_isFree_6 : decode cX6_isFree 6 = .ok (.istore 5, 2) := by decide +kernel
theorem dX6_isFree_8 : decode cX6_isFree 8 = .ok (.iload 5, 2) := by decide +kernel
theorem dX6_isFree_10 : decode cX6_isFree 10 = .ok (.bipush 15, 2) := by decide +kernel
theorem dX6_isFree_12 : decode cX6_isFree 12 = .ok (.if_icmp .ge 65, 3) := by decide +kernel
theorem dX6_isFree_15 : decode cX6_isFree 15 = .ok (.aload_n 0, 1) := by decide +kernel
theorem dX6_isFree_16 : decode cX6_isFree 16 = .ok (.getfield 65, 3) := by decide +kernel
theorem dX6_isFree_19 : decode cX6_isFree 19 = .ok (.iload 5, 2) := by decide +kernel
theorem dX6_isFree_21 : decode cX6_isFree 21 = .ok (.iaload, 1) := by decide +kernel
theorem dX6_isFree_22 : decode cX6_isFree 22 = .ok (.iload_n 2, 1) := by decide +kernel
theorem dX6_isFree_23 : decode cX6_isFree 23 = .ok (.if_icmp .ne 48, 3) := by decide +kernel
theorem dX6_isFree_26 : decode cX6_isFree 26 = .ok (.iinc 3 1, 3) := by decide +kernel
theorem dX6_isFree_29 : decode cX6_isFree 29 = .ok (.iload 4, 2) := by decide +kernel
theorem dX6_isFree_31 : decode cX6_isFree 31 = .ok (.ifCond .eq 37, 3) := by decide +kernel
theorem dX6_isFree_34 : decode cX6_isFree 34 = .ok (.aload_n 0, 1) := by decide +kernel
theorem dX6_isFree_35 : decode cX6_isFree 35 = .ok (.aload_n 0, 1) := by decide +kernel
theorem dX6_isFree_36 : decode cX6_isFree 36 = .ok (.iload_n 1, 1) := by decide +kernel
theorem dX6_isFree_37 : decode cX6_isFree 37 = .ok (.iconst 0, 1) := by decide +kernel
theorem dX6_isFree_38 : decode cX6_isFree 38 = .ok (.invokevirtual 184, 3) := by decide +kernel
theorem dX6_isFree_41 : decode cX6_isFree 41 = .ok (.iload 5, 2) := by decide +kernel
theorem dX6_isFree_43 : decode cX6_isFree 43 = .ok (.invokevirtual 190, 3) := by decide +kernel
theorem dX6_isFree_46 : decode cX6_isFree 46 = .ok (.ifCond .ne 22, 3) := by decide +kernel
theorem dX6_isFree_49 : decode cX6_isFree 49 = .ok (.aload_n 0, 1) := by decide +kernel
theorem dX6_isFree_50 : decode cX6_isFree 50 = .ok (.aload_n 0, 1) := by decide +kernel
theorem dX6_isFree_51 : decode cX6_isFree 51 = .ok (.iload_n 1, 1) := by decide +kernel
theorem dX6_isFree_52 : decode cX6_isFree 52 = .ok (.iconst 1, 1) := by decide +kernel
theorem dX6_isFree_53 : decode cX6_isFree 53 = .ok (.invokevirtual 184, 3) := by decide +kernel
theorem dX6_isFree_56 : decode cX6_isFree 56 = .ok (.iload 5, 2) := by decide +kernel
theorem dX6_isFree_58 : decode cX6_isFree 58 = .ok (.invokevirtual 190, 3) := by decide +kernel
theorem dX6_isFree_61 : decode cX6_isFree 61 = .ok (.ifCond .ne 7, 3) := by decide +kernel
theorem dX6_isFree_64 : decode cX6_isFree 64 = .ok (.iconst 1, 1) := by decide +kernel
theorem dX6_isFree_65 : decode cX6_isFree 65 = .ok (.goto 4, 3) := by decide +kernel
theorem dX6_isFree_68 : decode cX6_isFree 68 = .ok (.iconst 0, 1) := by decide +kernel
theorem dX6_isFree_69 : decode cX6_isFree 69 = .ok (.istore 4, 2) := by decide +kernel
theorem dX6_isFree_71 : decode cX6_isFree 71 = .ok (.iinc 5 1, 3) := by decide +kernel
theorem dX6_isFree_74 : decode cX6_isFree 74 = .ok (.goto (-66), 3) := by decide +kernel
theorem dX6_isFree_77 : decode cX6_isFree 77 = .ok (.iload 4, 2) := by decide +kernel
theorem dX6_isFree_79 : decode cX6_isFree 79 = .ok (.ifCond .eq 15, 3) := by decide +kernel
theorem dX6_isFree_82 : decode cX6_isFree 82 = .ok (.iload_n 3, 1) := by decide +kernel
theorem dX6_isFree_83 : decode cX6_isFree 83 = .ok (.aload_n 0, 1) := by decide +kernel
theorem dX6_isFree_84 : decode cX6_isFree 84 = .ok (.getfield 68, 3) := by decide +kernel
theorem dX6_isFree_87 : decode cX6_isFree 87 = .ok (.if_icmp .ge 7, 3) := by decide +kernel
theorem dX6_isFree_90 : decode cX6_isFree 90 = .ok (.iconst 1, 1) := by decide +kernel
theorem dX6_isFree_91 : decode cX6_isFree 91 = .ok (.goto 4, 3) := by decide +kernel
theorem dX6_isFree_94 : decode cX6_isFree 94 = .ok (.iconst 0, 1) := by decide +kernel
theorem dX6_isFree_95 : decode cX6_isFree 95 = .ok (.ireturn, 1) := by decide +kernel
theorem dX6_lay_0 : decode cX6_lay 0 = .ok (.iload_n 1, 1) := by decide +kernel
theorem dX6_lay_1 : decode cX6_lay 1 = .ok (.invokestatic 181, 3) := by decide +kernel
theorem dX6_lay_4 : decode cX6_lay 4 = .ok (.ifCond .ne 5, 3) := by decide +kernel
theorem dX6_lay_7 : decode cX6_lay 7 = .ok (.iconst (-1), 1) := by decide +kernel
theorem dX6_lay_8 : decode cX6_lay 8 = .ok (.ireturn, 1) := by decide +kernel
theorem dX6_lay_9 : decode cX6_lay 9 = .ok (.iconst 0, 1) := by decide +kernel
theorem dX6_lay_10 : decode cX6_lay 10 = .ok (.istore_n 2, 1) := by decide +kernel
theorem dX6_lay_11 : decode cX6_lay 11 = .ok (.iload_n 1, 1) := by decide +kernel
theorem dX6_lay_12 : decode cX6_lay 12 = .ok (.invokestatic 174, 3) := by decide +kernel
theorem dX6_lay_15 : decode cX6_lay 15 = .ok (.ifCond .ne 55, 3) := by decide +kernel
theorem dX6_lay_18 : decode cX6_lay 18 = .ok (.aload_n 0, 1) := by decide +kernel
theorem dX6_lay_19 : decode cX6_lay 19 = .ok (.getfield 65, 3) := by decide +kernel
theorem dX6_lay_22 : decode cX6_lay 22 = .ok (.iload_n 1, 1) := by decide +kernel
theorem dX6_lay_23 : decode cX6_lay 23 = .ok (.iconst 0, 1) := by decide +kernel
theorem dX6_lay_24 : decode cX6_lay 24 = .ok (.invokestatic 177, 3) := by decide +kernel
theorem dX6_lay_27 : decode cX6_lay 27 = .ok (.iaload, 1) := by decide +kernel
theorem dX6_lay_28 : decode cX6_lay 28 = .ok (.istore_n 3, 1) := by decide +kernel
theorem dX6_lay_29 : decode cX6_lay 29 = .ok (.aload_n 0, 1) := by decide +kernel
theorem dX6_lay_30 : decode cX6_lay 30 = .ok (.getfield 65, 3) := by decide +kernel
theorem dX6_lay_33 : decode cX6_lay 33 = .ok (.iload_n 1, 1) := by decide +kernel
theorem dX6_lay_34 : decode cX6_lay 34 = .ok (.iconst 1, 1) := by decide +kernel
theorem dX6_lay_35 : decode cX6_lay 35 = .ok (.invokestatic 177, 3) := by decide +kernel
theorem dX6_lay_38 : decode cX6_lay 38 = .ok (.iaload, 1) := by decide +kernel
theorem dX6_lay_39 : decode cX6_lay 39 = .ok (.istore 4, 2) := by decide +kernel
theorem dX6_lay_41 : decode cX6_lay 41 = .ok (.iload_n 3, 1) := by decide +kernel
theorem dX6_lay_42 : decode cX6_lay 42 = .ok (.ifCond .lt 8, 3) := by decide +kernel
theorem dX6_lay_45 : decode cX6_lay 45 = .ok (.iload 4, 2) := by decide +kernel
theorem dX6_lay_47 : decode cX6_lay 47 = .ok (.ifCond .ge 6, 3) := by decide +kernel
theorem dX6_lay_50 : decode cX6_lay 50 = .ok (.bipush (-2), 2) := by decide +kernel
theorem dX6_lay_52 : decode cX6_lay 52 = .ok (.ireturn, 1) := by decide +kernel
theorem dX6_lay_53 : decode cX6_lay 53 = .ok (.iload_n 3, 1) := by decide +kernel
theorem dX6_lay_54 : decode cX6_lay 54 = .ok (.iload 4, 2) := by decide +kernel
theorem dX6_lay_56 : decode cX6_lay 56 = .ok (.if_icmp .le 9, 3) := by decide +kernel
theorem dX6_lay_59 : decode cX6_lay 59 = .ok (.iload_n 3, 1) := by decide +kernel
theorem dX6_lay_60 : decode cX6_lay 60 = .ok (.iconst 1, 1) := by decide +kernel
theorem dX6_lay_61 : decode cX6_lay 61 = .ok (.iadd, 1) := by decide +kernel
theorem dX6_lay_62 : decode cX6_lay 62 = .ok (.goto 7, 3) := by decide +kernel
theorem dX6_lay_65 : decode cX6_lay 65 = .ok (.iload 4, 2) := by decide +kernel
theorem dX6_lay_67 : decode cX6_lay 67 = .ok (.iconst 1, 1) := by decide +kernel
theorem dX6_lay_68 : decode cX6_lay 68 = .ok (.iadd, 1) := by decide +kernel
theorem dX6_lay_69 : decode cX6_lay 69 = .ok (.istore_n 2, 1) := by decide +kernel
theorem dX6_lay_70 : decode cX6_lay 70 = .ok (.aload_n 0, 1) := by decide +kernel
theorem dX6_lay_71 : decode cX6_lay 71 = .ok (.getfield 65, 3) := by decide +kernel
theorem dX6_lay_74 : decode cX6_lay 74 = .ok (.iload_n 1, 1) := by decide +kernel
theorem dX6_lay_75 : decode cX6_lay 75 = .ok (.iaload, 1) := by decide +kernel
theorem dX6_lay_76 : decode cX6_lay 76 = .ok (.ifCond .lt 6, 3) := by decide +kernel
theorem dX6_lay_79 : decode cX6_lay 79 = .ok (.bipush (-2), 2) := by decide +kernel
theorem dX6_lay_81 : decode cX6_lay 81 = .ok (.ireturn, 1) := by decide +kernel
theorem dX6_lay_82 : decode cX6_lay 82 = .ok (.aload_n 0, 1) := by decide +kernel
theorem dX6_lay_83 : decode cX6_lay 83 = .ok (.iload_n 1, 1) := by decide +kernel
theorem dX6_lay_84 : decode cX6_lay 84 = .ok (.iload_n 2, 1) := by decide +kernel
theorem dX6_lay_85 : decode cX6_lay 85 = .ok (.invokevirtual 193, 3) := by decide +kernel
theorem dX6_lay_88 : decode cX6_lay 88 = .ok (.ifCond .ne 9, 3) := by decide +kernel
theorem dX6_lay_91 : decode cX6_lay 91 = .ok (.iinc 2 1, 3) := by decide +kernel
theorem dX6_lay_94 : decode cX6_lay 94 = .ok (.goto (-12), 3) := by decide +kernel
theorem dX6_lay_97 : decode cX6_lay 97 = .ok (.aload_n 0, 1) := by decide +kernel
theorem dX6_lay_98 : decode cX6_lay 98 = .ok (.getfield 65, 3) := by decide +kernel
theorem dX6_lay_101 : decode cX6_lay 101 = .ok (.iload_n 1, 1) := by decide +kernel
theorem dX6_lay_102 : decode cX6_lay 102 = .ok (.iload_n 2, 1) := by decide +kernel
theorem dX6_lay_103 : decode cX6_lay 103 = .ok (.iastore, 1) := by decide +kernel
theorem dX6_lay_104 : decode cX6_lay 104 = .ok (.iload_n 2, 1) := by decide +kernel
theorem dX6_lay_105 : decode cX6_lay 105 = .ok (.ireturn, 1) := by decide +kernel
theorem dX6_hour_0 : decode cX6_hour 0 = .ok (.iload_n 1, 1) := by decide +kernel
theorem dX6_hour_1 : decode cX6_hour 1 = .ok (.invokestatic 181, 3) := by decide +kernel
theorem dX6_hour_4 : decode cX6_hour 4 = .ok (.ifCond .ne 7, 3) := by decide +kernel
theorem dX6_hour_7 : decode cX6_hour 7 = .ok (.iconst (-1), 1) := by decide +kernel
theorem dX6_hour_8 : decode cX6_hour 8 = .ok (.goto 23, 3) := by decide +kernel
theorem dX6_hour_11 : decode cX6_hour 11 = .ok (.aload_n 0, 1) := by decide +kernel
theorem dX6_hour_12 : decode cX6_hour 12 = .ok (.getfield 65, 3) := by decide +kernel
theorem dX6_hour_15 : decode cX6_hour 15 = .ok (.iload_n 1, 1) := by decide +kernel
theorem dX6_hour_16 : decode cX6_hour 16 = .ok (.iaload, 1) := by decide +kernel
theorem dX6_hour_17 : decode cX6_hour 17 = .ok (.ifCond .ge 8, 3) := by decide +kernel
theorem dX6_hour_20 : decode cX6_hour 20 = .ok (.bipush (-4), 2) := by decide +kernel
theorem dX6_hour_22 : decode cX6_hour 22 = .ok (.goto 9, 3) := by decide +kernel
theorem dX6_hour_25 : decode cX6_hour 25 = .ok (.aload_n 0, 1) := by decide +kernel
theorem dX6_hour_26 : decode cX6_hour 26 = .ok (.getfield 65, 3) := by decide +kernel
theorem dX6_hour_29 : decode cX6_hour 29 = .ok (.iload_n 1, 1) := by decide +kernel
theorem dX6_hour_30 : decode cX6_hour 30 = .ok (.iaload, 1) := by decide +kernel
theorem dX6_hour_31 : decode cX6_hour 31 = .ok (.ireturn, 1) := by decide +kernel
theorem dX6_clear_0 : decode cX6_clear 0 = .ok (.aload_n 0, 1) := by decide +kernel
theorem dX6_clear_1 : decode cX6_clear 1 = .ok (.invokevirtual 187, 3) := by decide +kernel
theorem dX6_clear_4 : decode cX6_clear 4 = .ok (.istore_n 1, 1) := by decide +kernel
theorem dX6_clear_5 : decode cX6_clear 5 = .ok (.iconst 0, 1) := by decide +kernel
theorem dX6_clear_6 : decode cX6_clear 6 = .ok (.istore_n 2, 1) := by decide +kernel
theorem dX6_clear_7 : decode cX6_clear 7 = .ok (.iload_n 2, 1) := by decide +kernel
theorem dX6_clear_8 : decode cX6_clear 8 = .ok (.bipush 15, 2) := by decide +kernel
theorem dX6_clear_10 : decode cX6_clear 10 = .ok (.if_icmp .ge 16, 3) := by decide +kernel
theorem dX6_clear_13 : decode cX6_clear 13 = .ok (.aload_n 0, 1) := by decide +kernel
theorem dX6_clear_14 : decode cX6_clear 14 = .ok (.getfield 65, 3) := by decide +kernel
theorem dX6_clear_17 : decode cX6_clear 17 = .ok (.iload_n 2, 1) := by decide +kernel
theorem dX6_clear_18 : decode cX6_clear 18 = .ok (.iconst (-1), 1) := by decide +kernel
theorem dX6_clear_19 : decode cX6_clear 19 = .ok (.iastore, 1) := by decide +kernel
theorem dX6_clear_20 : decode cX6_clear 20 = .ok (.iinc 2 1, 3) := by decide +kernel
theorem dX6_clear_23 : decode cX6_clear 23 = .ok (.goto (-16), 3) := by decide +kernel
theorem dX6_clear_26 : decode cX6_clear 26 = .ok (.iload_n 1, 1) := by decide +kernel
theorem dX6_clear_27 : decode cX6_clear 27 = .ok (.ireturn, 1) := by decide +kernel
theorem dJ9_abs_0f7a4_0 : decode cJ9_abs_0f7a4 0 = .ok (.iload_n 0, 1) := by decide +kernel
theorem dJ9_abs_0f7a4_1 : decode cJ9_abs_0f7a4 1 = .ok (.ifCond .ge 8, 3) := by decide +kernel
theorem dJ9_abs_0f7a4_4 : decode cJ9_abs_0f7a4 4 = .ok (.iload_n 0, 1) := by decide +kernel
theorem dJ9_abs_0f7a4_5 : decode cJ9_abs_0f7a4 5 = .ok (.ineg, 1) := by decide +kernel
theorem dJ9_abs_0f7a4_6 : decode cJ9_abs_0f7a4 6 = .ok (.goto 4, 3) := by decide +kernel
theorem dJ9_abs_0f7a4_9 : decode cJ9_abs_0f7a4 9 = .ok (.iload_n 0, 1) := by decide +kernel
theorem dJ9_abs_0f7a4_10 : decode cJ9_abs_0f7a4 10 = .ok (.ireturn, 1) := by decide +kernel
theorem dJ9_max_7cf53_0 : decode cJ9_max_7cf53 0 = .ok (.iload_n 0, 1) := by decide +kernel
theorem dJ9_max_7cf53_1 : decode cJ9_max_7cf53 1 = .ok (.iload_n 1, 1) := by decide +kernel
theorem dJ9_max_7cf53_2 : decode cJ9_max_7cf53 2 = .ok (.if_icmp .lt 7, 3) := by decide +kernel
theorem dJ9_max_7cf53_5 : decode cJ9_max_7cf53 5 = .ok (.iload_n 0, 1) := by decide +kernel
theorem dJ9_max_7cf53_6 : decode cJ9_max_7cf53 6 = .ok (.goto 4, 3) := by decide +kernel
theorem dJ9_max_7cf53_9 : decode cJ9_max_7cf53 9 = .ok (.iload_n 1, 1) := by decide +kernel
theorem dJ9_max_7cf53_10 : decode cJ9_max_7cf53 10 = .ok (.ireturn, 1) := by decide +kernel
theorem dJ9_min_7cf53_0 : decode cJ9_min_7cf53 0 = .ok (.iload_n 0, 1) := by decide +kernel
theorem dJ9_min_7cf53_1 : decode cJ9_min_7cf53 1 = .ok (.iload_n 1, 1) := by decide +kernel
theorem dJ9_min_7cf53_2 : decode cJ9_min_7cf53 2 = .ok (.if_icmp .gt 7, 3) := by decide +kernel
theorem dJ9_min_7cf53_5 : decode cJ9_min_7cf53 5 = .ok (.iload_n 0, 1) := by decide +kernel
theorem dJ9_min_7cf53_6 : decode cJ9_min_7cf53 6 = .ok (.goto 4, 3) := by decide +kernel
theorem dJ9_min_7cf53_9 : decode cJ9_min_7cf53 9 = .ok (.iload_n 1, 1) := by decide +kernel
theorem dJ9_min_7cf53_10 : decode cJ9_min_7cf53 10 = .ok (.ireturn, 1) := by decide +kernel
theorem dJ7_fill_53178_0 : decode cJ7_fill_53178 0 = .ok (.iconst 0, 1) := by decide +kernel
theorem dJ7_fill_53178_1 : decode cJ7_fill_53178 1 = .ok (.istore_n 2, 1) := by decide +kernel
theorem dJ7_fill_53178_2 : decode cJ7_fill_53178 2 = .ok (.aload_n 0, 1) := by decide +kernel
theorem dJ7_fill_53178_3 : decode cJ7_fill_53178 3 = .ok (.arraylength, 1) := by decide +kernel
theorem dJ7_fill_53178_4 : decode cJ7_fill_53178 4 = .ok (.istore_n 3, 1) := by decide +kernel
theorem dJ7_fill_53178_5 : decode cJ7_fill_53178 5 = .ok (.iload_n 2, 1) := by decide +kernel
theorem dJ7_fill_53178_6 : decode cJ7_fill_53178 6 = .ok (.iload_n 3, 1) := by decide +kernel
theorem dJ7_fill_53178_7 : decode cJ7_fill_53178 7 = .ok (.if_icmp .ge 13, 3) := by decide +kernel
theorem dJ7_fill_53178_10 : decode cJ7_fill_53178 10 = .ok (.aload_n 0, 1) := by decide +kernel
theorem dJ7_fill_53178_11 : decode cJ7_fill_53178 11 = .ok (.iload_n 2, 1) := by decide +kernel
theorem dJ7_fill_53178_12 : decode cJ7_fill_53178 12 = .ok (.iload_n 1, 1) := by decide +kernel
theorem dJ7_fill_53178_13 : decode cJ7_fill_53178 13 = .ok (.iastore, 1) := by decide +kernel
theorem dJ7_fill_53178_14 : decode cJ7_fill_53178 14 = .ok (.iinc 2 1, 3) := by decide +kernel
theorem dJ7_fill_53178_17 : decode cJ7_fill_53178 17 = .ok (.goto (-12), 3) := by decide +kernel
theorem dJ7_fill_53178_20 : decode cJ7_fill_53178 20 = .ok (.return_, 1) := by decide +kernel
theorem dL_law_0 : decode cL_law 0 = .ok (.new 7, 3) := by decide +kernel
theorem dL_law_3 : decode cL_law 3 = .ok (.dup, 1) := by decide +kernel
theorem dL_law_4 : decode cL_law 4 = .ok (.invokespecial 9, 3) := by decide +kernel
theorem dL_law_7 : decode cL_law 7 = .ok (.astore_n 1, 1) := by decide +kernel
theorem dL_law_8 : decode cL_law 8 = .ok (.new 10, 3) := by decide +kernel
theorem dL_law_11 : decode cL_law 11 = .ok (.dup, 1) := by decide +kernel
theorem dL_law_12 : decode cL_law 12 = .ok (.invokespecial 12, 3) := by decide +kernel
theorem dL_law_15 : decode cL_law 15 = .ok (.astore_n 2, 1) := by decide +kernel
theorem dL_law_16 : decode cL_law 16 = .ok (.iconst 0, 1) := by decide +kernel
theorem dL_law_17 : decode cL_law 17 = .ok (.istore_n 3, 1) := by decide +kernel
theorem dL_law_18 : decode cL_law 18 = .ok (.iload_n 3, 1) := by decide +kernel
theorem dL_law_19 : decode cL_law 19 = .ok (.aload_n 0, 1) := by decide +kernel
theorem dL_law_20 : decode cL_law 20 = .ok (.arraylength, 1) := by decide +kernel
theorem dL_law_21 : decode cL_law 21 = .ok (.iconst 4, 1) := by decide +kernel
theorem dL_law_22 : decode cL_law 22 = .ok (.isub, 1) := by decide +kernel
theorem dL_law_23 : decode cL_law 23 = .ok (.if_icmp .gt 641, 3) := by decide +kernel
theorem dL_law_26 : decode cL_law 26 = .ok (.aload_n 0, 1) := by decide +kernel
theorem dL_law_27 : decode cL_law 27 = .ok (.iload_n 3, 1) := by decide +kernel
theorem dL_law_28 : decode cL_law 28 = .ok (.iaload, 1) := by decide +kernel
theorem dL_law_29 : decode cL_law 29 = .ok (.bipush 31, 2) := by decide +kernel
theorem dL_law_31 : decode cL_law 31 = .ok (.iand, 1) := by decide +kernel
theorem dL_law_32 : decode cL_law 32 = .ok (.tableswitch 626 0 19 #[96, 129, 162, 195, 218, 251, 274, 337, 350, 373, 406, 429, 442, 475, 508, 531, 544, 567, 590, 613], 96) := by decide +kernel
theorem dL_law_128 : decode cL_law 128 = .ok (.aload_n 1, 1) := by decide +kernel
theorem dL_law_129 : decode cL_law 129 = .ok (.aload_n 0, 1) := by decide +kernel
theorem dL_law_130 : decode cL_law 130 = .ok (.iload_n 3, 1) := by decide +kernel
theorem dL_law_131 : decode cL_law 131 = .ok (.iconst 1, 1) := by decide +kernel
theorem dL_law_132 : decode cL_law 132 = .ok (.iadd, 1) := by decide +kernel
theorem dL_law_133 : decode cL_law 133 = .ok (.iaload, 1) := by decide +kernel
theorem dL_law_134 : decode cL_law 134 = .ok (.aload_n 0, 1) := by decide +kernel
theorem dL_law_135 : decode cL_law 135 = .ok (.iload_n 3, 1) := by decide +kernel
theorem dL_law_136 : decode cL_law 136 = .ok (.iconst 2, 1) := by decide +kernel
theorem dL_law_137 : decode cL_law 137 = .ok (.iadd, 1) := by decide +kernel
theorem dL_law_138 : decode cL_law 138 = .ok (.iaload, 1) := by decide +kernel
theorem dL_law_139 : decode cL_law 139 = .ok (.invokevirtual 13, 3) := by decide +kernel
theorem dL_law_142 : decode cL_law 142 = .ok (.aload_n 2, 1) := by decide +kernel
theorem dL_law_143 : decode cL_law 143 = .ok (.aload_n 0, 1) := by decide +kernel
theorem dL_law_144 : decode cL_law 144 = .ok (.iload_n 3, 1) := by decide +kernel
theorem dL_law_145 : decode cL_law 145 = .ok (.iconst 1, 1) := by decide +kernel
theorem dL_law_146 : decode cL_law 146 = .ok (.iadd, 1) := by decide +kernel
theorem dL_law_147 : decode cL_law 147 = .ok (.iaload, 1) := by decide +kernel
theorem dL_law_148 : decode cL_law 148 = .ok (.aload_n 0, 1) := by decide +kernel
theorem dL_law_149 : decode cL_law 149 = .ok (.iload_n 3, 1) := by decide +kernel
theorem dL_law_150 : decode cL_law 150 = .ok (.iconst 2, 1) := by decide +kernel
theorem dL_law_151 : decode cL_law 151 = .ok (.iadd, 1) := by decide +kernel
theorem dL_law_152 : decode cL_law 152 = .ok (.iaload, 1) := by decide +kernel
theorem dL_law_153 : decode cL_law 153 = .ok (.invokevirtual 17, 3) := by decide +kernel
theorem dL_law_156 : decode cL_law 156 = .ok (.if_icmp .eq 502, 3) := by decide +kernel
theorem dL_law_159 : decode cL_law 159 = .ok (.iconst 0, 1) := by decide +kernel
theorem dL_law_160 : decode cL_law 160 = .ok (.ireturn, 1) := by decide +kernel
theorem dL_law_161 : decode cL_law 161 = .ok (.aload_n 1, 1) := by decide +kernel
theorem dL_law_162 : decode cL_law 162 = .ok (.aload_n 0, 1) := by decide +kernel
theorem dL_law_163 : decode cL_law 163 = .ok (.iload_n 3, 1) := by decide +kernel
theorem dL_law_164 : decode cL_law 164 = .ok (.iconst 1, 1) := by decide +kernel
theorem dL_law_165 : decode cL_law 165 = .ok (.iadd, 1) := by decide +kernel
theorem dL_law_166 : decode cL_law 166 = .ok (.iaload, 1) := by decide +kernel
theorem dL_law_167 : decode cL_law 167 = .ok (.aload_n 0, 1) := by decide +kernel
theorem dL_law_168 : decode cL_law 168 = .ok (.iload_n 3, 1) := by decide +kernel
theorem dL_law_169 : decode cL_law 169 = .ok (.iconst 2, 1) := by decide +kernel
theorem dL_law_170 : decode cL_law 170 = .ok (.iadd, 1) := by decide +kernel
theorem dL_law_171 : decode cL_law 171 = .ok (.iaload, 1) := by decide +kernel
theorem dL_law_172 : decode cL_law 172 = .ok (.invokevirtual 18, 3) := by decide +kernel
theorem dL_law_175 : decode cL_law 175 = .ok (.aload_n 2, 1) := by decide +kernel
theorem dL_law_176 : decode cL_law 176 = .ok (.aload_n 0, 1) := by decide +kernel
theorem dL_law_177 : decode cL_law 177 = .ok (.iload_n 3, 1) := by decide +kernel
theorem dL_law_178 : decode cL_law 178 = .ok (.iconst 1, 1) := by decide +kernel
theorem dL_law_179 : decode cL_law 179 = .ok (.iadd, 1) := by decide +kernel
theorem dL_law_180 : decode cL_law 180 = .ok (.iaload, 1) := by decide +kernel
theorem dL_law_181 : decode cL_law 181 = .ok (.aload_n 0, 1) := by decide +kernel
theorem dL_law_182 : decode cL_law 182 = .ok (.iload_n 3, 1) := by decide +kernel
theorem dL_law_183 : decode cL_law 183 = .ok (.iconst 2, 1) := by decide +kernel
theorem dL_law_184 : decode cL_law 184 = .ok (.iadd, 1) := by decide +kernel
theorem dL_law_185 : decode cL_law 185 = .ok (.iaload, 1) := by decide +kernel
theorem dL_law_186 : decode cL_law 186 = .ok (.invokevirtual 21, 3) := by decide +kernel
theorem dL_law_189 : decode cL_law 189 = .ok (.if_icmp .eq 469, 3) := by decide +kernel
theorem dL_law_192 : decode cL_law 192 = .ok (.iconst 0, 1) := by decide +kernel
theorem dL_law_193 : decode cL_law 193 = .ok (.ireturn, 1) := by decide +kernel
theorem dL_law_194 : decode cL_law 194 = .ok (.aload_n 1, 1) := by decide +kernel
theorem dL_law_195 : decode cL_law 195 = .ok (.aload_n 0, 1) := by decide +kernel
theorem dL_law_196 : decode cL_law 196 = .ok (.iload_n 3, 1) := by decide +kernel
theorem dL_law_197 : decode cL_law 197 = .ok (.iconst 1, 1) := by decide +kernel
theorem dL_law_198 : decode cL_law 198 = .ok (.iadd, 1) := by decide +kernel
theorem dL_law_199 : decode cL_law 199 = .ok (.iaload, 1) := by decide +kernel
theorem dL_law_200 : decode cL_law 200 = .ok (.aload_n 0, 1) := by decide +kernel
theorem dL_law_201 : decode cL_law 201 = .ok (.iload_n 3, 1) := by decide +kernel
theorem dL_law_202 : decode cL_law 202 = .ok (.iconst 2, 1) := by decide +kernel
theorem dL_law_203 : decode cL_law 203 = .ok (.iadd, 1) := by decide +kernel
theorem dL_law_204 : decode cL_law 204 = .ok (.iaload, 1) := by decide +kernel
theorem dL_law_205 : decode cL_law 205 = .ok (.invokevirtual 22, 3) := by decide +kernel
theorem dL_law_208 : decode cL_law 208 = .ok (.aload_n 2, 1) := by decide +kernel
theorem dL_law_209 : decode cL_law 209 = .ok (.aload_n 0, 1) := by decide +kernel
theorem dL_law_210 : decode cL_law 210 = .ok (.iload_n 3, 1) := by decide +kernel
theorem dL_law_211 : decode cL_law 211 = .ok (.iconst 1, 1) := by decide +kernel
theorem dL_law_212 : decode cL_law 212 = .ok (.iadd, 1) := by decide +kernel
theorem dL_law_213 : decode cL_law 213 = .ok (.iaload, 1) := by decide +kernel
theorem dL_law_214 : decode cL_law 214 = .ok (.aload_n 0, 1) := by decide +kernel
theorem dL_law_215 : decode cL_law 215 = .ok (.iload_n 3, 1) := by decide +kernel
theorem dL_law_216 : decode cL_law 216 = .ok (.iconst 2, 1) := by decide +kernel
theorem dL_law_217 : decode cL_law 217 = .ok (.iadd, 1) := by decide +kernel
theorem dL_law_218 : decode cL_law 218 = .ok (.iaload, 1) := by decide +kernel
theorem dL_law_219 : decode cL_law 219 = .ok (.invokevirtual 25, 3) := by decide +kernel
theorem dL_law_222 : decode cL_law 222 = .ok (.if_icmp .eq 436, 3) := by decide +kernel
theorem dL_law_225 : decode cL_law 225 = .ok (.iconst 0, 1) := by decide +kernel
theorem dL_law_226 : decode cL_law 226 = .ok (.ireturn, 1) := by decide +kernel
theorem dL_law_227 : decode cL_law 227 = .ok (.aload_n 1, 1) := by decide +kernel
theorem dL_law_228 : decode cL_law 228 = .ok (.aload_n 0, 1) := by decide +kernel
theorem dL_law_229 : decode cL_law 229 = .ok (.iload_n 3, 1) := by decide +kernel
theorem dL_law_230 : decode cL_law 230 = .ok (.iconst 1, 1) := by decide +kernel
theorem dL_law_231 : decode cL_law 231 = .ok (.iadd, 1) := by decide +kernel
theorem dL_law_232 : decode cL_law 232 = .ok (.iaload, 1) := by decide +kernel
theorem dL_law_233 : decode cL_law 233 = .ok (.invokevirtual 26, 3) := by decide +kernel
theorem dL_law_236 : decode cL_law 236 = .ok (.aload_n 2, 1) := by decide +kernel
theorem dL_law_237 : decode cL_law 237 = .ok (.aload_n 0, 1) := by decide +kernel
theorem dL_law_238 : decode cL_law 238 = .ok (.iload_n 3, 1) := by decide +kernel
theorem dL_law_239 : decode cL_law 239 = .ok (.iconst 1, 1) := by decide +kernel
theorem dL_law_240 : decode cL_law 240 = .ok (.iadd, 1) := by decide +kernel
theorem dL_law_241 : decode cL_law 241 = .ok (.iaload, 1) := by decide +kernel
theorem dL_law_242 : decode cL_law 242 = .ok (.invokevirtual 30, 3) := by decide +kernel
theorem dL_law_245 : decode cL_law 245 = .ok (.if_icmp .eq 413, 3) := by decide +kernel
theorem dL_law_248 : decode cL_law 248 = .ok (.iconst 0, 1) := by decide +kernel
theorem dL_law_249 : decode cL_law 249 = .ok (.ireturn, 1) := by decide +kernel
theorem dL_law_250 : decode cL_law 250 = .ok (.aload_n 1, 1) := by decide +kernel
theorem dL_law_251 : decode cL_law 251 = .ok (.aload_n 0, 1) := by decide +kernel
theorem dL_law_252 : decode cL_law 252 = .ok (.iload_n 3, 1) := by decide +kernel
theorem dL_law_253 : decode cL_law 253 = .ok (.iconst 1, 1) := by decide +kernel
theorem dL_law_254 : decode cL_law 254 = .ok (.iadd, 1) := by decide +kernel
theorem dL_law_255 : decode cL_law 255 = .ok (.iaload, 1) := by decide +kernel
theorem dL_law_256 : decode cL_law 256 = .ok (.aload_n 0, 1) := by decide +kernel
theorem dL_law_257 : decode cL_law 257 = .ok (.iload_n 3, 1) := by decide +kernel
theorem dL_law_258 : decode cL_law 258 = .ok (.iconst 2, 1) := by decide +kernel
theorem dL_law_259 : decode cL_law 259 = .ok (.iadd, 1) := by decide +kernel
theorem dL_law_260 : decode cL_law 260 = .ok (.iaload, 1) := by decide +kernel
theorem dL_law_261 : decode cL_law 261 = .ok (.invokevirtual 31, 3) := by decide +kernel
theorem dL_law_264 : decode cL_law 264 = .ok (.aload_n 2, 1) := by decide +kernel
theorem dL_law_265 : decode cL_law 265 = .ok (.aload_n 0, 1) := by decide +kernel
theorem dL_law_266 : decode cL_law 266 = .ok (.iload_n 3, 1) := by decide +kernel
theorem dL_law_267 : decode cL_law 267 = .ok (.iconst 1, 1) := by decide +kernel
theorem dL_law_268 : decode cL_law 268 = .ok (.iadd, 1) := by decide +kernel
theorem dL_law_269 : decode cL_law 269 = .ok (.iaload, 1) := by decide +kernel
theorem dL_law_270 : decode cL_law 270 = .ok (.aload_n 0, 1) := by decide +kernel
theorem dL_law_271 : decode cL_law 271 = .ok (.iload_n 3, 1) := by decide +kernel
theorem dL_law_272 : decode cL_law 272 = .ok (.iconst 2, 1) := by decide +kernel
theorem dL_law_273 : decode cL_law 273 = .ok (.iadd, 1) := by decide +kernel
theorem dL_law_274 : decode cL_law 274 = .ok (.iaload, 1) := by decide +kernel
theorem dL_law_275 : decode cL_law 275 = .ok (.invokevirtual 34, 3) := by decide +kernel
theorem dL_law_278 : decode cL_law 278 = .ok (.if_icmp .eq 380, 3) := by decide +kernel
theorem dL_law_281 : decode cL_law 281 = .ok (.iconst 0, 1) := by decide +kernel
theorem dL_law_282 : decode cL_law 282 = .ok (.ireturn, 1) := by decide +kernel
theorem dL_law_283 : decode cL_law 283 = .ok (.aload_n 1, 1) := by decide +kernel
theorem dL_law_284 : decode cL_law 284 = .ok (.aload_n 0, 1) := by decide +kernel
theorem dL_law_285 : decode cL_law 285 = .ok (.iload_n 3, 1) := by decide +kernel
theorem dL_law_286 : decode cL_law 286 = .ok (.iconst 1, 1) := by decide +kernel
theorem dL_law_287 : decode cL_law 287 = .ok (.iadd, 1) := by decide +kernel
theorem dL_law_288 : decode cL_law 288 = .ok (.iaload, 1) := by decide +kernel
theorem dL_law_289 : decode cL_law 289 = .ok (.invokevirtual 35, 3) := by decide +kernel
theorem dL_law_292 : decode cL_law 292 = .ok (.aload_n 2, 1) := by decide +kernel
theorem dL_law_293 : decode cL_law 293 = .ok (.aload_n 0, 1) := by decide +kernel
theorem dL_law_294 : decode cL_law 294 = .ok (.iload_n 3, 1) := by decide +kernel
theorem dL_law_295 : decode cL_law 295 = .ok (.iconst 1, 1) := by decide +kernel
theorem dL_law_296 : decode cL_law 296 = .ok (.iadd, 1) := by decide +kernel
theorem dL_law_297 : decode cL_law 297 = .ok (.iaload, 1) := by decide +kernel
theorem dL_law_298 : decode cL_law 298 = .ok (.invokevirtual 38, 3) := by decide +kernel
theorem dL_law_301 : decode cL_law 301 = .ok (.if_icmp .eq 357, 3) := by decide +kernel
theorem dL_law_304 : decode cL_law 304 = .ok (.iconst 0, 1) := by decide +kernel
theorem dL_law_305 : decode cL_law 305 = .ok (.ireturn, 1) := by decide +kernel
theorem dL_law_306 : decode cL_law 306 = .ok (.aload_n 1, 1) := by decide +kernel
theorem dL_law_307 : decode cL_law 307 = .ok (.aload_n 0, 1) := by decide +kernel
theorem dL_law_308 : decode cL_law 308 = .ok (.iload_n 3, 1) := by decide +kernel
theorem dL_law_309 : decode cL_law 309 = .ok (.iconst 1, 1) := by decide +kernel
theorem dL_law_310 : decode cL_law 310 = .ok (.iadd, 1) := by decide +kernel
theorem dL_law_311 : decode cL_law 311 = .ok (.iaload, 1) := by decide +kernel
theorem dL_law_312 : decode cL_law 312 = .ok (.i2l, 1) := by decide +kernel
theorem dL_law_313 : decode cL_law 313 = .ok (.bipush 32, 2) := by decide +kernel
theorem dL_law_315 : decode cL_law 315 = .ok (.lshl, 1) := by decide +kernel
theorem dL_law_316 : decode cL_law 316 = .ok (.aload_n 0, 1) := by decide +kernel
theorem dL_law_317 : decode cL_law 317 = .ok (.iload_n 3, 1) := by decide +kernel
theorem dL_law_318 : decode cL_law 318 = .ok (.iconst 2, 1) := by decide +kernel
theorem dL_law_319 : decode cL_law 319 = .ok (.iadd, 1) := by decide +kernel
theorem dL_law_320 : decode cL_law 320 = .ok (.iaload, 1) := by decide +kernel
theorem dL_law_321 : decode cL_law 321 = .ok (.i2l, 1) := by decide +kernel
theorem dL_law_322 : decode cL_law 322 = .ok (.ldc2_w 39, 3) := by decide +kernel
theorem dL_law_325 : decode cL_law 325 = .ok (.land, 1) := by decide +kernel
theorem dL_law_326 : decode cL_law 326 = .ok (.lor, 1) := by decide +kernel
theorem dL_law_327 : decode cL_law 327 = .ok (.aload_n 0, 1) := by decide +kernel
theorem dL_law_328 : decode cL_law 328 = .ok (.iload_n 3, 1) := by decide +kernel
theorem dL_law_329 : decode cL_law 329 = .ok (.iconst 3, 1) := by decide +kernel
theorem dL_law_330 : decode cL_law 330 = .ok (.iadd, 1) := by decide +kernel
theorem dL_law_331 : decode cL_law 331 = .ok (.iaload, 1) := by decide +kernel
theorem dL_law_332 : decode cL_law 332 = .ok (.invokevirtual 41, 3) := by decide +kernel
theorem dL_law_335 : decode cL_law 335 = .ok (.aload_n 2, 1) := by decide +kernel
theorem dL_law_336 : decode cL_law 336 = .ok (.aload_n 0, 1) := by decide +kernel
theorem dL_law_337 : decode cL_law 337 = .ok (.iload_n 3, 1) := by decide +kernel
theorem dL_law_338 : decode cL_law 338 = .ok (.iconst 1, 1) := by decide +kernel
theorem dL_law_339 : decode cL_law 339 = .ok (.iadd, 1) := by decide +kernel
theorem dL_law_340 : decode cL_law 340 = .ok (.iaload, 1) := by decide +kernel
theorem dL_law_341 : decode cL_law 341 = .ok (.i2l, 1) := by decide +kernel
theorem dL_law_342 : decode cL_law 342 = .ok (.bipush 32, 2) := by decide +kernel
theorem dL_law_344 : decode cL_law 344 = .ok (.lshl, 1) := by decide +kernel
theorem dL_law_345 : decode cL_law 345 = .ok (.aload_n 0, 1) := by decide +kernel
theorem dL_law_346 : decode cL_law 346 = .ok (.iload_n 3, 1) := by decide +kernel
theorem dL_law_347 : decode cL_law 347 = .ok (.iconst 2, 1) := by decide +kernel
theorem dL_law_348 : decode cL_law 348 = .ok (.iadd, 1) := by decide +kernel
theorem dL_law_349 : decode cL_law 349 = .ok (.iaload, 1) := by decide +kernel
theorem dL_law_350 : decode cL_law 350 = .ok (.i2l, 1) := by decide +kernel
theorem dL_law_351 : decode cL_law 351 = .ok (.ldc2_w 39, 3) := by decide +kernel
theorem dL_law_354 : decode cL_law 354 = .ok (.land, 1) := by decide +kernel
theorem dL_law_355 : decode cL_law 355 = .ok (.lor, 1) := by decide +kernel
theorem dL_law_356 : decode cL_law 356 = .ok (.aload_n 0, 1) := by decide +kernel
theorem dL_law_357 : decode cL_law 357 = .ok (.iload_n 3, 1) := by decide +kernel
theorem dL_law_358 : decode cL_law 358 = .ok (.iconst 3, 1) := by decide +kernel
theorem dL_law_359 : decode cL_law 359 = .ok (.iadd, 1) := by decide +kernel
theorem dL_law_360 : decode cL_law 360 = .ok (.iaload, 1) := by decide +kernel
theorem dL_law_361 : decode cL_law 361 = .ok (.invokevirtual 45, 3) := by decide +kernel
theorem dL_law_364 : decode cL_law 364 = .ok (.if_icmp .eq 294, 3) := by decide +kernel
theorem dL_law_367 : decode cL_law 367 = .ok (.iconst 0, 1) := by decide +kernel
theorem dL_law_368 : decode cL_law 368 = .ok (.ireturn, 1) := by decide +kernel
theorem dL_law_369 : decode cL_law 369 = .ok (.aload_n 1, 1) := by decide +kernel
theorem dL_law_370 : decode cL_law 370 = .ok (.invokevirtual 46, 3) := by decide +kernel
theorem dL_law_373 : decode cL_law 373 = .ok (.aload_n 2, 1) := by decide +kernel
theorem dL_law_374 : decode cL_law 374 = .ok (.invokevirtual 50, 3) := by decide +kernel
theorem dL_law_377 : decode cL_law 377 = .ok (.if_icmp .eq 281, 3) := by decide +kernel
theorem dL_law_380 : decode cL_law 380 = .ok (.iconst 0, 1) := by decide +kernel
theorem dL_law_381 : decode cL_law 381 = .ok (.ireturn, 1) := by decide +kernel
theorem dL_law_382 : decode cL_law 382 = .ok (.aload_n 1, 1) := by decide +kernel
theorem dL_law_383 : decode cL_law 383 = .ok (.aload_n 0, 1) := by decide +kernel
theorem dL_law_384 : decode cL_law 384 = .ok (.iload_n 3, 1) := by decide +kernel
theorem dL_law_385 : decode cL_law 385 = .ok (.iconst 1, 1) := by decide +kernel
theorem dL_law_386 : decode cL_law 386 = .ok (.iadd, 1) := by decide +kernel
theorem dL_law_387 : decode cL_law 387 = .ok (.iaload, 1) := by decide +kernel
theorem dL_law_388 : decode cL_law 388 = .ok (.invokevirtual 51, 3) := by decide +kernel
theorem dL_law_391 : decode cL_law 391 = .ok (.aload_n 2, 1) := by decide +kernel
theorem dL_law_392 : decode cL_law 392 = .ok (.aload_n 0, 1) := by decide +kernel
theorem dL_law_393 : decode cL_law 393 = .ok (.iload_n 3, 1) := by decide +kernel
theorem dL_law_394 : decode cL_law 394 = .ok (.iconst 1, 1) := by decide +kernel
theorem dL_law_395 : decode cL_law 395 = .ok (.iadd, 1) := by decide +kernel
theorem dL_law_396 : decode cL_law 396 = .ok (.iaload, 1) := by decide +kernel
theorem dL_law_397 : decode cL_law 397 = .ok (.invokevirtual 54, 3) := by decide +kernel
theorem dL_law_400 : decode cL_law 400 = .ok (.if_icmp .eq 258, 3) := by decide +kernel
theorem dL_law_403 : decode cL_law 403 = .ok (.iconst 0, 1) := by decide +kernel
theorem dL_law_404 : decode cL_law 404 = .ok (.ireturn, 1) := by decide +kernel
theorem dL_law_405 : decode cL_law 405 = .ok (.aload_n 1, 1) := by decide +kernel
theorem dL_law_406 : decode cL_law 406 = .ok (.aload_n 0, 1) := by decide +kernel
theorem dL_law_407 : decode cL_law 407 = .ok (.iload_n 3, 1) := by decide +kernel
theorem dL_law_408 : decode cL_law 408 = .ok (.iconst 1, 1) := by decide +kernel
theorem dL_law_409 : decode cL_law 409 = .ok (.iadd, 1) := by decide +kernel
theorem dL_law_410 : decode cL_law 410 = .ok (.iaload, 1) := by decide +kernel
theorem dL_law_411 : decode cL_law 411 = .ok (.aload_n 0, 1) := by decide +kernel
theorem dL_law_412 : decode cL_law 412 = .ok (.iload_n 3, 1) := by decide +kernel
theorem dL_law_413 : decode cL_law 413 = .ok (.iconst 2, 1) := by decide +kernel
theorem dL_law_414 : decode cL_law 414 = .ok (.iadd, 1) := by decide +kernel
theorem dL_law_415 : decode cL_law 415 = .ok (.iaload, 1) := by decide +kernel
theorem dL_law_416 : decode cL_law 416 = .ok (.invokevirtual 55, 3) := by decide +kernel
theorem dL_law_419 : decode cL_law 419 = .ok (.aload_n 2, 1) := by decide +kernel
theorem dL_law_420 : decode cL_law 420 = .ok (.aload_n 0, 1) := by decide +kernel
theorem dL_law_421 : decode cL_law 421 = .ok (.iload_n 3, 1) := by decide +kernel
theorem dL_law_422 : decode cL_law 422 = .ok (.iconst 1, 1) := by decide +kernel
theorem dL_law_423 : decode cL_law 423 = .ok (.iadd, 1) := by decide +kernel
theorem dL_law_424 : decode cL_law 424 = .ok (.iaload, 1) := by decide +kernel
theorem dL_law_425 : decode cL_law 425 = .ok (.aload_n 0, 1) := by decide +kernel
theorem dL_law_426 : decode cL_law 426 = .ok (.iload_n 3, 1) := by decide +kernel
theorem dL_law_427 : decode cL_law 427 = .ok (.iconst 2, 1) := by decide +kernel
theorem dL_law_428 : decode cL_law 428 = .ok (.iadd, 1) := by decide +kernel
theorem dL_law_429 : decode cL_law 429 = .ok (.iaload, 1) := by decide +kernel
theorem dL_law_430 : decode cL_law 430 = .ok (.invokevirtual 58, 3) := by decide +kernel
theorem dL_law_433 : decode cL_law 433 = .ok (.if_icmp .eq 225, 3) := by decide +kernel
theorem dL_law_436 : decode cL_law 436 = .ok (.iconst 0, 1) := by decide +kernel
theorem dL_law_437 : decode cL_law 437 = .ok (.ireturn, 1) := by decide +kernel
theorem dL_law_438 : decode cL_law 438 = .ok (.aload_n 1, 1) := by decide +kernel
theorem dL_law_439 : decode cL_law 439 = .ok (.aload_n 0, 1) := by decide +kernel
theorem dL_law_440 : decode cL_law 440 = .ok (.iload_n 3, 1) := by decide +kernel
theorem dL_law_441 : decode cL_law 441 = .ok (.iconst 1, 1) := by decide +kernel
theorem dL_law_442 : decode cL_law 442 = .ok (.iadd, 1) := by decide +kernel
theorem dL_law_443 : decode cL_law 443 = .ok (.iaload, 1) := by decide +kernel
theorem dL_law_444 : decode cL_law 444 = .ok (.invokevirtual 59, 3) := by decide +kernel
theorem dL_law_447 : decode cL_law 447 = .ok (.aload_n 2, 1) := by decide +kernel
theorem dL_law_448 : decode cL_law 448 = .ok (.aload_n 0, 1) := by decide +kernel
theorem dL_law_449 : decode cL_law 449 = .ok (.iload_n 3, 1) := by decide +kernel
theorem dL_law_450 : decode cL_law 450 = .ok (.iconst 1, 1) := by decide +kernel
theorem dL_law_451 : decode cL_law 451 = .ok (.iadd, 1) := by decide +kernel
theorem dL_law_452 : decode cL_law 452 = .ok (.iaload, 1) := by decide +kernel
theorem dL_law_453 : decode cL_law 453 = .ok (.invokevirtual 62, 3) := by decide +kernel
theorem dL_law_456 : decode cL_law 456 = .ok (.if_icmp .eq 202, 3) := by decide +kernel
theorem dL_law_459 : decode cL_law 459 = .ok (.iconst 0, 1) := by decide +kernel
theorem dL_law_460 : decode cL_law 460 = .ok (.ireturn, 1) := by decide +kernel
theorem dL_law_461 : decode cL_law 461 = .ok (.aload_n 1, 1) := by decide +kernel
theorem dL_law_462 : decode cL_law 462 = .ok (.invokevirtual 63, 3) := by decide +kernel
theorem dL_law_465 : decode cL_law 465 = .ok (.aload_n 2, 1) := by decide +kernel
theorem dL_law_466 : decode cL_law 466 = .ok (.invokevirtual 66, 3) := by decide +kernel
theorem dL_law_469 : decode cL_law 469 = .ok (.if_icmp .eq 189, 3) := by decide +kernel
theorem dL_law_472 : decode cL_law 472 = .ok (.iconst 0, 1) := by decide +kernel
theorem dL_law_473 : decode cL_law 473 = .ok (.ireturn, 1) := by decide +kernel
theorem dL_law_474 : decode cL_law 474 = .ok (.aload_n 1, 1) := by decide +kernel
theorem dL_law_475 : decode cL_law 475 = .ok (.aload_n 0, 1) := by decide +kernel
theorem dL_law_476 : decode cL_law 476 = .ok (.iload_n 3, 1) := by decide +kernel
theorem dL_law_477 : decode cL_law 477 = .ok (.iconst 1, 1) := by decide +kernel
theorem dL_law_478 : decode cL_law 478 = .ok (.iadd, 1) := by decide +kernel
theorem dL_law_479 : decode cL_law 479 = .ok (.iaload, 1) := by decide +kernel
theorem dL_law_480 : decode cL_law 480 = .ok (.aload_n 0, 1) := by decide +kernel
theorem dL_law_481 : decode cL_law 481 = .ok (.iload_n 3, 1) := by decide +kernel
theorem dL_law_482 : decode cL_law 482 = .ok (.iconst 2, 1) := by decide +kernel
theorem dL_law_483 : decode cL_law 483 = .ok (.iadd, 1) := by decide +kernel
theorem dL_law_484 : decode cL_law 484 = .ok (.iaload, 1) := by decide +kernel
theorem dL_law_485 : decode cL_law 485 = .ok (.invokevirtual 67, 3) := by decide +kernel
theorem dL_law_488 : decode cL_law 488 = .ok (.aload_n 2, 1) := by decide +kernel
theorem dL_law_489 : decode cL_law 489 = .ok (.aload_n 0, 1) := by decide +kernel
theorem dL_law_490 : decode cL_law 490 = .ok (.iload_n 3, 1) := by decide +kernel
theorem dL_law_491 : decode cL_law 491 = .ok (.iconst 1, 1) := by decide +kernel
theorem dL_law_492 : decode cL_law 492 = .ok (.iadd, 1) := by decide +kernel
theorem dL_law_493 : decode cL_law 493 = .ok (.iaload, 1) := by decide +kernel
theorem dL_law_494 : decode cL_law 494 = .ok (.aload_n 0, 1) := by decide +kernel
theorem dL_law_495 : decode cL_law 495 = .ok (.iload_n 3, 1) := by decide +kernel
theorem dL_law_496 : decode cL_law 496 = .ok (.iconst 2, 1) := by decide +kernel
theorem dL_law_497 : decode cL_law 497 = .ok (.iadd, 1) := by decide +kernel
theorem dL_law_498 : decode cL_law 498 = .ok (.iaload, 1) := by decide +kernel
theorem dL_law_499 : decode cL_law 499 = .ok (.invokevirtual 70, 3) := by decide +kernel
theorem dL_law_502 : decode cL_law 502 = .ok (.if_icmp .eq 156, 3) := by decide +kernel
theorem dL_law_505 : decode cL_law 505 = .ok (.iconst 0, 1) := by decide +kernel
theorem dL_law_506 : decode cL_law 506 = .ok (.ireturn, 1) := by decide +kernel
theorem dL_law_507 : decode cL_law 507 = .ok (.aload_n 1, 1) := by decide +kernel
theorem dL_law_508 : decode cL_law 508 = .ok (.aload_n 0, 1) := by decide +kernel
theorem dL_law_509 : decode cL_law 509 = .ok (.iload_n 3, 1) := by decide +kernel
theorem dL_law_510 : decode cL_law 510 = .ok (.iconst 1, 1) := by decide +kernel
theorem dL_law_511 : decode cL_law 511 = .ok (.iadd, 1) := by decide +kernel
theorem dL_law_512 : decode cL_law 512 = .ok (.iaload, 1) := by decide +kernel
theorem dL_law_513 : decode cL_law 513 = .ok (.aload_n 0, 1) := by decide +kernel
theorem dL_law_514 : decode cL_law 514 = .ok (.iload_n 3, 1) := by decide +kernel
theorem dL_law_515 : decode cL_law 515 = .ok (.iconst 2, 1) := by decide +kernel
theorem dL_law_516 : decode cL_law 516 = .ok (.iadd, 1) := by decide +kernel
theorem dL_law_517 : decode cL_law 517 = .ok (.iaload, 1) := by decide +kernel
theorem dL_law_518 : decode cL_law 518 = .ok (.invokevirtual 71, 3) := by decide +kernel
theorem dL_law_521 : decode cL_law 521 = .ok (.aload_n 2, 1) := by decide +kernel
theorem dL_law_522 : decode cL_law 522 = .ok (.aload_n 0, 1) := by decide +kernel
theorem dL_law_523 : decode cL_law 523 = .ok (.iload_n 3, 1) := by decide +kernel
theorem dL_law_524 : decode cL_law 524 = .ok (.iconst 1, 1) := by decide +kernel
theorem dL_law_525 : decode cL_law 525 = .ok (.iadd, 1) := by decide +kernel
theorem dL_law_526 : decode cL_law 526 = .ok (.iaload, 1) := by decide +kernel
theorem dL_law_527 : decode cL_law 527 = .ok (.aload_n 0, 1) := by decide +kernel
theorem dL_law_528 : decode cL_law 528 = .ok (.iload_n 3, 1) := by decide +kernel
theorem dL_law_529 : decode cL_law 529 = .ok (.iconst 2, 1) := by decide +kernel
theorem dL_law_530 : decode cL_law 530 = .ok (.iadd, 1) := by decide +kernel
theorem dL_law_531 : decode cL_law 531 = .ok (.iaload, 1) := by decide +kernel
theorem dL_law_532 : decode cL_law 532 = .ok (.invokevirtual 74, 3) := by decide +kernel
theorem dL_law_535 : decode cL_law 535 = .ok (.if_icmp .eq 123, 3) := by decide +kernel
theorem dL_law_538 : decode cL_law 538 = .ok (.iconst 0, 1) := by decide +kernel
theorem dL_law_539 : decode cL_law 539 = .ok (.ireturn, 1) := by decide +kernel
theorem dL_law_540 : decode cL_law 540 = .ok (.aload_n 1, 1) := by decide +kernel
theorem dL_law_541 : decode cL_law 541 = .ok (.aload_n 0, 1) := by decide +kernel
theorem dL_law_542 : decode cL_law 542 = .ok (.iload_n 3, 1) := by decide +kernel
theorem dL_law_543 : decode cL_law 543 = .ok (.iconst 1, 1) := by decide +kernel
theorem dL_law_544 : decode cL_law 544 = .ok (.iadd, 1) := by decide +kernel
theorem dL_law_545 : decode cL_law 545 = .ok (.iaload, 1) := by decide +kernel
theorem dL_law_546 : decode cL_law 546 = .ok (.invokevirtual 75, 3) := by decide +kernel
theorem dL_law_549 : decode cL_law 549 = .ok (.aload_n 2, 1) := by decide +kernel
theorem dL_law_550 : decode cL_law 550 = .ok (.aload_n 0, 1) := by decide +kernel
theorem dL_law_551 : decode cL_law 551 = .ok (.iload_n 3, 1) := by decide +kernel
theorem dL_law_552 : decode cL_law 552 = .ok (.iconst 1, 1) := by decide +kernel
theorem dL_law_553 : decode cL_law 553 = .ok (.iadd, 1) := by decide +kernel
theorem dL_law_554 : decode cL_law 554 = .ok (.iaload, 1) := by decide +kernel
theorem dL_law_555 : decode cL_law 555 = .ok (.invokevirtual 78, 3) := by decide +kernel
theorem dL_law_558 : decode cL_law 558 = .ok (.if_icmp .eq 100, 3) := by decide +kernel
theorem dL_law_561 : decode cL_law 561 = .ok (.iconst 0, 1) := by decide +kernel
theorem dL_law_562 : decode cL_law 562 = .ok (.ireturn, 1) := by decide +kernel
theorem dL_law_563 : decode cL_law 563 = .ok (.aload_n 1, 1) := by decide +kernel
theorem dL_law_564 : decode cL_law 564 = .ok (.invokevirtual 79, 3) := by decide +kernel
theorem dL_law_567 : decode cL_law 567 = .ok (.aload_n 2, 1) := by decide +kernel
theorem dL_law_568 : decode cL_law 568 = .ok (.invokevirtual 82, 3) := by decide +kernel
theorem dL_law_571 : decode cL_law 571 = .ok (.if_icmp .eq 87, 3) := by decide +kernel
theorem dL_law_574 : decode cL_law 574 = .ok (.iconst 0, 1) := by decide +kernel
theorem dL_law_575 : decode cL_law 575 = .ok (.ireturn, 1) := by decide +kernel
theorem dL_law_576 : decode cL_law 576 = .ok (.aload_n 1, 1) := by decide +kernel
theorem dL_law_577 : decode cL_law 577 = .ok (.aload_n 0, 1) := by decide +kernel
theorem dL_law_578 : decode cL_law 578 = .ok (.iload_n 3, 1) := by decide +kernel
theorem dL_law_579 : decode cL_law 579 = .ok (.iconst 1, 1) := by decide +kernel
theorem dL_law_580 : decode cL_law 580 = .ok (.iadd, 1) := by decide +kernel
theorem dL_law_581 : decode cL_law 581 = .ok (.iaload, 1) := by decide +kernel
theorem dL_law_582 : decode cL_law 582 = .ok (.invokevirtual 83, 3) := by decide +kernel
theorem dL_law_585 : decode cL_law 585 = .ok (.aload_n 2, 1) := by decide +kernel
theorem dL_law_586 : decode cL_law 586 = .ok (.aload_n 0, 1) := by decide +kernel
theorem dL_law_587 : decode cL_law 587 = .ok (.iload_n 3, 1) := by decide +kernel
theorem dL_law_588 : decode cL_law 588 = .ok (.iconst 1, 1) := by decide +kernel
theorem dL_law_589 : decode cL_law 589 = .ok (.iadd, 1) := by decide +kernel
theorem dL_law_590 : decode cL_law 590 = .ok (.iaload, 1) := by decide +kernel
theorem dL_law_591 : decode cL_law 591 = .ok (.invokevirtual 86, 3) := by decide +kernel
theorem dL_law_594 : decode cL_law 594 = .ok (.if_icmp .eq 64, 3) := by decide +kernel
theorem dL_law_597 : decode cL_law 597 = .ok (.iconst 0, 1) := by decide +kernel
theorem dL_law_598 : decode cL_law 598 = .ok (.ireturn, 1) := by decide +kernel
theorem dL_law_599 : decode cL_law 599 = .ok (.aload_n 1, 1) := by decide +kernel
theorem dL_law_600 : decode cL_law 600 = .ok (.aload_n 0, 1) := by decide +kernel
theorem dL_law_601 : decode cL_law 601 = .ok (.iload_n 3, 1) := by decide +kernel
theorem dL_law_602 : decode cL_law 602 = .ok (.iconst 1, 1) := by decide +kernel
theorem dL_law_603 : decode cL_law 603 = .ok (.iadd, 1) := by decide +kernel
theorem dL_law_604 : decode cL_law 604 = .ok (.iaload, 1) := by decide +kernel
theorem dL_law_605 : decode cL_law 605 = .ok (.invokevirtual 87, 3) := by decide +kernel
theorem dL_law_608 : decode cL_law 608 = .ok (.aload_n 2, 1) := by decide +kernel
theorem dL_law_609 : decode cL_law 609 = .ok (.aload_n 0, 1) := by decide +kernel
theorem dL_law_610 : decode cL_law 610 = .ok (.iload_n 3, 1) := by decide +kernel
theorem dL_law_611 : decode cL_law 611 = .ok (.iconst 1, 1) := by decide +kernel
theorem dL_law_612 : decode cL_law 612 = .ok (.iadd, 1) := by decide +kernel
theorem dL_law_613 : decode cL_law 613 = .ok (.iaload, 1) := by decide +kernel
theorem dL_law_614 : decode cL_law 614 = .ok (.invokevirtual 90, 3) := by decide +kernel
theorem dL_law_617 : decode cL_law 617 = .ok (.if_icmp .eq 41, 3) := by decide +kernel
theorem dL_law_620 : decode cL_law 620 = .ok (.iconst 0, 1) := by decide +kernel
theorem dL_law_621 : decode cL_law 621 = .ok (.ireturn, 1) := by decide +kernel
theorem dL_law_622 : decode cL_law 622 = .ok (.aload_n 1, 1) := by decide +kernel
theorem dL_law_623 : decode cL_law 623 = .ok (.aload_n 0, 1) := by decide +kernel
theorem dL_law_624 : decode cL_law 624 = .ok (.iload_n 3, 1) := by decide +kernel
theorem dL_law_625 : decode cL_law 625 = .ok (.iconst 1, 1) := by decide +kernel
theorem dL_law_626 : decode cL_law 626 = .ok (.iadd, 1) := by decide +kernel
theorem dL_law_627 : decode cL_law 627 = .ok (.iaload, 1) := by decide +kernel
theorem dL_law_628 : decode cL_law 628 = .ok (.invokevirtual 91, 3) := by decide +kernel
theorem dL_law_631 : decode cL_law 631 = .ok (.aload_n 2, 1) := by decide +kernel
theorem dL_law_632 : decode cL_law 632 = .ok (.aload_n 0, 1) := by decide +kernel
theorem dL_law_633 : decode cL_law 633 = .ok (.iload_n 3, 1) := by decide +kernel
theorem dL_law_634 : decode cL_law 634 = .ok (.iconst 1, 1) := by decide +kernel
theorem dL_law_635 : decode cL_law 635 = .ok (.iadd, 1) := by decide +kernel
theorem dL_law_636 : decode cL_law 636 = .ok (.iaload, 1) := by decide +kernel
theorem dL_law_637 : decode cL_law 637 = .ok (.invokevirtual 94, 3) := by decide +kernel
theorem dL_law_640 : decode cL_law 640 = .ok (.if_icmp .eq 18, 3) := by decide +kernel
theorem dL_law_643 : decode cL_law 643 = .ok (.iconst 0, 1) := by decide +kernel
theorem dL_law_644 : decode cL_law 644 = .ok (.ireturn, 1) := by decide +kernel
theorem dL_law_645 : decode cL_law 645 = .ok (.aload_n 1, 1) := by decide +kernel
theorem dL_law_646 : decode cL_law 646 = .ok (.invokevirtual 95, 3) := by decide +kernel
theorem dL_law_649 : decode cL_law 649 = .ok (.aload_n 2, 1) := by decide +kernel
theorem dL_law_650 : decode cL_law 650 = .ok (.invokevirtual 98, 3) := by decide +kernel
theorem dL_law_653 : decode cL_law 653 = .ok (.if_icmp .eq 5, 3) := by decide +kernel
theorem dL_law_656 : decode cL_law 656 = .ok (.iconst 0, 1) := by decide +kernel
theorem dL_law_657 : decode cL_law 657 = .ok (.ireturn, 1) := by decide +kernel
theorem dL_law_658 : decode cL_law 658 = .ok (.iinc 3 4, 3) := by decide +kernel
theorem dL_law_661 : decode cL_law 661 = .ok (.goto (-643), 3) := by decide +kernel
theorem dL_law_664 : decode cL_law 664 = .ok (.iconst 1, 1) := by decide +kernel
theorem dL_law_665 : decode cL_law 665 = .ok (.ireturn, 1) := by decide +kernel
