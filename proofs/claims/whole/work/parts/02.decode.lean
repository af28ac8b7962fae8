theorem dX0_init_0 : decode cX0_init 0 = .ok (.aload_n 0, 1) := by decide +kernel
theorem dX0_init_1 : decode cX0_init 1 = .ok (.invokespecial 3, 3) := by decide +kernel
theorem dX0_init_4 : decode cX0_init 4 = .ok (.aload_n 0, 1) := by decide +kernel
theorem dX0_init_5 : decode cX0_init 5 = .ok (.sipush 192, 3) := by decide +kernel
theorem dX0_init_8 : decode cX0_init 8 = .ok (.newarray .byte, 2) := by decide +kernel
theorem dX0_init_10 : decode cX0_init 10 = .ok (.putfield 11, 3) := by decide +kernel
theorem dX0_init_13 : decode cX0_init 13 = .ok (.aload_n 0, 1) := by decide +kernel
theorem dX0_init_14 : decode cX0_init 14 = .ok (.bipush 64, 2) := by decide +kernel
theorem dX0_init_16 : decode cX0_init 16 = .ok (.newarray .int, 2) := by decide +kernel
theorem dX0_init_18 : decode cX0_init 18 = .ok (.putfield 15, 3) := by decide +kernel
theorem dX0_init_21 : decode cX0_init 21 = .ok (.aload_n 0, 1) := by decide +kernel
theorem dX0_init_22 : decode cX0_init 22 = .ok (.bipush 8, 2) := by decide +kernel
theorem dX0_init_24 : decode cX0_init 24 = .ok (.newarray .int, 2) := by decide +kernel
theorem dX0_init_26 : decode cX0_init 26 = .ok (.putfield 19, 3) := by decide +kernel
theorem dX0_init_29 : decode cX0_init 29 = .ok (.aload_n 0, 1) := by decide +kernel
theorem dX0_init_30 : decode cX0_init 30 = .ok (.iconst 0, 1) := by decide +kernel
theorem dX0_init_31 : decode cX0_init 31 = .ok (.putfield 22, 3) := by decide +kernel
theorem dX0_init_34 : decode cX0_init 34 = .ok (.return_, 1) := by decide +kernel
theorem dX0_begin_0 : decode cX0_begin 0 = .ok (.aload_n 0, 1) := by decide +kernel
theorem dX0_begin_1 : decode cX0_begin 1 = .ok (.iconst 0, 1) := by decide +kernel
theorem dX0_begin_2 : decode cX0_begin 2 = .ok (.putfield 22, 3) := by decide +kernel
theorem dX0_begin_5 : decode cX0_begin 5 = .ok (.return_, 1) := by decide +kernel
theorem dX0_takeByte_0 : decode cX0_takeByte 0 = .ok (.aload_n 0, 1) := by decide +kernel
theorem dX0_takeByte_1 : decode cX0_takeByte 1 = .ok (.getfield 22, 3) := by decide +kernel
theorem dX0_takeByte_4 : decode cX0_takeByte 4 = .ok (.sipush 192, 3) := by decide +kernel
theorem dX0_takeByte_7 : decode cX0_takeByte 7 = .ok (.if_icmp .ge 24, 3) := by decide +kernel
theorem dX0_takeByte_10 : decode cX0_takeByte 10 = .ok (.aload_n 0, 1) := by decide +kernel
theorem dX0_takeByte_11 : decode cX0_takeByte 11 = .ok (.getfield 11, 3) := by decide +kernel
theorem dX0_takeByte_14 : decode cX0_takeByte 14 = .ok (.aload_n 0, 1) := by decide +kernel
theorem dX0_takeByte_15 : decode cX0_takeByte 15 = .ok (.getfield 22, 3) := by decide +kernel
theorem dX0_takeByte_18 : decode cX0_takeByte 18 = .ok (.iload_n 1, 1) := by decide +kernel
theorem dX0_takeByte_19 : decode cX0_takeByte 19 = .ok (.i2b, 1) := by decide +kernel
theorem dX0_takeByte_20 : decode cX0_takeByte 20 = .ok (.bastore, 1) := by decide +kernel
theorem dX0_takeByte_21 : decode cX0_takeByte 21 = .ok (.aload_n 0, 1) := by decide +kernel
theorem dX0_takeByte_22 : decode cX0_takeByte 22 = .ok (.dup, 1) := by decide +kernel
theorem dX0_takeByte_23 : decode cX0_takeByte 23 = .ok (.getfield 22, 3) := by decide +kernel
theorem dX0_takeByte_26 : decode cX0_takeByte 26 = .ok (.iconst 1, 1) := by decide +kernel
theorem dX0_takeByte_27 : decode cX0_takeByte 27 = .ok (.iadd, 1) := by decide +kernel
theorem dX0_takeByte_28 : decode cX0_takeByte 28 = .ok (.putfield 22, 3) := by decide +kernel
theorem dX0_takeByte_31 : decode cX0_takeByte 31 = .ok (.return_, 1) := by decide +kernel
theorem dX0_takeBytes_0 : decode cX0_takeBytes 0 = .ok (.iconst 0, 1) := by decide +kernel
theorem dX0_takeBytes_1 : decode cX0_takeBytes 1 = .ok (.istore_n 3, 1) := by decide +kernel
theorem dX0_takeBytes_2 : decode cX0_takeBytes 2 = .ok (.iload_n 3, 1) := by decide +kernel
theorem dX0_takeBytes_3 : decode cX0_takeBytes 3 = .ok (.iload_n 2, 1) := by decide +kernel
theorem dX0_takeBytes_4 : decode cX0_takeBytes 4 = .ok (.if_icmp .ge 22, 3) := by decide +kernel
theorem dX0_takeBytes_7 : decode cX0_takeBytes 7 = .ok (.iload_n 3, 1) := by decide +kernel
theorem dX0_takeBytes_8 : decode cX0_takeBytes 8 = .ok (.aload_n 1, 1) := by decide +kernel
theorem dX0_takeBytes_9 : decode cX0_takeBytes 9 = .ok (.arraylength, 1) := by decide +kernel
theorem dX0_takeBytes_10 : decode cX0_takeBytes 10 = .ok (.if_icmp .ge 16, 3) := by decide +kernel
theorem dX0_takeBytes_13 : decode cX0_takeBytes 13 = .ok (.aload_n 0, 1) := by decide +kernel
theorem dX0_takeBytes_14 : decode cX0_takeBytes 14 = .ok (.aload_n 1, 1) := by decide +kernel
theorem dX0_takeBytes_15 : decode cX0_takeBytes 15 = .ok (.iload_n 3, 1) := by decide +kernel
theorem dX0_takeBytes_16 : decode cX0_takeBytes 16 = .ok (.baload, 1) := by decide +kernel
theorem dX0_takeBytes_17 : decode cX0_takeBytes 17 = .ok (.invokevirtual 26, 3) := by decide +kernel
theorem dX0_takeBytes_20 : decode cX0_takeBytes 20 = .ok (.iinc 3 1, 3) := by decide +kernel
theorem dX0_takeBytes_23 : decode cX0_takeBytes 23 = .ok (.goto (-21), 3) := by decide +kernel
theorem dX0_takeBytes_26 : decode cX0_takeBytes 26 = .ok (.return_, 1) := by decide +kernel
theorem dX0_takeId_0 : decode cX0_takeId 0 = .ok (.iload_n 2, 1) := by decide +kernel
theorem dX0_takeId_1 : decode cX0_takeId 1 = .ok (.ifCond .lt 12, 3) := by decide +kernel
theorem dX0_takeId_4 : decode cX0_takeId 4 = .ok (.iload_n 2, 1) := by decide +kernel
theorem dX0_takeId_5 : decode cX0_takeId 5 = .ok (.bipush 8, 2) := by decide +kernel
theorem dX0_takeId_7 : decode cX0_takeId 7 = .ok (.iadd, 1) := by decide +kernel
theorem dX0_takeId_8 : decode cX0_takeId 8 = .ok (.aload_n 1, 1) := by decide +kernel
theorem dX0_takeId_9 : decode cX0_takeId 9 = .ok (.arraylength, 1) := by decide +kernel
theorem dX0_takeId_10 : decode cX0_takeId 10 = .ok (.if_icmp .le 4, 3) := by decide +kernel
theorem dX0_takeId_13 : decode cX0_takeId 13 = .ok (.return_, 1) := by decide +kernel
theorem dX0_takeId_14 : decode cX0_takeId 14 = .ok (.iconst 0, 1) := by decide +kernel
theorem dX0_takeId_15 : decode cX0_takeId 15 = .ok (.istore_n 3, 1) := by decide +kernel
theorem dX0_takeId_16 : decode cX0_takeId 16 = .ok (.iload_n 3, 1) := by decide +kernel
theorem dX0_takeId_17 : decode cX0_takeId 17 = .ok (.bipush 8, 2) := by decide +kernel
theorem dX0_takeId_19 : decode cX0_takeId 19 = .ok (.if_icmp .ge 18, 3) := by decide +kernel
theorem dX0_takeId_22 : decode cX0_takeId 22 = .ok (.aload_n 0, 1) := by decide +kernel
theorem dX0_takeId_23 : decode cX0_takeId 23 = .ok (.aload_n 1, 1) := by decide +kernel
theorem dX0_takeId_24 : decode cX0_takeId 24 = .ok (.iload_n 2, 1) := by decide +kernel
theorem dX0_takeId_25 : decode cX0_takeId 25 = .ok (.iload_n 3, 1) := by decide +kernel
theorem dX0_takeId_26 : decode cX0_takeId 26 = .ok (.iadd, 1) := by decide +kernel
theorem dX0_takeId_27 : decode cX0_takeId 27 = .ok (.iaload, 1) := by decide +kernel
theorem dX0_takeId_28 : decode cX0_takeId 28 = .ok (.invokevirtual 30, 3) := by decide +kernel
theorem dX0_takeId_31 : decode cX0_takeId 31 = .ok (.iinc 3 1, 3) := by decide +kernel
theorem dX0_takeId_34 : decode cX0_takeId 34 = .ok (.goto (-18), 3) := by decide +kernel
theorem dX0_takeId_37 : decode cX0_takeId 37 = .ok (.return_, 1) := by decide +kernel
theorem dX0_takeWord_0 : decode cX0_takeWord 0 = .ok (.aload_n 0, 1) := by decide +kernel
theorem dX0_takeWord_1 : decode cX0_takeWord 1 = .ok (.iload_n 1, 1) := by decide +kernel
theorem dX0_takeWord_2 : decode cX0_takeWord 2 = .ok (.bipush 24, 2) := by decide +kernel
theorem dX0_takeWord_4 : decode cX0_takeWord 4 = .ok (.iushr, 1) := by decide +kernel
theorem dX0_takeWord_5 : decode cX0_takeWord 5 = .ok (.invokevirtual 26, 3) := by decide +kernel
theorem dX0_takeWord_8 : decode cX0_takeWord 8 = .ok (.aload_n 0, 1) := by decide +kernel
theorem dX0_takeWord_9 : decode cX0_takeWord 9 = .ok (.iload_n 1, 1) := by decide +kernel
theorem dX0_takeWord_10 : decode cX0_takeWord 10 = .ok (.bipush 16, 2) := by decide +kernel
theorem dX0_takeWord_12 : decode cX0_takeWord 12 = .ok (.iushr, 1) := by decide +kernel
theorem dX0_takeWord_13 : decode cX0_takeWord 13 = .ok (.invokevirtual 26, 3) := by decide +kernel
theorem dX0_takeWord_16 : decode cX0_takeWord 16 = .ok (.aload_n 0, 1) := by decide +kernel
theorem dX0_takeWord_17 : decode cX0_takeWord 17 = .ok (.iload_n 1, 1) := by decide +kernel
theorem dX0_takeWord_18 : decode cX0_takeWord 18 = .ok (.bipush 8, 2) := by decide +kernel
theorem dX0_takeWord_20 : decode cX0_takeWord 20 = .ok (.iushr, 1) := by decide +kernel
theorem dX0_takeWord_21 : decode cX0_takeWord 21 = .ok (.invokevirtual 26, 3) := by decide +kernel
theorem dX0_takeWord_24 : decode cX0_takeWord 24 = .ok (.aload_n 0, 1) := by decide +kernel
theorem dX0_takeWord_25 : decode cX0_takeWord 25 = .ok (.iload_n 1, 1) := by decide +kernel
theorem dX0_takeWord_26 : decode cX0_takeWord 26 = .ok (.invokevirtual 26, 3) := by decide +kernel
theorem dX0_takeWord_29 : decode cX0_takeWord 29 = .ok (.return_, 1) := by decide +kernel
theorem dX0_finishInto_0 : decode cX0_finishInto 0 = .ok (.aload_n 0, 1) := by decide +kernel
theorem dX0_finishInto_1 : decode cX0_finishInto 1 = .ok (.invokevirtual 33, 3) := by decide +kernel
theorem dX0_finishInto_4 : decode cX0_finishInto 4 = .ok (.iconst 0, 1) := by decide +kernel
theorem dX0_finishInto_5 : decode cX0_finishInto 5 = .ok (.istore_n 3, 1) := by decide +kernel
theorem dX0_finishInto_6 : decode cX0_finishInto 6 = .ok (.iload_n 3, 1) := by decide +kernel
theorem dX0_finishInto_7 : decode cX0_finishInto 7 = .ok (.bipush 8, 2) := by decide +kernel
theorem dX0_finishInto_9 : decode cX0_finishInto 9 = .ok (.if_icmp .ge 20, 3) := by decide +kernel
theorem dX0_finishInto_12 : decode cX0_finishInto 12 = .ok (.aload_n 0, 1) := by decide +kernel
theorem dX0_finishInto_13 : decode cX0_finishInto 13 = .ok (.getfield 19, 3) := by decide +kernel
theorem dX0_finishInto_16 : decode cX0_finishInto 16 = .ok (.iload_n 3, 1) := by decide +kernel
theorem dX0_finishInto_17 : decode cX0_finishInto 17 = .ok (.getstatic 36, 3) := by decide +kernel
theorem dX0_finishInto_20 : decode cX0_finishInto 20 = .ok (.iload_n 3, 1) := by decide +kernel
theorem dX0_finishInto_21 : decode cX0_finishInto 21 = .ok (.iaload, 1) := by decide +kernel
theorem dX0_finishInto_22 : decode cX0_finishInto 22 = .ok (.iastore, 1) := by decide +kernel
theorem dX0_finishInto_23 : decode cX0_finishInto 23 = .ok (.iinc 3 1, 3) := by decide +kernel
theorem dX0_finishInto_26 : decode cX0_finishInto 26 = .ok (.goto (-20), 3) := by decide +kernel
theorem dX0_finishInto_29 : decode cX0_finishInto 29 = .ok (.iconst 0, 1) := by decide +kernel
theorem dX0_finishInto_30 : decode cX0_finishInto 30 = .ok (.istore_n 3, 1) := by decide +kernel
theorem dX0_finishInto_31 : decode cX0_finishInto 31 = .ok (.iload_n 3, 1) := by decide +kernel
theorem dX0_finishInto_32 : decode cX0_finishInto 32 = .ok (.bipush 64, 2) := by decide +kernel
theorem dX0_finishInto_34 : decode cX0_finishInto 34 = .ok (.iadd, 1) := by decide +kernel
theorem dX0_finishInto_35 : decode cX0_finishInto 35 = .ok (.aload_n 0, 1) := by decide +kernel
theorem dX0_finishInto_36 : decode cX0_finishInto 36 = .ok (.getfield 22, 3) := by decide +kernel
theorem dX0_finishInto_39 : decode cX0_finishInto 39 = .ok (.if_icmp .gt 18, 3) := by decide +kernel
theorem dX0_finishInto_42 : decode cX0_finishInto 42 = .ok (.aload_n 0, 1) := by decide +kernel
theorem dX0_finishInto_43 : decode cX0_finishInto 43 = .ok (.iload_n 3, 1) := by decide +kernel
theorem dX0_finishInto_44 : decode cX0_finishInto 44 = .ok (.invokevirtual 39, 3) := by decide +kernel
theorem dX0_finishInto_47 : decode cX0_finishInto 47 = .ok (.aload_n 0, 1) := by decide +kernel
theorem dX0_finishInto_48 : decode cX0_finishInto 48 = .ok (.invokevirtual 42, 3) := by decide +kernel
theorem dX0_finishInto_51 : decode cX0_finishInto 51 = .ok (.iinc 3 64, 3) := by decide +kernel
theorem dX0_finishInto_54 : decode cX0_finishInto 54 = .ok (.goto (-23), 3) := by decide +kernel
theorem dX0_finishInto_57 : decode cX0_finishInto 57 = .ok (.iload_n 2, 1) := by decide +kernel
theorem dX0_finishInto_58 : decode cX0_finishInto 58 = .ok (.ifCond .lt 12, 3) := by decide +kernel
theorem dX0_finishInto_61 : decode cX0_finishInto 61 = .ok (.iload_n 2, 1) := by decide +kernel
theorem dX0_finishInto_62 : decode cX0_finishInto 62 = .ok (.bipush 8, 2) := by decide +kernel
theorem dX0_finishInto_64 : decode cX0_finishInto 64 = .ok (.iadd, 1) := by decide +kernel
theorem dX0_finishInto_65 : decode cX0_finishInto 65 = .ok (.aload_n 1, 1) := by decide +kernel
theorem dX0_finishInto_66 : decode cX0_finishInto 66 = .ok (.arraylength, 1) := by decide +kernel
theorem dX0_finishInto_67 : decode cX0_finishInto 67 = .ok (.if_icmp .le 4, 3) := by decide +kernel
theorem dX0_finishInto_70 : decode cX0_finishInto 70 = .ok (.return_, 1) := by decide +kernel
theorem dX0_finishInto_71 : decode cX0_finishInto 71 = .ok (.iconst 0, 1) := by decide +kernel
theorem dX0_finishInto_72 : decode cX0_finishInto 72 = .ok (.istore_n 3, 1) := by decide +kernel
theorem dX0_finishInto_73 : decode cX0_finishInto 73 = .ok (.iload_n 3, 1) := by decide +kernel
theorem dX0_finishInto_74 : decode cX0_finishInto 74 = .ok (.bipush 8, 2) := by decide +kernel
theorem dX0_finishInto_76 : decode cX0_finishInto 76 = .ok (.if_icmp .ge 20, 3) := by decide +kernel
theorem dX0_finishInto_79 : decode cX0_finishInto 79 = .ok (.aload_n 1, 1) := by decide +kernel
theorem dX0_finishInto_80 : decode cX0_finishInto 80 = .ok (.iload_n 2, 1) := by decide +kernel
theorem dX0_finishInto_81 : decode cX0_finishInto 81 = .ok (.iload_n 3, 1) := by decide +kernel
theorem dX0_finishInto_82 : decode cX0_finishInto 82 = .ok (.iadd, 1) := by decide +kernel
theorem dX0_finishInto_83 : decode cX0_finishInto 83 = .ok (.aload_n 0, 1) := by decide +kernel
theorem dX0_finishInto_84 : decode cX0_finishInto 84 = .ok (.getfield 19, 3) := by decide +kernel
theorem dX0_finishInto_87 : decode cX0_finishInto 87 = .ok (.iload_n 3, 1) := by decide +kernel
theorem dX0_finishInto_88 : decode cX0_finishInto 88 = .ok (.iaload, 1) := by decide +kernel
theorem dX0_finishInto_89 : decode cX0_finishInto 89 = .ok (.iastore, 1) := by decide +kernel
theorem dX0_finishInto_90 : decode cX0_finishInto 90 = .ok (.iinc 3 1, 3) := by decide +kernel
theorem dX0_finishInto_93 : decode cX0_finishInto 93 = .ok (.goto (-20), 3) := by decide +kernel
theorem dX0_finishInto_96 : decode cX0_finishInto 96 = .ok (.return_, 1) := by decide +kernel
theorem dX0_pad_0 : decode cX0_pad 0 = .ok (.ldc2_w 45, 3) := by decide +kernel
theorem dX0_pad_3 : decode cX0_pad 3 = .ok (.aload_n 0, 1) := by decide +kernel
theorem dX0_pad_4 : decode cX0_pad 4 = .ok (.getfield 22, 3) := by decide +kernel
theorem dX0_pad_7 : decode cX0_pad 7 = .ok (.i2l, 1) := by decide +kernel
theorem dX0_pad_8 : decode cX0_pad 8 = .ok (.lmul, 1) := by decide +kernel
theorem dX0_pad_9 : decode cX0_pad 9 = .ok (.lstore_n 1, 1) := by decide +kernel
theorem dX0_pad_10 : decode cX0_pad 10 = .ok (.aload_n 0, 1) := by decide +kernel
theorem dX0_pad_11 : decode cX0_pad 11 = .ok (.sipush 128, 3) := by decide +kernel
theorem dX0_pad_14 : decode cX0_pad 14 = .ok (.invokevirtual 26, 3) := by decide +kernel
theorem dX0_pad_17 : decode cX0_pad 17 = .ok (.iconst 0, 1) := by decide +kernel
theorem dX0_pad_18 : decode cX0_pad 18 = .ok (.istore_n 3, 1) := by decide +kernel
theorem dX0_pad_19 : decode cX0_pad 19 = .ok (.iload_n 3, 1) := by decide +kernel
theorem dX0_pad_20 : decode cX0_pad 20 = .ok (.bipush 64, 2) := by decide +kernel
theorem dX0_pad_22 : decode cX0_pad 22 = .ok (.if_icmp .ge 26, 3) := by decide +kernel
theorem dX0_pad_25 : decode cX0_pad 25 = .ok (.aload_n 0, 1) := by decide +kernel
theorem dX0_pad_26 : decode cX0_pad 26 = .ok (.getfield 22, 3) := by decide +kernel
theorem dX0_pad_29 : decode cX0_pad 29 = .ok (.bipush 64, 2) := by decide +kernel
theorem dX0_pad_31 : decode cX0_pad 31 = .ok (.irem, 1) := by decide +kernel
theorem dX0_pad_32 : decode cX0_pad 32 = .ok (.bipush 56, 2) := by decide +kernel
theorem dX0_pad_34 : decode cX0_pad 34 = .ok (.if_icmp .eq 14, 3) := by decide +kernel
theorem dX0_pad_37 : decode cX0_pad 37 = .ok (.aload_n 0, 1) := by decide +kernel
theorem dX0_pad_38 : decode cX0_pad 38 = .ok (.iconst 0, 1) := by decide +kernel
theorem dX0_pad_39 : decode cX0_pad 39 = .ok (.invokevirtual 26, 3) := by decide +kernel
theorem dX0_pad_42 : decode cX0_pad 42 = .ok (.iinc 3 1, 3) := by decide +kernel
theorem dX0_pad_45 : decode cX0_pad 45 = .ok (.goto (-26), 3) := by decide +kernel
theorem dX0_pad_48 : decode cX0_pad 48 = .ok (.bipush 56, 2) := by decide +kernel
theorem dX0_pad_50 : decode cX0_pad 50 = .ok (.istore_n 3, 1) := by decide +kernel
theorem dX0_pad_51 : decode cX0_pad 51 = .ok (.iload_n 3, 1) := by decide +kernel
theorem dX0_pad_52 : decode cX0_pad 52 = .ok (.ifCond .lt 17, 3) := by decide +kernel
theorem dX0_pad_55 : decode cX0_pad 55 = .ok (.aload_n 0, 1) := by decide +kernel
theorem dX0_pad_56 : decode cX0_pad 56 = .ok (.lload_n 1, 1) := by decide +kernel
theorem dX0_pad_57 : decode cX0_pad 57 = .ok (.iload_n 3, 1) := by decide +kernel
theorem dX0_pad_58 : decode cX0_pad 58 = .ok (.lushr, 1) := by decide +kernel
theorem dX0_pad_59 : decode cX0_pad 59 = .ok (.l2i, 1) := by decide +kernel
theorem dX0_pad_60 : decode cX0_pad 60 = .ok (.invokevirtual 26, 3) := by decide +kernel
theorem dX0_pad_63 : decode cX0_pad 63 = .ok (.iinc 3 (-8), 3) := by decide +kernel
theorem dX0_pad_66 : decode cX0_pad 66 = .ok (.goto (-15), 3) := by decide +kernel
theorem dX0_pad_69 : decode cX0_pad 69 = .ok (.return_, 1) := by decide +kernel
theorem dX0_fillSchedule_0 : decode cX0_fillSchedule 0 = .ok (.iconst 0, 1) := by decide +kernel
theorem dX0_fillSchedule_1 : decode cX0_fillSchedule 1 = .ok (.istore_n 2, 1) := by decide +kernel
theorem dX0_fillSchedule_2 : decode cX0_fillSchedule 2 = .ok (.iload_n 2, 1) := by decide +kernel
theorem dX0_fillSchedule_3 : decode cX0_fillSchedule 3 = .ok (.bipush 16, 2) := by decide +kernel
theorem dX0_fillSchedule_5 : decode cX0_fillSchedule 5 = .ok (.if_icmp .ge 79, 3) := by decide +kernel
theorem dX0_fillSchedule_8 : decode cX0_fillSchedule 8 = .ok (.iload_n 1, 1) := by decide +kernel
theorem dX0_fillSchedule_9 : decode cX0_fillSchedule 9 = .ok (.iconst 4, 1) := by decide +kernel
theorem dX0_fillSchedule_10 : decode cX0_fillSchedule 10 = .ok (.iload_n 2, 1) := by decide +kernel
theorem dX0_fillSchedule_11 : decode cX0_fillSchedule 11 = .ok (.imul, 1) := by decide +kernel
theorem dX0_fillSchedule_12 : decode cX0_fillSchedule 12 = .ok (.iadd, 1) := by decide +kernel
theorem dX0_fillSchedule_13 : decode cX0_fillSchedule 13 = .ok (.istore_n 3, 1) := by decide +kernel
theorem dX0_fillSchedule_14 : decode cX0_fillSchedule 14 = .ok (.aload_n 0, 1) := by decide +kernel
theorem dX0_fillSchedule_15 : decode cX0_fillSchedule 15 = .ok (.getfield 15, 3) := by decide +kernel
theorem dX0_fillSchedule_18 : decode cX0_fillSchedule 18 = .ok (.iload_n 2, 1) := by decide +kernel
theorem dX0_fillSchedule_19 : decode cX0_fillSchedule 19 = .ok (.aload_n 0, 1) := by decide +kernel
theorem dX0_fillSchedule_20 : decode cX0_fillSchedule 20 = .ok (.getfield 11, 3) := by decide +kernel
theorem dX0_fillSchedule_23 : decode cX0_fillSchedule 23 = .ok (.iload_n 3, 1) := by decide +kernel
theorem dX0_fillSchedule_24 : decode cX0_fillSchedule 24 = .ok (.baload, 1) := by decide +kernel
theorem dX0_fillSchedule_25 : decode cX0_fillSchedule 25 = .ok (.sipush 255, 3) := by decide +kernel
theorem dX0_fillSchedule_28 : decode cX0_fillSchedule 28 = .ok (.iand, 1) := by decide +kernel
theorem dX0_fillSchedule_29 : decode cX0_fillSchedule 29 = .ok (.bipush 24, 2) := by decide +kernel
theorem dX0_fillSchedule_31 : decode cX0_fillSchedule 31 = .ok (.ishl, 1) := by decide +kernel
theorem dX0_fillSchedule_32 : decode cX0_fillSchedule 32 = .ok (.aload_n 0, 1) := by decide +kernel
theorem dX0_fillSchedule_33 : decode cX0_fillSchedule 33 = .ok (.getfield 11, 3) := by decide +kernel
theorem dX0_fillSchedule_36 : decode cX0_fillSchedule 36 = .ok (.iload_n 3, 1) := by decide +kernel
theorem dX0_fillSchedule_37 : decode cX0_fillSchedule 37 = .ok (.iconst 1, 1) := by decide +kernel
theorem dX0_fillSchedule_38 : decode cX0_fillSchedule 38 = .ok (.iadd, 1) := by decide +kernel
theorem dX0_fillSchedule_39 : decode cX0_fillSchedule 39 = .ok (.baload, 1) := by decide +kernel
theorem dX0_fillSchedule_40 : decode cX0_fillSchedule 40 = .ok (.sipush 255, 3) := by decide +kernel
theorem dX0_fillSchedule_43 : decode cX0_fillSchedule 43 = .ok (.iand, 1) := by decide +kernel
theorem dX0_fillSchedule_44 : decode cX0_fillSchedule 44 = .ok (.bipush 16, 2) := by decide +kernel
theorem dX0_fillSchedule_46 : decode cX0_fillSchedule 46 = .ok (.ishl, 1) := by decide +kernel
theorem dX0_fillSchedule_47 : decode cX0_fillSchedule 47 = .ok (.ior, 1) := by decide +kernel
theorem dX0_fillSchedule_48 : decode cX0_fillSchedule 48 = .ok (.aload_n 0, 1) := by decide +kernel
theorem dX0_fillSchedule_49 : decode cX0_fillSchedule 49 = .ok (.getfield 11, 3) := by decide +kernel
theorem dX0_fillSchedule_52 : decode cX0_fillSchedule 52 = .ok (.iload_n 3, 1) := by decide +kernel
theorem dX0_fillSchedule_53 : decode cX0_fillSchedule 53 = .ok (.iconst 2, 1) := by decide +kernel
theorem dX0_fillSchedule_54 : decode cX0_fillSchedule 54 = .ok (.iadd, 1) := by decide +kernel
theorem dX0_fillSchedule_55 : decode cX0_fillSchedule 55 = .ok (.baload, 1) := by decide +kernel
theorem dX0_fillSchedule_56 : decode cX0_fillSchedule 56 = .ok (.sipush 255, 3) := by decide +kernel
theorem dX0_fillSchedule_59 : decode cX0_fillSchedule 59 = .ok (.iand, 1) := by decide +kernel
theorem dX0_fillSchedule_60 : decode cX0_fillSchedule 60 = .ok (.bipush 8, 2) := by decide +kernel
theorem dX0_fillSchedule_62 : decode cX0_fillSchedule 62 = .ok (.ishl, 1) := by decide +kernel
theorem dX0_fillSchedule_63 : decode cX0_fillSchedule 63 = .ok (.ior, 1) := by decide +kernel
theorem dX0_fillSchedule_64 : decode cX0_fillSchedule 64 = .ok (.aload_n 0, 1) := by decide +kernel
theorem dX0_fillSchedule_65 : decode cX0_fillSchedule 65 = .ok (.getfield 11, 3) := by decide +kernel
theorem dX0_fillSchedule_68 : decode cX0_fillSchedule 68 = .ok (.iload_n 3, 1) := by decide +kernel
theorem dX0_fillSchedule_69 : decode cX0_fillSchedule 69 = .ok (.iconst 3, 1) := by decide +kernel
theorem dX0_fillSchedule_70 : decode cX0_fillSchedule 70 = .ok (.iadd, 1) := by decide +kernel
theorem dX0_fillSchedule_71 : decode cX0_fillSchedule 71 = .ok (.baload, 1) := by decide +kernel
theorem dX0_fillSchedule_72 : decode cX0_fillSchedule 72 = .ok (.sipush 255, 3) := by decide +kernel
theorem dX0_fillSchedule_75 : decode cX0_fillSchedule 75 = .ok (.iand, 1) := by decide +kernel
theorem dX0_fillSchedule_76 : decode cX0_fillSchedule 76 = .ok (.ior, 1) := by decide +kernel
theorem dX0_fillSchedule_77 : decode cX0_fillSchedule 77 = .ok (.iastore, 1) := by decide +kernel
theorem dX0_fillSchedule_78 : decode cX0_fillSchedule 78 = .ok (.iinc 2 1, 3) := by decide +kernel
theorem dX0_fillSchedule_81 : decode cX0_fillSchedule 81 = .ok (.goto (-79), 3) := by decide +kernel
theorem dX0_fillSchedule_84 : decode cX0_fillSchedule 84 = .ok (.bipush 16, 2) := by decide +kernel
theorem dX0_fillSchedule_86 : decode cX0_fillSchedule 86 = .ok (.istore_n 2, 1) := by decide +kernel
theorem dX0_fillSchedule_87 : decode cX0_fillSchedule 87 = .ok (.iload_n 2, 1) := by decide +kernel
theorem dX0_fillSchedule_88 : decode cX0_fillSchedule 88 = .ok (.bipush 64, 2) := by decide +kernel
theorem dX0_fillSchedule_90 : decode cX0_fillSchedule 90 = .ok (.if_icmp .ge 102, 3) := by decide +kernel
theorem dX0_fillSchedule_93 : decode cX0_fillSchedule 93 = .ok (.aload_n 0, 1) := by decide +kernel
theorem dX0_fillSchedule_94 : decode cX0_fillSchedule 94 = .ok (.getfield 15, 3) := by decide +kernel
theorem dX0_fillSchedule_97 : decode cX0_fillSchedule 97 = .ok (.iload_n 2, 1) := by decide +kernel
theorem dX0_fillSchedule_98 : decode cX0_fillSchedule 98 = .ok (.bipush 15, 2) := by decide +kernel
theorem dX0_fillSchedule_100 : decode cX0_fillSchedule 100 = .ok (.isub, 1) := by decide +kernel
theorem dX0_fillSchedule_101 : decode cX0_fillSchedule 101 = .ok (.iaload, 1) := by decide +kernel
theorem dX0_fillSchedule_102 : decode cX0_fillSchedule 102 = .ok (.istore_n 3, 1) := by decide +kernel
theorem dX0_fillSchedule_103 : decode cX0_fillSchedule 103 = .ok (.aload_n 0, 1) := by decide +kernel
theorem dX0_fillSchedule_104 : decode cX0_fillSchedule 104 = .ok (.getfield 15, 3) := by decide +kernel
theorem dX0_fillSchedule_107 : decode cX0_fillSchedule 107 = .ok (.iload_n 2, 1) := by decide +kernel
theorem dX0_fillSchedule_108 : decode cX0_fillSchedule 108 = .ok (.iconst 2, 1) := by decide +kernel
theorem dX0_fillSchedule_109 : decode cX0_fillSchedule 109 = .ok (.isub, 1) := by decide +kernel
theorem dX0_fillSchedule_110 : decode cX0_fillSchedule 110 = .ok (.iaload, 1) := by decide +kernel
theorem dX0_fillSchedule_111 : decode cX0_fillSchedule 111 = .ok (.istore 4, 2) := by decide +kernel
theorem dX0_fillSchedule_113 : decode cX0_fillSchedule 113 = .ok (.iload_n 3, 1) := by decide +kernel
theorem dX0_fillSchedule_114 : decode cX0_fillSchedule 114 = .ok (.bipush 7, 2) := by decide +kernel
theorem dX0_fillSchedule_116 : decode cX0_fillSchedule 116 = .ok (.invokestatic 47, 3) := by decide +kernel
theorem dX0_fillSchedule_119 : decode cX0_fillSchedule 119 = .ok (.iload_n 3, 1) := by decide +kernel
theorem dX0_fillSchedule_120 : decode cX0_fillSchedule 120 = .ok (.bipush 18, 2) := by decide +kernel
theorem dX0_fillSchedule_122 : decode cX0_fillSchedule 122 = .ok (.invokestatic 47, 3) := by decide +kernel
theorem dX0_fillSchedule_125 : decode cX0_fillSchedule 125 = .ok (.ixor, 1) := by decide +kernel
theorem dX0_fillSchedule_126 : decode cX0_fillSchedule 126 = .ok (.iload_n 3, 1) := by decide +kernel
theorem dX0_fillSchedule_127 : decode cX0_fillSchedule 127 = .ok (.iconst 3, 1) := by decide +kernel
theorem dX0_fillSchedule_128 : decode cX0_fillSchedule 128 = .ok (.iushr, 1) := by decide +kernel
theorem dX0_fillSchedule_129 : decode cX0_fillSchedule 129 = .ok (.ixor, 1) := by decide +kernel
theorem dX0_fillSchedule_130 : decode cX0_fillSchedule 130 = .ok (.istore 5, 2) := by decide +kernel
theorem dX0_fillSchedule_132 : decode cX0_fillSchedule 132 = .ok (.iload 4, 2) := by decide +kernel
theorem dX0_fillSchedule_134 : decode cX0_fillSchedule 134 = .ok (.bipush 17, 2) := by decide +kernel
theorem dX0_fillSchedule_136 : decode cX0_fillSchedule 136 = .ok (.invokestatic 47, 3) := by decide +kernel
theorem dX0_fillSchedule_139 : decode cX0_fillSchedule 139 = .ok (.iload 4, 2) := by decide +kernel
theorem dX0_fillSchedule_141 : decode cX0_fillSchedule 141 = .ok (.bipush 19, 2) := by decide +kernel
theorem dX0_fillSchedule_143 : decode cX0_fillSchedule 143 = .ok (.invokestatic 47, 3) := by decide +kernel
theorem dX0_fillSchedule_146 : decode cX0_fillSchedule 146 = .ok (.ixor, 1) := by decide +kernel
theorem dX0_fillSchedule_147 : decode cX0_fillSchedule 147 = .ok (.iload 4, 2) := by decide +kernel
theorem dX0_fillSchedule_149 : decode cX0_fillSchedule 149 = .ok (.bipush 10, 2) := by decide +kernel
theorem dX0_fillSchedule_151 : decode cX0_fillSchedule 151 = .ok (.iushr, 1) := by decide +kernel
theorem dX0_fillSchedule_152 : decode cX0_fillSchedule 152 = .ok (.ixor, 1) := by decide +kernel
theorem dX0_fillSchedule_153 : decode cX0_fillSchedule 153 = .ok (.istore 6, 2) := by decide +kernel
theorem dX0_fillSchedule_155 : decode cX0_fillSchedule 155 = .ok (.aload_n 0, 1) := by decide +kernel
theorem dX0_fillSchedule_156 : decode cX0_fillSchedule 156 = .ok (.getfield 15, 3) := by decide +kernel
theorem dX0_fillSchedule_159 : decode cX0_fillSchedule 159 = .ok (.iload_n 2, 1) := by decide +kernel
theorem dX0_fillSchedule_160 : decode cX0_fillSchedule 160 = .ok (.aload_n 0, 1) := by decide +kernel
theorem dX0_fillSchedule_161 : decode cX0_fillSchedule 161 = .ok (.getfield 15, 3) := by decide +kernel
theorem dX0_fillSchedule_164 : decode cX0_fillSchedule 164 = .ok (.iload_n 2, 1) := by decide +kernel
theorem dX0_fillSchedule_165 : decode cX0_fillSchedule 165 = .ok (.bipush 16, 2) := by decide +kernel
theorem dX0_fillSchedule_167 : decode cX0_fillSchedule 167 = .ok (.isub, 1) := by decide +kernel
theorem dX0_fillSchedule_168 : decode cX0_fillSchedule 168 = .ok (.iaload, 1) := by decide +kernel
theorem dX0_fillSchedule_169 : decode cX0_fillSchedule 169 = .ok (.iload 5, 2) := by decide +kernel
theorem dX0_fillSchedule_171 : decode cX0_fillSchedule 171 = .ok (.iadd, 1) := by decide +kernel
theorem dX0_fillSchedule_172 : decode cX0_fillSchedule 172 = .ok (.aload_n 0, 1) := by decide +kernel
theorem dX0_fillSchedule_173 : decode cX0_fillSchedule 173 = .ok (.getfield 15, 3) := by decide +kernel
theorem dX0_fillSchedule_176 : decode cX0_fillSchedule 176 = .ok (.iload_n 2, 1) := by decide +kernel
theorem dX0_fillSchedule_177 : decode cX0_fillSchedule 177 = .ok (.bipush 7, 2) := by decide +kernel
theorem dX0_fillSchedule_179 : decode cX0_fillSchedule 179 = .ok (.isub, 1) := by decide +kernel
theorem dX0_fillSchedule_180 : decode cX0_fillSchedule 180 = .ok (.iaload, 1) := by decide +kernel
theorem dX0_fillSchedule_181 : decode cX0_fillSchedule 181 = .ok (.iadd, 1) := by decide +kernel
theorem dX0_fillSchedule_182 : decode cX0_fillSchedule 182 = .ok (.iload 6, 2) := by decide +kernel
theorem dX0_fillSchedule_184 : decode cX0_fillSchedule 184 = .ok (.iadd, 1) := by decide +kernel
theorem dX0_fillSchedule_185 : decode cX0_fillSchedule 185 = .ok (.iastore, 1) := by decide +kernel
theorem dX0_fillSchedule_186 : decode cX0_fillSchedule 186 = .ok (.iinc 2 1, 3) := by decide +kernel
theorem dX0_fillSchedule_189 : decode cX0_fillSchedule 189 = .ok (.goto (-102), 3) := by decide +kernel
theorem dX0_fillSchedule_192 : decode cX0_fillSchedule 192 = .ok (.return_, 1) := by decide +kernel
theorem dX0_mixBlock_0 : decode cX0_mixBlock 0 = .ok (.aload_n 0, 1) := by decide +kernel
theorem dX0_mixBlock_1 : decode cX0_mixBlock 1 = .ok (.getfield 19, 3) := by decide +kernel
theorem dX0_mixBlock_4 : decode cX0_mixBlock 4 = .ok (.iconst 0, 1) := by decide +kernel
theorem dX0_mixBlock_5 : decode cX0_mixBlock 5 = .ok (.iaload, 1) := by decide +kernel
theorem dX0_mixBlock_6 : decode cX0_mixBlock 6 = .ok (.istore_n 1, 1) := by decide +kernel
theorem dX0_mixBlock_7 : decode cX0_mixBlock 7 = .ok (.aload_n 0, 1) := by decide +kernel
theorem dX0_mixBlock_8 : decode cX0_mixBlock 8 = .ok (.getfield 19, 3) := by decide +kernel
theorem dX0_mixBlock_11 : decode cX0_mixBlock 11 = .ok (.iconst 1, 1) := by decide +kernel
theorem dX0_mixBlock_12 : decode cX0_mixBlock 12 = .ok (.iaload, 1) := by decide +kernel
theorem dX0_mixBlock_13 : decode cX0_mixBlock 13 = .ok (.istore_n 2, 1) := by decide +kernel
theorem dX0_mixBlock_14 : decode cX0_mixBlock 14 = .ok (.aload_n 0, 1) := by decide +kernel
theorem dX0_mixBlock_15 : decode cX0_mixBlock 15 = .ok (.getfield 19, 3) := by decide +kernel
theorem dX0_mixBlock_18 : decode cX0_mixBlock 18 = .ok (.iconst 2, 1) := by decide +kernel
theorem dX0_mixBlock_19 : decode cX0_mixBlock 19 = .ok (.iaload, 1) := by decide +kernel
theorem dX0_mixBlock_20 : decode cX0_mixBlock 20 = .ok (.istore_n 3, 1) := by decide +kernel
theorem dX0_mixBlock_21 : decode cX0_mixBlock 21 = .ok (.aload_n 0, 1) := by decide +kernel
theorem dX0_mixBlock_22 : decode cX0_mixBlock 22 = .ok (.getfield 19, 3) := by decide +kernel
theorem dX0_mixBlock_25 : decode cX0_mixBlock 25 = .ok (.iconst 3, 1) := by decide +kernel
theorem dX0_mixBlock_26 : decode cX0_mixBlock 26 = .ok (.iaload, 1) := by decide +kernel
theorem dX0_mixBlock_27 : decode cX0_mixBlock 27 = .ok (.istore 4, 2) := by decide +kernel
theorem dX0_mixBlock_29 : decode cX0_mixBlock 29 = .ok (.aload_n 0, 1) := by decide +kernel
theorem dX0_mixBlock_30 : decode cX0_mixBlock 30 = .ok (.getfield 19, 3) := by decide +kernel
theorem dX0_mixBlock_33 : decode cX0_mixBlock 33 = .ok (.iconst 4, 1) := by decide +kernel
theorem dX0_mixBlock_34 : decode cX0_mixBlock 34 = .ok (.iaload, 1) := by decide +kernel
theorem dX0_mixBlock_35 : decode cX0_mixBlock 35 = .ok (.istore 5, 2) := by decide +kernel
theorem dX0_mixBlock_37 : decode cX0_mixBlock 37 = .ok (.aload_n 0, 1) := by decide +kernel
theorem dX0_mixBlock_38 : decode cX0_mixBlock 38 = .ok (.getfield 19, 3) := by decide +kernel
theorem dX0_mixBlock_41 : decode cX0_mixBlock 41 = .ok (.iconst 5, 1) := by decide +kernel
theorem dX0_mixBlock_42 : decode cX0_mixBlock 42 = .ok (.iaload, 1) := by decide +kernel
theorem dX0_mixBlock_43 : decode cX0_mixBlock 43 = .ok (.istore 6, 2) := by decide +kernel
theorem dX0_mixBlock_45 : decode cX0_mixBlock 45 = .ok (.aload_n 0, 1) := by decide +kernel
theorem dX0_mixBlock_46 : decode cX0_mixBlock 46 = .ok (.getfield 19, 3) := by decide +kernel
theorem dX0_mixBlock_49 : decode cX0_mixBlock 49 = .ok (.bipush 6, 2) := by decide +kernel
theorem dX0_mixBlock_51 : decode cX0_mixBlock 51 = .ok (.iaload, 1) := by decide +kernel
theorem dX0_mixBlock_52 : decode cX0_mixBlock 52 = .ok (.istore 7, 2) := by decide +kernel
theorem dX0_mixBlock_54 : decode cX0_mixBlock 54 = .ok (.aload_n 0, 1) := by decide +kernel
theorem dX0_mixBlock_55 : decode cX0_mixBlock 55 = .ok (.getfield 19, 3) := by decide +kernel
theorem dX0_mixBlock_58 : decode cX0_mixBlock 58 = .ok (.bipush 7, 2) := by decide +kernel
theorem dX0_mixBlock_60 : decode cX0_mixBlock 60 = .ok (.iaload, 1) := by decide +kernel
theorem dX0_mixBlock_61 : decode cX0_mixBlock 61 = .ok (.istore 8, 2) := by decide +kernel
theorem dX0_mixBlock_63 : decode cX0_mixBlock 63 = .ok (.iconst 0, 1) := by decide +kernel
theorem dX0_mixBlock_64 : decode cX0_mixBlock 64 = .ok (.istore 9, 2) := by decide +kernel
theorem dX0_mixBlock_66 : decode cX0_mixBlock 66 = .ok (.iload 9, 2) := by decide +kernel
theorem dX0_mixBlock_68 : decode cX0_mixBlock 68 = .ok (.bipush 64, 2) := by decide +kernel
theorem dX0_mixBlock_70 : decode cX0_mixBlock 70 = .ok (.if_icmp .ge 143, 3) := by decide +kernel
theorem dX0_mixBlock_73 : decode cX0_mixBlock 73 = .ok (.iload 5, 2) := by decide +kernel
theorem dX0_mixBlock_75 : decode cX0_mixBlock 75 = .ok (.iload 6, 2) := by decide +kernel
theorem dX0_mixBlock_77 : decode cX0_mixBlock 77 = .ok (.iand, 1) := by decide +kernel
theorem dX0_mixBlock_78 : decode cX0_mixBlock 78 = .ok (.iload 5, 2) := by decide +kernel
theorem dX0_mixBlock_80 : decode cX0_mixBlock 80 = .ok (.iconst (-1), 1) := by decide +kernel
theorem dX0_mixBlock_81 : decode cX0_mixBlock 81 = .ok (.ixor, 1) := by decide +kernel
theorem dX0_mixBlock_82 : decode cX0_mixBlock 82 = .ok (.iload 7, 2) := by decide +kernel
theorem dX0_mixBlock_84 : decode cX0_mixBlock 84 = .ok (.iand, 1) := by decide +kernel
theorem dX0_mixBlock_85 : decode cX0_mixBlock 85 = .ok (.ixor, 1) := by decide +kernel
theorem dX0_mixBlock_86 : decode cX0_mixBlock 86 = .ok (.istore 10, 2) := by decide +kernel
theorem dX0_mixBlock_88 : decode cX0_mixBlock 88 = .ok (.iload_n 1, 1) := by decide +kernel
theorem dX0_mixBlock_89 : decode cX0_mixBlock 89 = .ok (.iload_n 2, 1) := by decide +kernel
theorem dX0_mixBlock_90 : decode cX0_mixBlock 90 = .ok (.iand, 1) := by decide +kernel
theorem dX0_mixBlock_91 : decode cX0_mixBlock 91 = .ok (.iload_n 1, 1) := by decide +kernel
theorem dX0_mixBlock_92 : decode cX0_mixBlock 92 = .ok (.iload_n 3, 1) := by decide +kernel
theorem dX0_mixBlock_93 : decode cX0_mixBlock 93 = .ok (.iand, 1) := by decide +kernel
theorem dX0_mixBlock_94 : decode cX0_mixBlock 94 = .ok (.ixor, 1) := by decide +kernel
theorem dX0_mixBlock_95 : decode cX0_mixBlock 95 = .ok (.iload_n 2, 1) := by decide +kernel
theorem dX0_mixBlock_96 : decode cX0_mixBlock 96 = .ok (.iload_n 3, 1) := by decide +kernel
theorem dX0_mixBlock_97 : decode cX0_mixBlock 97 = .ok (.iand, 1) := by decide +kernel
theorem dX0_mixBlock_98 : decode cX0_mixBlock 98 = .ok (.ixor, 1) := by decide +kernel
theorem dX0_mixBlock_99 : decode cX0_mixBlock 99 = .ok (.istore 11, 2) := by decide +kernel
theorem dX0_mixBlock_101 : decode cX0_mixBlock 101 = .ok (.iload 5, 2) := by decide +kernel
theorem dX0_mixBlock_103 : decode cX0_mixBlock 103 = .ok (.bipush 6, 2) := by decide +kernel
theorem dX0_mixBlock_105 : decode cX0_mixBlock 105 = .ok (.invokestatic 47, 3) := by decide +kernel
theorem dX0_mixBlock_108 : decode cX0_mixBlock 108 = .ok (.iload 5, 2) := by decide +kernel
theorem dX0_mixBlock_110 : decode cX0_mixBlock 110 = .ok (.bipush 11, 2) := by decide +kernel
theorem dX0_mixBlock_112 : decode cX0_mixBlock 112 = .ok (.invokestatic 47, 3) := by decide +kernel
theorem dX0_mixBlock_115 : decode cX0_mixBlock 115 = .ok (.ixor, 1) := by decide +kernel
theorem dX0_mixBlock_116 : decode cX0_mixBlock 116 = .ok (.iload 5, 2) := by decide +kernel
theorem dX0_mixBlock_118 : decode cX0_mixBlock 118 = .ok (.bipush 25, 2) := by decide +kernel
theorem dX0_mixBlock_120 : decode cX0_mixBlock 120 = .ok (.invokestatic 47, 3) := by decide +kernel
theorem dX0_mixBlock_123 : decode cX0_mixBlock 123 = .ok (.ixor, 1) := by decide +kernel
theorem dX0_mixBlock_124 : decode cX0_mixBlock 124 = .ok (.istore 12, 2) := by decide +kernel
theorem dX0_mixBlock_126 : decode cX0_mixBlock 126 = .ok (.iload_n 1, 1) := by decide +kernel
theorem dX0_mixBlock_127 : decode cX0_mixBlock 127 = .ok (.iconst 2, 1) := by decide +kernel
theorem dX0_mixBlock_128 : decode cX0_mixBlock 128 = .ok (.invokestatic 47, 3) := by decide +kernel
theorem dX0_mixBlock_131 : decode cX0_mixBlock 131 = .ok (.iload_n 1, 1) := by decide +kernel
theorem dX0_mixBlock_132 : decode cX0_mixBlock 132 = .ok (.bipush 13, 2) := by decide +kernel
theorem dX0_mixBlock_134 : decode cX0_mixBlock 134 = .ok (.invokestatic 47, 3) := by decide +kernel
theorem dX0_mixBlock_137 : decode cX0_mixBlock 137 = .ok (.ixor, 1) := by decide +kernel
theorem dX0_mixBlock_138 : decode cX0_mixBlock 138 = .ok (.iload_n 1, 1) := by decide +kernel
theorem dX0_mixBlock_139 : decode cX0_mixBlock 139 = .ok (.bipush 22, 2) := by decide +kernel
theorem dX0_mixBlock_141 : decode cX0_mixBlock 141 = .ok (.invokestatic 47, 3) := by decide +kernel
theorem dX0_mixBlock_144 : decode cX0_mixBlock 144 = .ok (.ixor, 1) := by decide +kernel
theorem dX0_mixBlock_145 : decode cX0_mixBlock 145 = .ok (.istore 13, 2) := by decide +kernel
theorem dX0_mixBlock_147 : decode cX0_mixBlock 147 = .ok (.iload 8, 2) := by decide +kernel
theorem dX0_mixBlock_149 : decode cX0_mixBlock 149 = .ok (.iload 12, 2) := by decide +kernel
theorem dX0_mixBlock_151 : decode cX0_mixBlock 151 = .ok (.iadd, 1) := by decide +kernel
theorem dX0_mixBlock_152 : decode cX0_mixBlock 152 = .ok (.iload 10, 2) := by decide +kernel
theorem dX0_mixBlock_154 : decode cX0_mixBlock 154 = .ok (.iadd, 1) := by decide +kernel
theorem dX0_mixBlock_155 : decode cX0_mixBlock 155 = .ok (.getstatic 51, 3) := by decide +kernel
theorem dX0_mixBlock_158 : decode cX0_mixBlock 158 = .ok (.iload 9, 2) := by decide +kernel
theorem dX0_mixBlock_160 : decode cX0_mixBlock 160 = .ok (.iaload, 1) := by decide +kernel
theorem dX0_mixBlock_161 : decode cX0_mixBlock 161 = .ok (.iadd, 1) := by decide +kernel
theorem dX0_mixBlock_162 : decode cX0_mixBlock 162 = .ok (.aload_n 0, 1) := by decide +kernel
theorem dX0_mixBlock_163 : decode cX0_mixBlock 163 = .ok (.getfield 15, 3) := by decide +kernel
theorem dX0_mixBlock_166 : decode cX0_mixBlock 166 = .ok (.iload 9, 2) := by decide +kernel
theorem dX0_mixBlock_168 : decode cX0_mixBlock 168 = .ok (.iaload, 1) := by decide +kernel
theorem dX0_mixBlock_169 : decode cX0_mixBlock 169 = .ok (.iadd, 1) := by decide +kernel
theorem dX0_mixBlock_170 : decode cX0_mixBlock 170 = .ok (.istore 14, 2) := by decide +kernel
theorem dX0_mixBlock_172 : decode cX0_mixBlock 172 = .ok (.iload 7, 2) := by decide +kernel
theorem dX0_mixBlock_174 : decode cX0_mixBlock 174 = .ok (.istore 8, 2) := by decide +kernel
theorem dX0_mixBlock_176 : decode cX0_mixBlock 176 = .ok (.iload 6, 2) := by decide +kernel
theorem dX0_mixBlock_178 : decode cX0_mixBlock 178 = .ok (.istore 7, 2) := by decide +kernel
theorem dX0_mixBlock_180 : decode cX0_mixBlock 180 = .ok (.iload 5, 2) := by decide +kernel
theorem dX0_mixBlock_182 : decode cX0_mixBlock 182 = .ok (.istore 6, 2) := by decide +kernel
theorem dX0_mixBlock_184 : decode cX0_mixBlock 184 = .ok (.iload 4, 2) := by decide +kernel
theorem dX0_mixBlock_186 : decode cX0_mixBlock 186 = .ok (.iload 14, 2) := by decide +kernel
theorem dX0_mixBlock_188 : decode cX0_mixBlock 188 = .ok (.iadd, 1) := by decide +kernel
theorem dX0_mixBlock_189 : decode cX0_mixBlock 189 = .ok (.istore 5, 2) := by decide +kernel
theorem dX0_mixBlock_191 : decode cX0_mixBlock 191 = .ok (.iload_n 3, 1) := by decide +kernel
theorem dX0_mixBlock_192 : decode cX0_mixBlock 192 = .ok (.istore 4, 2) := by decide +kernel
theorem dX0_mixBlock_194 : decode cX0_mixBlock 194 = .ok (.iload_n 2, 1) := by decide +kernel
theorem dX0_mixBlock_195 : decode cX0_mixBlock 195 = .ok (.istore_n 3, 1) := by decide +kernel
theorem dX0_mixBlock_196 : decode cX0_mixBlock 196 = .ok (.iload_n 1, 1) := by decide +kernel
theorem dX0_mixBlock_197 : decode cX0_mixBlock 197 = .ok (.istore_n 2, 1) := by decide +kernel
theorem dX0_mixBlock_198 : decode cX0_mixBlock 198 = .ok (.iload 14, 2) := by decide +kernel
theorem dX0_mixBlock_200 : decode cX0_mixBlock 200 = .ok (.iload 13, 2) := by decide +kernel
theorem dX0_mixBlock_202 : decode cX0_mixBlock 202 = .ok (.iadd, 1) := by decide +kernel
theorem dX0_mixBlock_203 : decode cX0_mixBlock 203 = .ok (.iload 11, 2) := by decide +kernel
theorem dX0_mixBlock_205 : decode cX0_mixBlock 205 = .ok (.iadd, 1) := by decide +kernel
theorem dX0_mixBlock_206 : decode cX0_mixBlock 206 = .ok (.istore_n 1, 1) := by decide +kernel
theorem dX0_mixBlock_207 : decode cX0_mixBlock 207 = .ok (.iinc 9 1, 3) := by decide +kernel
theorem dX0_mixBlock_210 : decode cX0_mixBlock 210 = .ok (.goto (-144), 3) := by decide +kernel
theorem dX0_mixBlock_213 : decode cX0_mixBlock 213 = .ok (.aload_n 0, 1) := by decide +kernel
theorem dX0_mixBlock_214 : decode cX0_mixBlock 214 = .ok (.getfield 19, 3) := by decide +kernel
theorem dX0_mixBlock_217 : decode cX0_mixBlock 217 = .ok (.iconst 0, 1) := by decide +kernel
theorem dX0_mixBlock_218 : decode cX0_mixBlock 218 = .ok (.dup2, 1) := by decide +kernel
theorem dX0_mixBlock_219 : decode cX0_mixBlock 219 = .ok (.iaload, 1) := by decide +kernel
theorem dX0_mixBlock_220 : decode cX0_mixBlock 220 = .ok (.iload_n 1, 1) := by decide +kernel
theorem dX0_mixBlock_221 : decode cX0_mixBlock 221 = .ok (.iadd, 1) := by decide +kernel
theorem dX0_mixBlock_222 : decode cX0_mixBlock 222 = .ok (.iastore, 1) := by decide +kernel
theorem dX0_mixBlock_223 : decode cX0_mixBlock 223 = .ok (.aload_n 0, 1) := by decide +kernel
theorem dX0_mixBlock_224 : decode cX0_mixBlock 224 = .ok (.getfield 19, 3) := by decide +kernel
theorem dX0_mixBlock_227 : decode cX0_mixBlock 227 = .ok (.iconst 1, 1) := by decide +kernel
theorem dX0_mixBlock_228 : decode cX0_mixBlock 228 = .ok (.dup2, 1) := by decide +kernel
theorem dX0_mixBlock_229 : decode cX0_mixBlock 229 = .ok (.iaload, 1) := by decide +kernel
theorem dX0_mixBlock_230 : decode cX0_mixBlock 230 = .ok (.iload_n 2, 1) := by decide +kernel
theorem dX0_mixBlock_231 : decode cX0_mixBlock 231 = .ok (.iadd, 1) := by decide +kernel
theorem dX0_mixBlock_232 : decode cX0_mixBlock 232 = .ok (.iastore, 1) := by decide +kernel
theorem dX0_mixBlock_233 : decode cX0_mixBlock 233 = .ok (.aload_n 0, 1) := by decide +kernel
theorem dX0_mixBlock_234 : decode cX0_mixBlock 234 = .ok (.getfield 19, 3) := by decide +kernel
theorem dX0_mixBlock_237 : decode cX0_mixBlock 237 = .ok (.iconst 2, 1) := by decide +kernel
theorem dX0_mixBlock_238 : decode cX0_mixBlock 238 = .ok (.dup2, 1) := by decide +kernel
theorem dX0_mixBlock_239 : decode cX0_mixBlock 239 = .ok (.iaload, 1) := by decide +kernel
theorem dX0_mixBlock_240 : decode cX0_mixBlock 240 = .ok (.iload_n 3, 1) := by decide +kernel
theorem dX0_mixBlock_241 : decode cX0_mixBlock 241 = .ok (.iadd, 1) := by decide +kernel
theorem dX0_mixBlock_242 : decode cX0_mixBlock 242 = .ok (.iastore, 1) := by decide +kernel
theorem dX0_mixBlock_243 : decode cX0_mixBlock 243 = .ok (.aload_n 0, 1) := by decide +kernel
theorem dX0_mixBlock_244 : decode cX0_mixBlock 244 = .ok (.getfield 19, 3) := by decide +kernel
theorem dX0_mixBlock_247 : decode cX0_mixBlock 247 = .ok (.iconst 3, 1) := by decide +kernel
theorem dX0_mixBlock_248 : decode cX0_mixBlock 248 = .ok (.dup2, 1) := by decide +kernel
theorem dX0_mixBlock_249 : decode cX0_mixBlock 249 = .ok (.iaload, 1) := by decide +kernel
theorem dX0_mixBlock_250 : decode cX0_mixBlock 250 = .ok (.iload 4, 2) := by decide +kernel
theorem dX0_mixBlock_252 : decode cX0_mixBlock 252 = .ok (.iadd, 1) := by decide +kernel
theorem dX0_mixBlock_253 : decode cX0_mixBlock 253 = .ok (.iastore, 1) := by decide +kernel
theorem dX0_mixBlock_254 : decode cX0_mixBlock 254 = .ok (.aload_n 0, 1) := by decide +kernel
theorem dX0_mixBlock_255 : decode cX0_mixBlock 255 = .ok (.getfield 19, 3) := by decide +kernel
theorem dX0_mixBlock_258 : decode cX0_mixBlock 258 = .ok (.iconst 4, 1) := by decide +kernel
theorem dX0_mixBlock_259 : decode cX0_mixBlock 259 = .ok (.dup2, 1) := by decide +kernel
theorem dX0_mixBlock_260 : decode cX0_mixBlock 260 = .ok (.iaload, 1) := by decide +kernel
theorem dX0_mixBlock_261 : decode cX0_mixBlock 261 = .ok (.iload 5, 2) := by decide +kernel
theorem dX0_mixBlock_263 : decode cX0_mixBlock 263 = .ok (.iadd, 1) := by decide +kernel
theorem dX0_mixBlock_264 : decode cX0_mixBlock 264 = .ok (.iastore, 1) := by decide +kernel
theorem dX0_mixBlock_265 : decode cX0_mixBlock 265 = .ok (.aload_n 0, 1) := by decide +kernel
theorem dX0_mixBlock_266 : decode cX0_mixBlock 266 = .ok (.getfield 19, 3) := by decide +kernel
theorem dX0_mixBlock_269 : decode cX0_mixBlock 269 = .ok (.iconst 5, 1) := by decide +kernel
theorem dX0_mixBlock_270 : decode cX0_mixBlock 270 = .ok (.dup2, 1) := by decide +kernel
theorem dX0_mixBlock_271 : decode cX0_mixBlock 271 = .ok (.iaload, 1) := by decide +kernel
theorem dX0_mixBlock_272 : decode cX0_mixBlock 272 = .ok (.iload 6, 2) := by decide +kernel
theorem dX0_mixBlock_274 : decode cX0_mixBlock 274 = .ok (.iadd, 1) := by decide +kernel
theorem dX0_mixBlock_275 : decode cX0_mixBlock 275 = .ok (.iastore, 1) := by decide +kernel
theorem dX0_mixBlock_276 : decode cX0_mixBlock 276 = .ok (.aload_n 0, 1) := by decide +kernel
theorem dX0_mixBlock_277 : decode cX0_mixBlock 277 = .ok (.getfield 19, 3) := by decide +kernel
theorem dX0_mixBlock_280 : decode cX0_mixBlock 280 = .ok (.bipush 6, 2) := by decide +kernel
theorem dX0_mixBlock_282 : decode cX0_mixBlock 282 = .ok (.dup2, 1) := by decide +kernel
theorem dX0_mixBlock_283 : decode cX0_mixBlock 283 = .ok (.iaload, 1) := by decide +kernel
theorem dX0_mixBlock_284 : decode cX0_mixBlock 284 = .ok (.iload 7, 2) := by decide +kernel
theorem dX0_mixBlock_286 : decode cX0_mixBlock 286 = .ok (.iadd, 1) := by decide +kernel
theorem dX0_mixBlock_287 : decode cX0_mixBlock 287 = .ok (.iastore, 1) := by decide +kernel
theorem dX0_mixBlock_288 : decode cX0_mixBlock 288 = .ok (.aload_n 0, 1) := by decide +kernel
theorem dX0_mixBlock_289 : decode cX0_mixBlock 289 = .ok (.getfield 19, 3) := by decide +kernel
theorem dX0_mixBlock_292 : decode cX0_mixBlock 292 = .ok (.bipush 7, 2) := by decide +kernel
theorem dX0_mixBlock_294 : decode cX0_mixBlock 294 = .ok (.dup2, 1) := by decide +kernel
theorem dX0_mixBlock_295 : decode cX0_mixBlock 295 = .ok (.iaload, 1) := by decide +kernel
theorem dX0_mixBlock_296 : decode cX0_mixBlock 296 = .ok (.iload 8, 2) := by decide +kernel
theorem dX0_mixBlock_298 : decode cX0_mixBlock 298 = .ok (.iadd, 1) := by decide +kernel
theorem dX0_mixBlock_299 : decode cX0_mixBlock 299 = .ok (.iastore, 1) := by decide +kernel
theorem dX0_mixBlock_300 : decode cX0_mixBlock 300 = .ok (.return_, 1) := by decide +kernel
theorem dX0_turn_0 : decode cX0_turn 0 = .ok (.iload_n 0, 1) := by decide +kernel
theorem dX0_turn_1 : decode cX0_turn 1 = .ok (.iload_n 1, 1) := by decide +kernel
theorem dX0_turn_2 : decode cX0_turn 2 = .ok (.iushr, 1) := by decide +kernel
theorem dX0_turn_3 : decode cX0_turn 3 = .ok (.iload_n 0, 1) := by decide +kernel
theorem dX0_turn_4 : decode cX0_turn 4 = .ok (.bipush 32, 2) := by decide +kernel
theorem dX0_turn_6 : decode cX0_turn 6 = .ok (.iload_n 1, 1) := by decide +kernel
theorem dX0_turn_7 : decode cX0_turn 7 = .ok (.isub, 1) := by decide +kernel
theorem dX0_turn_8 : decode cX0_turn 8 = .ok (.ishl, 1) := by decide +kernel
theorem dX0_turn_9 : decode cX0_turn 9 = .ok (.ior, 1) := by decide +kernel
theorem dX0_turn_10 : decode cX0_turn 10 = .ok (.ireturn, 1) := by decide +kernel
theorem dX1_init_0 : decode cX1_init 0 = .ok (.aload_n 0, 1) := by decide +kernel
theorem dX1_init_1 : decode cX1_init 1 = .ok (.invokespecial 1, 3) := by decide +kernel
theorem dX1_init_4 : decode cX1_init 4 = .ok (.aload_n 0, 1) := by decide +kernel
theorem dX1_init_5 : decode cX1_init 5 = .ok (.sipush 150, 3) := by decide +kernel
theorem dX1_init_8 : decode cX1_init 8 = .ok (.newarray .byte, 2) := by decide +kernel
theorem dX1_init_10 : decode cX1_init 10 = .ok (.putfield 9, 3) := by decide +kernel
theorem dX1_init_13 : decode cX1_init 13 = .ok (.aload_n 0, 1) := by decide +kernel
theorem dX1_init_14 : decode cX1_init 14 = .ok (.bipush 100, 2) := by decide +kernel
theorem dX1_init_16 : decode cX1_init 16 = .ok (.newarray .int, 2) := by decide +kernel
theorem dX1_init_18 : decode cX1_init 18 = .ok (.putfield 13, 3) := by decide +kernel
theorem dX1_init_21 : decode cX1_init 21 = .ok (.aload_n 0, 1) := by decide +kernel
theorem dX1_init_22 : decode cX1_init 22 = .ok (.sipush 1624, 3) := by decide +kernel
theorem dX1_init_25 : decode cX1_init 25 = .ok (.newarray .int, 2) := by decide +kernel
theorem dX1_init_27 : decode cX1_init 27 = .ok (.putfield 17, 3) := by decide +kernel
theorem dX1_init_30 : decode cX1_init 30 = .ok (.aload_n 0, 1) := by decide +kernel
theorem dX1_init_31 : decode cX1_init 31 = .ok (.new 20, 3) := by decide +kernel
theorem dX1_init_34 : decode cX1_init 34 = .ok (.dup, 1) := by decide +kernel
theorem dX1_init_35 : decode cX1_init 35 = .ok (.invokespecial 22, 3) := by decide +kernel
theorem dX1_init_38 : decode cX1_init 38 = .ok (.putfield 23, 3) := by decide +kernel
theorem dX1_init_41 : decode cX1_init 41 = .ok (.aload_n 0, 1) := by decide +kernel
theorem dX1_init_42 : decode cX1_init 42 = .ok (.iconst 0, 1) := by decide +kernel
theorem dX1_init_43 : decode cX1_init 43 = .ok (.putfield 27, 3) := by decide +kernel
theorem dX1_init_46 : decode cX1_init 46 = .ok (.aload_n 0, 1) := by decide +kernel
theorem dX1_init_47 : decode cX1_init 47 = .ok (.iconst 0, 1) := by decide +kernel
theorem dX1_init_48 : decode cX1_init 48 = .ok (.putfield 31, 3) := by decide +kernel
theorem dX1_init_51 : decode cX1_init 51 = .ok (.aload_n 0, 1) := by decide +kernel
theorem dX1_init_52 : decode cX1_init 52 = .ok (.iconst 0, 1) := by decide +kernel
theorem dX1_init_53 : decode cX1_init 53 = .ok (.putfield 34, 3) := by decide +kernel
theorem dX1_init_56 : decode cX1_init 56 = .ok (.return_, 1) := by decide +kernel
theorem dX1_put_0 : decode cX1_put 0 = .ok (.iload_n 3, 1) := by decide +kernel
theorem dX1_put_1 : decode cX1_put 1 = .ok (.iconst 1, 1) := by decide +kernel
theorem dX1_put_2 : decode cX1_put 2 = .ok (.if_icmp .lt 21, 3) := by decide +kernel
theorem dX1_put_5 : decode cX1_put 5 = .ok (.iload_n 3, 1) := by decide +kernel
theorem dX1_put_6 : decode cX1_put 6 = .ok (.bipush 8, 2) := by decide +kernel
theorem dX1_put_8 : decode cX1_put 8 = .ok (.if_icmp .gt 15, 3) := by decide +kernel
theorem dX1_put_11 : decode cX1_put 11 = .ok (.aload_n 0, 1) := by decide +kernel
theorem dX1_put_12 : decode cX1_put 12 = .ok (.getfield 27, 3) := by decide +kernel
theorem dX1_put_15 : decode cX1_put 15 = .ok (.iload_n 3, 1) := by decide +kernel
theorem dX1_put_16 : decode cX1_put 16 = .ok (.iadd, 1) := by decide +kernel
theorem dX1_put_17 : decode cX1_put 17 = .ok (.sipush 150, 3) := by decide +kernel
theorem dX1_put_20 : decode cX1_put 20 = .ok (.if_icmp .le 5, 3) := by decide +kernel
theorem dX1_put_23 : decode cX1_put 23 = .ok (.iconst 0, 1) := by decide +kernel
theorem dX1_put_24 : decode cX1_put 24 = .ok (.ireturn, 1) := by decide +kernel
theorem dX1_put_25 : decode cX1_put 25 = .ok (.iconst 0, 1) := by decide +kernel
theorem dX1_put_26 : decode cX1_put 26 = .ok (.istore 4, 2) := by decide +kernel
theorem dX1_put_28 : decode cX1_put 28 = .ok (.iload 4, 2) := by decide +kernel
theorem dX1_put_30 : decode cX1_put 30 = .ok (.iload_n 3, 1) := by decide +kernel
theorem dX1_put_31 : decode cX1_put 31 = .ok (.if_icmp .ge 34, 3) := by decide +kernel
theorem dX1_put_34 : decode cX1_put 34 = .ok (.aload_n 0, 1) := by decide +kernel
theorem dX1_put_35 : decode cX1_put 35 = .ok (.getfield 9, 3) := by decide +kernel
theorem dX1_put_38 : decode cX1_put 38 = .ok (.aload_n 0, 1) := by decide +kernel
theorem dX1_put_39 : decode cX1_put 39 = .ok (.getfield 27, 3) := by decide +kernel
theorem dX1_put_42 : decode cX1_put 42 = .ok (.iload 4, 2) := by decide +kernel
theorem dX1_put_44 : decode cX1_put 44 = .ok (.iadd, 1) := by decide +kernel
theorem dX1_put_45 : decode cX1_put 45 = .ok (.lload_n 1, 1) := by decide +kernel
theorem dX1_put_46 : decode cX1_put 46 = .ok (.bipush 8, 2) := by decide +kernel
theorem dX1_put_48 : decode cX1_put 48 = .ok (.iload_n 3, 1) := by decide +kernel
theorem dX1_put_49 : decode cX1_put 49 = .ok (.iconst 1, 1) := by decide +kernel
theorem dX1_put_50 : decode cX1_put 50 = .ok (.isub, 1) := by decide +kernel
theorem dX1_put_51 : decode cX1_put 51 = .ok (.iload 4, 2) := by decide +kernel
theorem dX1_put_53 : decode cX1_put 53 = .ok (.isub, 1) := by decide +kernel
theorem dX1_put_54 : decode cX1_put 54 = .ok (.imul, 1) := by decide +kernel
theorem dX1_put_55 : decode cX1_put 55 = .ok (.lushr, 1) := by decide +kernel
theorem dX1_put_56 : decode cX1_put 56 = .ok (.l2i, 1) := by decide +kernel
theorem dX1_put_57 : decode cX1_put 57 = .ok (.i2b, 1) := by decide +kernel
theorem dX1_put_58 : decode cX1_put 58 = .ok (.bastore, 1) := by decide +kernel
theorem dX1_put_59 : decode cX1_put 59 = .ok (.iinc 4 1, 3) := by decide +kernel
theorem dX1_put_62 : decode cX1_put 62 = .ok (.goto (-34), 3) := by decide +kernel
theorem dX1_put_65 : decode cX1_put 65 = .ok (.aload_n 0, 1) := by decide +kernel
theorem dX1_put_66 : decode cX1_put 66 = .ok (.dup, 1) := by decide +kernel
theorem dX1_put_67 : decode cX1_put 67 = .ok (.getfield 27, 3) := by decide +kernel
theorem dX1_put_70 : decode cX1_put 70 = .ok (.iload_n 3, 1) := by decide +kernel
theorem dX1_put_71 : decode cX1_put 71 = .ok (.iadd, 1) := by decide +kernel
theorem dX1_put_72 : decode cX1_put 72 = .ok (.putfield 27, 3) := by decide +kernel
theorem dX1_put_75 : decode cX1_put 75 = .ok (.iconst 1, 1) := by decide +kernel
theorem dX1_put_76 : decode cX1_put 76 = .ok (.ireturn, 1) := by decide +kernel
theorem dX1_hash_0 : decode cX1_hash 0 = .ok (.aload_n 0, 1) := by decide +kernel
theorem dX1_hash_1 : decode cX1_hash 1 = .ok (.getfield 23, 3) := by decide +kernel
theorem dX1_hash_4 : decode cX1_hash 4 = .ok (.invokevirtual 37, 3) := by decide +kernel
theorem dX1_hash_7 : decode cX1_hash 7 = .ok (.aload_n 0, 1) := by decide +kernel
theorem dX1_hash_8 : decode cX1_hash 8 = .ok (.getfield 23, 3) := by decide +kernel
theorem dX1_hash_11 : decode cX1_hash 11 = .ok (.aload_n 0, 1) := by decide +kernel
theorem dX1_hash_12 : decode cX1_hash 12 = .ok (.getfield 9, 3) := by decide +kernel
theorem dX1_hash_15 : decode cX1_hash 15 = .ok (.aload_n 0, 1) := by decide +kernel
theorem dX1_hash_16 : decode cX1_hash 16 = .ok (.getfield 27, 3) := by decide +kernel
theorem dX1_hash_19 : decode cX1_hash 19 = .ok (.invokevirtual 40, 3) := by decide +kernel
theorem dX1_hash_22 : decode cX1_hash 22 = .ok (.aload_n 0, 1) := by decide +kernel
theorem dX1_hash_23 : decode cX1_hash 23 = .ok (.getfield 23, 3) := by decide +kernel
theorem dX1_hash_26 : decode cX1_hash 26 = .ok (.aload_n 0, 1) := by decide +kernel
theorem dX1_hash_27 : decode cX1_hash 27 = .ok (.getfield 17, 3) := by decide +kernel
theorem dX1_hash_30 : decode cX1_hash 30 = .ok (.sipush 1616, 3) := by decide +kernel
theorem dX1_hash_33 : decode cX1_hash 33 = .ok (.invokevirtual 44, 3) := by decide +kernel
theorem dX1_hash_36 : decode cX1_hash 36 = .ok (.aload_n 0, 1) := by decide +kernel
theorem dX1_hash_37 : decode cX1_hash 37 = .ok (.sipush 202, 3) := by decide +kernel
theorem dX1_hash_40 : decode cX1_hash 40 = .ok (.iload_n 1, 1) := by decide +kernel
theorem dX1_hash_41 : decode cX1_hash 41 = .ok (.invokevirtual 48, 3) := by decide +kernel
theorem dX1_hash_44 : decode cX1_hash 44 = .ok (.lreturn, 1) := by decide +kernel
theorem dX1_add_0 : decode cX1_add 0 = .ok (.aload_n 0, 1) := by decide +kernel
theorem dX1_add_1 : decode cX1_add 1 = .ok (.getfield 31, 3) := by decide +kernel
theorem dX1_add_4 : decode cX1_add 4 = .ok (.bipush 100, 2) := by decide +kernel
theorem dX1_add_6 : decode cX1_add 6 = .ok (.if_icmp .lt 5, 3) := by decide +kernel
theorem dX1_add_9 : decode cX1_add 9 = .ok (.iconst (-1), 1) := by decide +kernel
theorem dX1_add_10 : decode cX1_add 10 = .ok (.ireturn, 1) := by decide +kernel
theorem dX1_add_11 : decode cX1_add 11 = .ok (.aload_n 0, 1) := by decide +kernel
theorem dX1_add_12 : decode cX1_add 12 = .ok (.getfield 31, 3) := by decide +kernel
theorem dX1_add_15 : decode cX1_add 15 = .ok (.istore_n 1, 1) := by decide +kernel
theorem dX1_add_16 : decode cX1_add 16 = .ok (.aload_n 0, 1) := by decide +kernel
theorem dX1_add_17 : decode cX1_add 17 = .ok (.getfield 13, 3) := by decide +kernel
theorem dX1_add_20 : decode cX1_add 20 = .ok (.iload_n 1, 1) := by decide +kernel
theorem dX1_add_21 : decode cX1_add 21 = .ok (.iconst 0, 1) := by decide +kernel
theorem dX1_add_22 : decode cX1_add 22 = .ok (.iastore, 1) := by decide +kernel
theorem dX1_add_23 : decode cX1_add 23 = .ok (.aload_n 0, 1) := by decide +kernel
theorem dX1_add_24 : decode cX1_add 24 = .ok (.dup, 1) := by decide +kernel
theorem dX1_add_25 : decode cX1_add 25 = .ok (.getfield 31, 3) := by decide +kernel
theorem dX1_add_28 : decode cX1_add 28 = .ok (.iconst 1, 1) := by decide +kernel
theorem dX1_add_29 : decode cX1_add 29 = .ok (.iadd, 1) := by decide +kernel
theorem dX1_add_30 : decode cX1_add 30 = .ok (.putfield 31, 3) := by decide +kernel
theorem dX1_add_33 : decode cX1_add 33 = .ok (.aload_n 0, 1) := by decide +kernel
theorem dX1_add_34 : decode cX1_add 34 = .ok (.iload_n 1, 1) := by decide +kernel
theorem dX1_add_35 : decode cX1_add 35 = .ok (.invokevirtual 52, 3) := by decide +kernel
theorem dX1_add_38 : decode cX1_add 38 = .ok (.iload_n 1, 1) := by decide +kernel
theorem dX1_add_39 : decode cX1_add 39 = .ok (.ireturn, 1) := by decide +kernel
theorem dX1_change_0 : decode cX1_change 0 = .ok (.aload_n 0, 1) := by decide +kernel
theorem dX1_change_1 : decode cX1_change 1 = .ok (.iload_n 1, 1) := by decide +kernel
theorem dX1_change_2 : decode cX1_change 2 = .ok (.invokevirtual 56, 3) := by decide +kernel
theorem dX1_change_5 : decode cX1_change 5 = .ok (.ifCond .ne 5, 3) := by decide +kernel
theorem dX1_change_8 : decode cX1_change 8 = .ok (.iconst 0, 1) := by decide +kernel
theorem dX1_change_9 : decode cX1_change 9 = .ok (.ireturn, 1) := by decide +kernel
theorem dX1_change_10 : decode cX1_change 10 = .ok (.aload_n 0, 1) := by decide +kernel
theorem dX1_change_11 : decode cX1_change 11 = .ok (.iload_n 1, 1) := by decide +kernel
theorem dX1_change_12 : decode cX1_change 12 = .ok (.invokevirtual 52, 3) := by decide +kernel
theorem dX1_change_15 : decode cX1_change 15 = .ok (.iconst 1, 1) := by decide +kernel
theorem dX1_change_16 : decode cX1_change 16 = .ok (.ireturn, 1) := by decide +kernel
theorem dX1_drop_0 : decode cX1_drop 0 = .ok (.aload_n 0, 1) := by decide +kernel
theorem dX1_drop_1 : decode cX1_drop 1 = .ok (.getfield 31, 3) := by decide +kernel
theorem dX1_drop_4 : decode cX1_drop 4 = .ok (.iconst 1, 1) := by decide +kernel
theorem dX1_drop_5 : decode cX1_drop 5 = .ok (.if_icmp .ge 5, 3) := by decide +kernel
theorem dX1_drop_8 : decode cX1_drop 8 = .ok (.iconst (-1), 1) := by decide +kernel
theorem dX1_drop_9 : decode cX1_drop 9 = .ok (.ireturn, 1) := by decide +kernel
theorem dX1_drop_10 : decode cX1_drop 10 = .ok (.aload_n 0, 1) := by decide +kernel
theorem dX1_drop_11 : decode cX1_drop 11 = .ok (.dup, 1) := by decide +kernel
theorem dX1_drop_12 : decode cX1_drop 12 = .ok (.getfield 31, 3) := by decide +kernel
theorem dX1_drop_15 : decode cX1_drop 15 = .ok (.iconst 1, 1) := by decide +kernel
theorem dX1_drop_16 : decode cX1_drop 16 = .ok (.isub, 1) := by decide +kernel
theorem dX1_drop_17 : decode cX1_drop 17 = .ok (.putfield 31, 3) := by decide +kernel
theorem dX1_drop_20 : decode cX1_drop 20 = .ok (.aload_n 0, 1) := by decide +kernel
theorem dX1_drop_21 : decode cX1_drop 21 = .ok (.dup, 1) := by decide +kernel
theorem dX1_drop_22 : decode cX1_drop 22 = .ok (.getfield 34, 3) := by decide +kernel
theorem dX1_drop_25 : decode cX1_drop 25 = .ok (.aload_n 0, 1) := by decide +kernel
theorem dX1_drop_26 : decode cX1_drop 26 = .ok (.getfield 13, 3) := by decide +kernel
theorem dX1_drop_29 : decode cX1_drop 29 = .ok (.aload_n 0, 1) := by decide +kernel
theorem dX1_drop_30 : decode cX1_drop 30 = .ok (.getfield 31, 3) := by decide +kernel
theorem dX1_drop_33 : decode cX1_drop 33 = .ok (.iaload, 1) := by decide +kernel
theorem dX1_drop_34 : decode cX1_drop 34 = .ok (.isub, 1) := by decide +kernel
theorem dX1_drop_35 : decode cX1_drop 35 = .ok (.putfield 34, 3) := by decide +kernel
theorem dX1_drop_38 : decode cX1_drop 38 = .ok (.aload_n 0, 1) := by decide +kernel
theorem dX1_drop_39 : decode cX1_drop 39 = .ok (.getfield 31, 3) := by decide +kernel
theorem dX1_drop_42 : decode cX1_drop 42 = .ok (.ifCond .le 13, 3) := by decide +kernel
theorem dX1_drop_45 : decode cX1_drop 45 = .ok (.aload_n 0, 1) := by decide +kernel
theorem dX1_drop_46 : decode cX1_drop 46 = .ok (.aload_n 0, 1) := by decide +kernel
theorem dX1_drop_47 : decode cX1_drop 47 = .ok (.getfield 31, 3) := by decide +kernel
theorem dX1_drop_50 : decode cX1_drop 50 = .ok (.iconst 1, 1) := by decide +kernel
theorem dX1_drop_51 : decode cX1_drop 51 = .ok (.isub, 1) := by decide +kernel
theorem dX1_drop_52 : decode cX1_drop 52 = .ok (.invokevirtual 60, 3) := by decide +kernel
theorem dX1_drop_55 : decode cX1_drop 55 = .ok (.aload_n 0, 1) := by decide +kernel
theorem dX1_drop_56 : decode cX1_drop 56 = .ok (.getfield 31, 3) := by decide +kernel
theorem dX1_drop_59 : decode cX1_drop 59 = .ok (.ireturn, 1) := by decide +kernel
theorem dX1_root_0 : decode cX1_root 0 = .ok (.aload_n 0, 1) := by decide +kernel
theorem dX1_root_1 : decode cX1_root 1 = .ok (.getfield 31, 3) := by decide +kernel
theorem dX1_root_4 : decode cX1_root 4 = .ok (.iconst 1, 1) := by decide +kernel
theorem dX1_root_5 : decode cX1_root 5 = .ok (.if_icmp .ge 5, 3) := by decide +kernel
theorem dX1_root_8 : decode cX1_root 8 = .ok (.lconst 0, 1) := by decide +kernel
theorem dX1_root_9 : decode cX1_root 9 = .ok (.lreturn, 1) := by decide +kernel
theorem dX1_root_10 : decode cX1_root 10 = .ok (.aload_n 0, 1) := by decide +kernel
theorem dX1_root_11 : decode cX1_root 11 = .ok (.getstatic 63, 3) := by decide +kernel
theorem dX1_root_14 : decode cX1_root 14 = .ok (.aload_n 0, 1) := by decide +kernel
theorem dX1_root_15 : decode cX1_root 15 = .ok (.invokevirtual 66, 3) := by decide +kernel
theorem dX1_root_18 : decode cX1_root 18 = .ok (.iaload, 1) := by decide +kernel
theorem dX1_root_19 : decode cX1_root 19 = .ok (.iload_n 1, 1) := by decide +kernel
theorem dX1_root_20 : decode cX1_root 20 = .ok (.invokevirtual 48, 3) := by decide +kernel
theorem dX1_root_23 : decode cX1_root 23 = .ok (.lreturn, 1) := by decide +kernel
theorem dX1_way_0 : decode cX1_way 0 = .ok (.aload_n 0, 1) := by decide +kernel
theorem dX1_way_1 : decode cX1_way 1 = .ok (.iload_n 1, 1) := by decide +kernel
theorem dX1_way_2 : decode cX1_way 2 = .ok (.invokevirtual 56, 3) := by decide +kernel
theorem dX1_way_5 : decode cX1_way 5 = .ok (.ifCond .ne 5, 3) := by decide +kernel
theorem dX1_way_8 : decode cX1_way 8 = .ok (.iconst (-1), 1) := by decide +kernel
theorem dX1_way_9 : decode cX1_way 9 = .ok (.ireturn, 1) := by decide +kernel
theorem dX1_way_10 : decode cX1_way 10 = .ok (.iconst 0, 1) := by decide +kernel
theorem dX1_way_11 : decode cX1_way 11 = .ok (.istore_n 2, 1) := by decide +kernel
theorem dX1_way_12 : decode cX1_way 12 = .ok (.iload_n 2, 1) := by decide +kernel
theorem dX1_way_13 : decode cX1_way 13 = .ok (.bipush 8, 2) := by decide +kernel
theorem dX1_way_15 : decode cX1_way 15 = .ok (.if_icmp .ge 18, 3) := by decide +kernel
theorem dX1_way_18 : decode cX1_way 18 = .ok (.aload_n 0, 1) := by decide +kernel
theorem dX1_way_19 : decode cX1_way 19 = .ok (.iload_n 1, 1) := by decide +kernel
theorem dX1_way_20 : decode cX1_way 20 = .ok (.iload_n 2, 1) := by decide +kernel
theorem dX1_way_21 : decode cX1_way 21 = .ok (.invokevirtual 70, 3) := by decide +kernel
theorem dX1_way_24 : decode cX1_way 24 = .ok (.ifCond .lt 9, 3) := by decide +kernel
theorem dX1_way_27 : decode cX1_way 27 = .ok (.iinc 2 1, 3) := by decide +kernel
theorem dX1_way_30 : decode cX1_way 30 = .ok (.goto (-18), 3) := by decide +kernel
theorem dX1_way_33 : decode cX1_way 33 = .ok (.iload_n 2, 1) := by decide +kernel
theorem dX1_way_34 : decode cX1_way 34 = .ok (.ireturn, 1) := by decide +kernel
theorem dX1_beside_0 : decode cX1_beside 0 = .ok (.aload_n 0, 1) := by decide +kernel
theorem dX1_beside_1 : decode cX1_beside 1 = .ok (.iload_n 1, 1) := by decide +kernel
theorem dX1_beside_2 : decode cX1_beside 2 = .ok (.iload_n 2, 1) := by decide +kernel
theorem dX1_beside_3 : decode cX1_beside 3 = .ok (.invokevirtual 70, 3) := by decide +kernel
theorem dX1_beside_6 : decode cX1_beside 6 = .ok (.istore 4, 2) := by decide +kernel
theorem dX1_beside_8 : decode cX1_beside 8 = .ok (.iload 4, 2) := by decide +kernel
theorem dX1_beside_10 : decode cX1_beside 10 = .ok (.ifCond .ge 5, 3) := by decide +kernel
theorem dX1_beside_13 : decode cX1_beside 13 = .ok (.lconst 0, 1) := by decide +kernel
theorem dX1_beside_14 : decode cX1_beside 14 = .ok (.lreturn, 1) := by decide +kernel
theorem dX1_beside_15 : decode cX1_beside 15 = .ok (.aload_n 0, 1) := by decide +kernel
theorem dX1_beside_16 : decode cX1_beside 16 = .ok (.iload 4, 2) := by decide +kernel
theorem dX1_beside_18 : decode cX1_beside 18 = .ok (.iload_n 1, 1) := by decide +kernel
theorem dX1_beside_19 : decode cX1_beside 19 = .ok (.iload 4, 2) := by decide +kernel
theorem dX1_beside_21 : decode cX1_beside 21 = .ok (.ishr, 1) := by decide +kernel
theorem dX1_beside_22 : decode cX1_beside 22 = .ok (.invokestatic 74, 3) := by decide +kernel
theorem dX1_beside_25 : decode cX1_beside 25 = .ok (.iload_n 3, 1) := by decide +kernel
theorem dX1_beside_26 : decode cX1_beside 26 = .ok (.invokevirtual 48, 3) := by decide +kernel
theorem dX1_beside_29 : decode cX1_beside 29 = .ok (.lreturn, 1) := by decide +kernel
theorem dX1_isLeft_0 : decode cX1_isLeft 0 = .ok (.aload_n 0, 1) := by decide +kernel
theorem dX1_isLeft_1 : decode cX1_isLeft 1 = .ok (.iload_n 1, 1) := by decide +kernel
theorem dX1_isLeft_2 : decode cX1_isLeft 2 = .ok (.iload_n 2, 1) := by decide +kernel
theorem dX1_isLeft_3 : decode cX1_isLeft 3 = .ok (.invokevirtual 70, 3) := by decide +kernel
theorem dX1_isLeft_6 : decode cX1_isLeft 6 = .ok (.istore_n 3, 1) := by decide +kernel
theorem dX1_isLeft_7 : decode cX1_isLeft 7 = .ok (.iload_n 3, 1) := by decide +kernel
theorem dX1_isLeft_8 : decode cX1_isLeft 8 = .ok (.ifCond .ge 5, 3) := by decide +kernel
theorem dX1_isLeft_11 : decode cX1_isLeft 11 = .ok (.iconst (-1), 1) := by decide +kernel
theorem dX1_isLeft_12 : decode cX1_isLeft 12 = .ok (.ireturn, 1) := by decide +kernel
theorem dX1_isLeft_13 : decode cX1_isLeft 13 = .ok (.iload_n 1, 1) := by decide +kernel
theorem dX1_isLeft_14 : decode cX1_isLeft 14 = .ok (.iload_n 3, 1) := by decide +kernel
theorem dX1_isLeft_15 : decode cX1_isLeft 15 = .ok (.ishr, 1) := by decide +kernel
theorem dX1_isLeft_16 : decode cX1_isLeft 16 = .ok (.iconst 1, 1) := by decide +kernel
theorem dX1_isLeft_17 : decode cX1_isLeft 17 = .ok (.iand, 1) := by decide +kernel
theorem dX1_isLeft_18 : decode cX1_isLeft 18 = .ok (.ireturn, 1) := by decide +kernel
theorem dX1_proves_0 : decode cX1_proves 0 = .ok (.aload_n 0, 1) := by decide +kernel
theorem dX1_proves_1 : decode cX1_proves 1 = .ok (.iload_n 1, 1) := by decide +kernel
theorem dX1_proves_2 : decode cX1_proves 2 = .ok (.invokevirtual 56, 3) := by decide +kernel
theorem dX1_proves_5 : decode cX1_proves 5 = .ok (.ifCond .ne 5, 3) := by decide +kernel
theorem dX1_proves_8 : decode cX1_proves 8 = .ok (.iconst (-1), 1) := by decide +kernel
theorem dX1_proves_9 : decode cX1_proves 9 = .ok (.ireturn, 1) := by decide +kernel
theorem dX1_proves_10 : decode cX1_proves 10 = .ok (.aload_n 0, 1) := by decide +kernel
theorem dX1_proves_11 : decode cX1_proves 11 = .ok (.sipush 202, 3) := by decide +kernel
theorem dX1_proves_14 : decode cX1_proves 14 = .ok (.invokevirtual 77, 3) := by decide +kernel
theorem dX1_proves_17 : decode cX1_proves 17 = .ok (.aload_n 0, 1) := by decide +kernel
theorem dX1_proves_18 : decode cX1_proves 18 = .ok (.getfield 31, 3) := by decide +kernel
theorem dX1_proves_21 : decode cX1_proves 21 = .ok (.istore_n 2, 1) := by decide +kernel
theorem dX1_proves_22 : decode cX1_proves 22 = .ok (.iconst 0, 1) := by decide +kernel
theorem dX1_proves_23 : decode cX1_proves 23 = .ok (.istore_n 3, 1) := by decide +kernel
theorem dX1_proves_24 : decode cX1_proves 24 = .ok (.iload_n 3, 1) := by decide +kernel
theorem dX1_proves_25 : decode cX1_proves 25 = .ok (.bipush 8, 2) := by decide +kernel
theorem dX1_proves_27 : decode cX1_proves 27 = .ok (.if_icmp .ge 84, 3) := by decide +kernel
theorem dX1_proves_30 : decode cX1_proves 30 = .ok (.iload_n 1, 1) := by decide +kernel
theorem dX1_proves_31 : decode cX1_proves 31 = .ok (.iload_n 3, 1) := by decide +kernel
theorem dX1_proves_32 : decode cX1_proves 32 = .ok (.ishr, 1) := by decide +kernel
theorem dX1_proves_33 : decode cX1_proves 33 = .ok (.istore 4, 2) := by decide +kernel
theorem dX1_proves_35 : decode cX1_proves 35 = .ok (.iload 4, 2) := by decide +kernel
theorem dX1_proves_37 : decode cX1_proves 37 = .ok (.iload_n 2, 1) := by decide +kernel
theorem dX1_proves_38 : decode cX1_proves 38 = .ok (.invokestatic 80, 3) := by decide +kernel
theorem dX1_proves_41 : decode cX1_proves 41 = .ok (.ifCond .eq 59, 3) := by decide +kernel
theorem dX1_proves_44 : decode cX1_proves 44 = .ok (.iload_n 3, 1) := by decide +kernel
theorem dX1_proves_45 : decode cX1_proves 45 = .ok (.iload 4, 2) := by decide +kernel
theorem dX1_proves_47 : decode cX1_proves 47 = .ok (.invokestatic 74, 3) := by decide +kernel
theorem dX1_proves_50 : decode cX1_proves 50 = .ok (.istore 5, 2) := by decide +kernel
theorem dX1_proves_52 : decode cX1_proves 52 = .ok (.iload 4, 2) := by decide +kernel
theorem dX1_proves_54 : decode cX1_proves 54 = .ok (.iconst 1, 1) := by decide +kernel
theorem dX1_proves_55 : decode cX1_proves 55 = .ok (.iand, 1) := by decide +kernel
theorem dX1_proves_56 : decode cX1_proves 56 = .ok (.iconst 1, 1) := by decide +kernel
theorem dX1_proves_57 : decode cX1_proves 57 = .ok (.if_icmp .ne 7, 3) := by decide +kernel
theorem dX1_proves_60 : decode cX1_proves 60 = .ok (.iconst 1, 1) := by decide +kernel
theorem dX1_proves_61 : decode cX1_proves 61 = .ok (.goto 4, 3) := by decide +kernel
theorem dX1_proves_64 : decode cX1_proves 64 = .ok (.iconst 0, 1) := by decide +kernel
theorem dX1_proves_65 : decode cX1_proves 65 = .ok (.istore 6, 2) := by decide +kernel
theorem dX1_proves_67 : decode cX1_proves 67 = .ok (.aload_n 0, 1) := by decide +kernel
theorem dX1_proves_68 : decode cX1_proves 68 = .ok (.iload 6, 2) := by decide +kernel
theorem dX1_proves_70 : decode cX1_proves 70 = .ok (.ifCond .eq 8, 3) := by decide +kernel
theorem dX1_proves_73 : decode cX1_proves 73 = .ok (.iload 5, 2) := by decide +kernel
theorem dX1_proves_75 : decode cX1_proves 75 = .ok (.goto 6, 3) := by decide +kernel
theorem dX1_proves_78 : decode cX1_proves 78 = .ok (.sipush 202, 3) := by decide +kernel
theorem dX1_proves_81 : decode cX1_proves 81 = .ok (.iload 6, 2) := by decide +kernel
theorem dX1_proves_83 : decode cX1_proves 83 = .ok (.ifCond .eq 9, 3) := by decide +kernel
theorem dX1_proves_86 : decode cX1_proves 86 = .ok (.sipush 202, 3) := by decide +kernel
theorem dX1_proves_89 : decode cX1_proves 89 = .ok (.goto 5, 3) := by decide +kernel
theorem dX1_proves_92 : decode cX1_proves 92 = .ok (.iload 5, 2) := by decide +kernel
theorem dX1_proves_94 : decode cX1_proves 94 = .ok (.sipush 202, 3) := by decide +kernel
theorem dX1_proves_97 : decode cX1_proves 97 = .ok (.invokevirtual 84, 3) := by decide +kernel
theorem dX1_proves_100 : decode cX1_proves 100 = .ok (.iload_n 2, 1) := by decide +kernel
theorem dX1_proves_101 : decode cX1_proves 101 = .ok (.invokestatic 88, 3) := by decide +kernel
theorem dX1_proves_104 : decode cX1_proves 104 = .ok (.istore_n 2, 1) := by decide +kernel
theorem dX1_proves_105 : decode cX1_proves 105 = .ok (.iinc 3 1, 3) := by decide +kernel
theorem dX1_proves_108 : decode cX1_proves 108 = .ok (.goto (-84), 3) := by decide +kernel
theorem dX1_proves_111 : decode cX1_proves 111 = .ok (.aload_n 0, 1) := by decide +kernel
theorem dX1_proves_112 : decode cX1_proves 112 = .ok (.sipush 202, 3) := by decide +kernel
theorem dX1_proves_115 : decode cX1_proves 115 = .ok (.getstatic 63, 3) := by decide +kernel
theorem dX1_proves_118 : decode cX1_proves 118 = .ok (.aload_n 0, 1) := by decide +kernel
theorem dX1_proves_119 : decode cX1_proves 119 = .ok (.invokevirtual 66, 3) := by decide +kernel
theorem dX1_proves_122 : decode cX1_proves 122 = .ok (.iaload, 1) := by decide +kernel
theorem dX1_proves_123 : decode cX1_proves 123 = .ok (.invokevirtual 92, 3) := by decide +kernel
theorem dX1_proves_126 : decode cX1_proves 126 = .ok (.ifCond .eq 7, 3) := by decide +kernel
theorem dX1_proves_129 : decode cX1_proves 129 = .ok (.iconst 1, 1) := by decide +kernel
theorem dX1_proves_130 : decode cX1_proves 130 = .ok (.goto 4, 3) := by decide +kernel
theorem dX1_proves_133 : decode cX1_proves 133 = .ok (.iconst 0, 1) := by decide +kernel
theorem dX1_proves_134 : decode cX1_proves 134 = .ok (.ireturn, 1) := by decide +kernel
theorem dX1_count_0 : decode cX1_count 0 = .ok (.iload_n 1, 1) := by decide +kernel
theorem dX1_count_1 : decode cX1_count 1 = .ok (.tableswitch 65 0 3 #[31, 36, 41, 60], 31) := by decide +kernel
theorem dX1_count_32 : decode cX1_count 32 = .ok (.aload_n 0, 1) := by decide +kernel
theorem dX1_count_33 : decode cX1_count 33 = .ok (.getfield 27, 3) := by decide +kernel
theorem dX1_count_36 : decode cX1_count 36 = .ok (.ireturn, 1) := by decide +kernel
theorem dX1_count_37 : decode cX1_count 37 = .ok (.aload_n 0, 1) := by decide +kernel
theorem dX1_count_38 : decode cX1_count 38 = .ok (.getfield 31, 3) := by decide +kernel
theorem dX1_count_41 : decode cX1_count 41 = .ok (.ireturn, 1) := by decide +kernel
theorem dX1_count_42 : decode cX1_count 42 = .ok (.aload_n 0, 1) := by decide +kernel
theorem dX1_count_43 : decode cX1_count 43 = .ok (.getfield 31, 3) := by decide +kernel
theorem dX1_count_46 : decode cX1_count 46 = .ok (.iconst 1, 1) := by decide +kernel
theorem dX1_count_47 : decode cX1_count 47 = .ok (.if_icmp .ge 7, 3) := by decide +kernel
theorem dX1_count_50 : decode cX1_count 50 = .ok (.iconst 0, 1) := by decide +kernel
theorem dX1_count_51 : decode cX1_count 51 = .ok (.goto 9, 3) := by decide +kernel
theorem dX1_count_54 : decode cX1_count 54 = .ok (.aload_n 0, 1) := by decide +kernel
theorem dX1_count_55 : decode cX1_count 55 = .ok (.invokevirtual 66, 3) := by decide +kernel
theorem dX1_count_58 : decode cX1_count 58 = .ok (.iconst 1, 1) := by decide +kernel
theorem dX1_count_59 : decode cX1_count 59 = .ok (.iadd, 1) := by decide +kernel
theorem dX1_count_60 : decode cX1_count 60 = .ok (.ireturn, 1) := by decide +kernel
theorem dX1_count_61 : decode cX1_count 61 = .ok (.aload_n 0, 1) := by decide +kernel
theorem dX1_count_62 : decode cX1_count 62 = .ok (.getfield 34, 3) := by decide +kernel
theorem dX1_count_65 : decode cX1_count 65 = .ok (.ireturn, 1) := by decide +kernel
theorem dX1_count_66 : decode cX1_count 66 = .ok (.iconst (-1), 1) := by decide +kernel
theorem dX1_count_67 : decode cX1_count 67 = .ok (.ireturn, 1) := by decide +kernel
theorem dX1_isLeaf_0 : decode cX1_isLeaf 0 = .ok (.iload_n 1, 1) := by decide +kernel
theorem dX1_isLeaf_1 : decode cX1_isLeaf 1 = .ok (.ifCond .lt 15, 3) := by decide +kernel
theorem dX1_isLeaf_4 : decode cX1_isLeaf 4 = .ok (.iload_n 1, 1) := by decide +kernel
theorem dX1_isLeaf_5 : decode cX1_isLeaf 5 = .ok (.aload_n 0, 1) := by decide +kernel
theorem dX1_isLeaf_6 : decode cX1_isLeaf 6 = .ok (.getfield 31, 3) := by decide +kernel
theorem dX1_isLeaf_9 : decode cX1_isLeaf 9 = .ok (.if_icmp .ge 7, 3) := by decide +kernel
theorem dX1_isLeaf_12 : decode cX1_isLeaf 12 = .ok (.iconst 1, 1) := by decide +kernel
theorem dX1_isLeaf_13 : decode cX1_isLeaf 13 = .ok (.goto 4, 3) := by decide +kernel
theorem dX1_isLeaf_16 : decode cX1_isLeaf 16 = .ok (.iconst 0, 1) := by decide +kernel
theorem dX1_isLeaf_17 : decode cX1_isLeaf 17 = .ok (.ireturn, 1) := by decide +kernel
theorem dX1_moveTapeTo_0 : decode cX1_moveTapeTo 0 = .ok (.aload_n 0, 1) := by decide +kernel
theorem dX1_moveTapeTo_1 : decode cX1_moveTapeTo 1 = .ok (.iload_n 1, 1) := by decide +kernel
theorem dX1_moveTapeTo_2 : decode cX1_moveTapeTo 2 = .ok (.invokevirtual 77, 3) := by decide +kernel
theorem dX1_moveTapeTo_5 : decode cX1_moveTapeTo 5 = .ok (.aload_n 0, 1) := by decide +kernel
theorem dX1_moveTapeTo_6 : decode cX1_moveTapeTo 6 = .ok (.dup, 1) := by decide +kernel
theorem dX1_moveTapeTo_7 : decode cX1_moveTapeTo 7 = .ok (.getfield 34, 3) := by decide +kernel
theorem dX1_moveTapeTo_10 : decode cX1_moveTapeTo 10 = .ok (.aload_n 0, 1) := by decide +kernel
theorem dX1_moveTapeTo_11 : decode cX1_moveTapeTo 11 = .ok (.getfield 27, 3) := by decide +kernel
theorem dX1_moveTapeTo_14 : decode cX1_moveTapeTo 14 = .ok (.aload_n 0, 1) := by decide +kernel
theorem dX1_moveTapeTo_15 : decode cX1_moveTapeTo 15 = .ok (.getfield 13, 3) := by decide +kernel
theorem dX1_moveTapeTo_18 : decode cX1_moveTapeTo 18 = .ok (.iload_n 1, 1) := by decide +kernel
theorem dX1_moveTapeTo_19 : decode cX1_moveTapeTo 19 = .ok (.iaload, 1) := by decide +kernel
theorem dX1_moveTapeTo_20 : decode cX1_moveTapeTo 20 = .ok (.isub, 1) := by decide +kernel
theorem dX1_moveTapeTo_21 : decode cX1_moveTapeTo 21 = .ok (.iadd, 1) := by decide +kernel
theorem dX1_moveTapeTo_22 : decode cX1_moveTapeTo 22 = .ok (.putfield 34, 3) := by decide +kernel
theorem dX1_moveTapeTo_25 : decode cX1_moveTapeTo 25 = .ok (.aload_n 0, 1) := by decide +kernel
theorem dX1_moveTapeTo_26 : decode cX1_moveTapeTo 26 = .ok (.getfield 13, 3) := by decide +kernel
theorem dX1_moveTapeTo_29 : decode cX1_moveTapeTo 29 = .ok (.iload_n 1, 1) := by decide +kernel
theorem dX1_moveTapeTo_30 : decode cX1_moveTapeTo 30 = .ok (.aload_n 0, 1) := by decide +kernel
theorem dX1_moveTapeTo_31 : decode cX1_moveTapeTo 31 = .ok (.getfield 27, 3) := by decide +kernel
theorem dX1_moveTapeTo_34 : decode cX1_moveTapeTo 34 = .ok (.iastore, 1) := by decide +kernel
theorem dX1_moveTapeTo_35 : decode cX1_moveTapeTo 35 = .ok (.aload_n 0, 1) := by decide +kernel
theorem dX1_moveTapeTo_36 : decode cX1_moveTapeTo 36 = .ok (.iconst 0, 1) := by decide +kernel
theorem dX1_moveTapeTo_37 : decode cX1_moveTapeTo 37 = .ok (.putfield 27, 3) := by decide +kernel
theorem dX1_moveTapeTo_40 : decode cX1_moveTapeTo 40 = .ok (.aload_n 0, 1) := by decide +kernel
theorem dX1_moveTapeTo_41 : decode cX1_moveTapeTo 41 = .ok (.iload_n 1, 1) := by decide +kernel
theorem dX1_moveTapeTo_42 : decode cX1_moveTapeTo 42 = .ok (.invokevirtual 60, 3) := by decide +kernel
theorem dX1_moveTapeTo_45 : decode cX1_moveTapeTo 45 = .ok (.return_, 1) := by decide +kernel
theorem dX1_makeLeafId_0 : decode cX1_makeLeafId 0 = .ok (.aload_n 0, 1) := by decide +kernel
theorem dX1_makeLeafId_1 : decode cX1_makeLeafId 1 = .ok (.getfield 23, 3) := by decide +kernel
theorem dX1_makeLeafId_4 : decode cX1_makeLeafId 4 = .ok (.invokevirtual 37, 3) := by decide +kernel
theorem dX1_makeLeafId_7 : decode cX1_makeLeafId 7 = .ok (.aload_n 0, 1) := by decide +kernel
theorem dX1_makeLeafId_8 : decode cX1_makeLeafId 8 = .ok (.getfield 23, 3) := by decide +kernel
theorem dX1_makeLeafId_11 : decode cX1_makeLeafId 11 = .ok (.iconst 0, 1) := by decide +kernel
theorem dX1_makeLeafId_12 : decode cX1_makeLeafId 12 = .ok (.invokevirtual 95, 3) := by decide +kernel
theorem dX1_makeLeafId_15 : decode cX1_makeLeafId 15 = .ok (.aload_n 0, 1) := by decide +kernel
theorem dX1_makeLeafId_16 : decode cX1_makeLeafId 16 = .ok (.getfield 23, 3) := by decide +kernel
theorem dX1_makeLeafId_19 : decode cX1_makeLeafId 19 = .ok (.aload_n 0, 1) := by decide +kernel
theorem dX1_makeLeafId_20 : decode cX1_makeLeafId 20 = .ok (.getfield 9, 3) := by decide +kernel
theorem dX1_makeLeafId_23 : decode cX1_makeLeafId 23 = .ok (.aload_n 0, 1) := by decide +kernel
theorem dX1_makeLeafId_24 : decode cX1_makeLeafId 24 = .ok (.getfield 27, 3) := by decide +kernel
theorem dX1_makeLeafId_27 : decode cX1_makeLeafId 27 = .ok (.invokevirtual 40, 3) := by decide +kernel
theorem dX1_makeLeafId_30 : decode cX1_makeLeafId 30 = .ok (.aload_n 0, 1) := by decide +kernel
theorem dX1_makeLeafId_31 : decode cX1_makeLeafId 31 = .ok (.getfield 23, 3) := by decide +kernel
theorem dX1_makeLeafId_34 : decode cX1_makeLeafId 34 = .ok (.aload_n 0, 1) := by decide +kernel
theorem dX1_makeLeafId_35 : decode cX1_makeLeafId 35 = .ok (.getfield 17, 3) := by decide +kernel
theorem dX1_makeLeafId_38 : decode cX1_makeLeafId 38 = .ok (.iload_n 1, 1) := by decide +kernel
theorem dX1_makeLeafId_39 : decode cX1_makeLeafId 39 = .ok (.bipush 8, 2) := by decide +kernel
theorem dX1_makeLeafId_41 : decode cX1_makeLeafId 41 = .ok (.imul, 1) := by decide +kernel
theorem dX1_makeLeafId_42 : decode cX1_makeLeafId 42 = .ok (.invokevirtual 44, 3) := by decide +kernel
theorem dX1_makeLeafId_45 : decode cX1_makeLeafId 45 = .ok (.return_, 1) := by decide +kernel
theorem dX1_join_0 : decode cX1_join 0 = .ok (.aload_n 0, 1) := by decide +kernel
theorem dX1_join_1 : decode cX1_join 1 = .ok (.getfield 23, 3) := by decide +kernel
theorem dX1_join_4 : decode cX1_join 4 = .ok (.invokevirtual 37, 3) := by decide +kernel
theorem dX1_join_7 : decode cX1_join 7 = .ok (.aload_n 0, 1) := by decide +kernel
theorem dX1_join_8 : decode cX1_join 8 = .ok (.getfield 23, 3) := by decide +kernel
theorem dX1_join_11 : decode cX1_join 11 = .ok (.iconst 1, 1) := by decide +kernel
theorem dX1_join_12 : decode cX1_join 12 = .ok (.invokevirtual 95, 3) := by decide +kernel
theorem dX1_join_15 : decode cX1_join 15 = .ok (.aload_n 0, 1) := by decide +kernel
theorem dX1_join_16 : decode cX1_join 16 = .ok (.getfield 23, 3) := by decide +kernel
theorem dX1_join_19 : decode cX1_join 19 = .ok (.aload_n 0, 1) := by decide +kernel
theorem dX1_join_20 : decode cX1_join 20 = .ok (.getfield 17, 3) := by decide +kernel
theorem dX1_join_23 : decode cX1_join 23 = .ok (.iload_n 1, 1) := by decide +kernel
theorem dX1_join_24 : decode cX1_join 24 = .ok (.bipush 8, 2) := by decide +kernel
theorem dX1_join_26 : decode cX1_join 26 = .ok (.imul, 1) := by decide +kernel
theorem dX1_join_27 : decode cX1_join 27 = .ok (.invokevirtual 98, 3) := by decide +kernel
theorem dX1_join_30 : decode cX1_join 30 = .ok (.aload_n 0, 1) := by decide +kernel
theorem dX1_join_31 : decode cX1_join 31 = .ok (.getfield 23, 3) := by decide +kernel
theorem dX1_join_34 : decode cX1_join 34 = .ok (.aload_n 0, 1) := by decide +kernel
theorem dX1_join_35 : decode cX1_join 35 = .ok (.getfield 17, 3) := by decide +kernel
theorem dX1_join_38 : decode cX1_join 38 = .ok (.iload_n 2, 1) := by decide +kernel
theorem dX1_join_39 : decode cX1_join 39 = .ok (.bipush 8, 2) := by decide +kernel
theorem dX1_join_41 : decode cX1_join 41 = .ok (.imul, 1) := by decide +kernel
theorem dX1_join_42 : decode cX1_join 42 = .ok (.invokevirtual 98, 3) := by decide +kernel
theorem dX1_join_45 : decode cX1_join 45 = .ok (.aload_n 0, 1) := by decide +kernel
theorem dX1_join_46 : decode cX1_join 46 = .ok (.getfield 23, 3) := by decide +kernel
theorem dX1_join_49 : decode cX1_join 49 = .ok (.aload_n 0, 1) := by decide +kernel
theorem dX1_join_50 : decode cX1_join 50 = .ok (.getfield 17, 3) := by decide +kernel
theorem dX1_join_53 : decode cX1_join 53 = .ok (.iload_n 3, 1) := by decide +kernel
theorem dX1_join_54 : decode cX1_join 54 = .ok (.bipush 8, 2) := by decide +kernel
theorem dX1_join_56 : decode cX1_join 56 = .ok (.imul, 1) := by decide +kernel
theorem dX1_join_57 : decode cX1_join 57 = .ok (.invokevirtual 44, 3) := by decide +kernel
theorem dX1_join_60 : decode cX1_join 60 = .ok (.return_, 1) := by decide +kernel
theorem dX1_refreshAbove_0 : decode cX1_refreshAbove 0 = .ok (.aload_n 0, 1) := by decide +kernel
theorem dX1_refreshAbove_1 : decode cX1_refreshAbove 1 = .ok (.getfield 31, 3) := by decide +kernel
theorem dX1_refreshAbove_4 : decode cX1_refreshAbove 4 = .ok (.istore_n 2, 1) := by decide +kernel
theorem dX1_refreshAbove_5 : decode cX1_refreshAbove 5 = .ok (.iconst 0, 1) := by decide +kernel
theorem dX1_refreshAbove_6 : decode cX1_refreshAbove 6 = .ok (.istore_n 3, 1) := by decide +kernel
theorem dX1_refreshAbove_7 : decode cX1_refreshAbove 7 = .ok (.iload_n 3, 1) := by decide +kernel
theorem dX1_refreshAbove_8 : decode cX1_refreshAbove 8 = .ok (.iconst 1, 1) := by decide +kernel
theorem dX1_refreshAbove_9 : decode cX1_refreshAbove 9 = .ok (.iadd, 1) := by decide +kernel
theorem dX1_refreshAbove_10 : decode cX1_refreshAbove 10 = .ok (.bipush 8, 2) := by decide +kernel
theorem dX1_refreshAbove_12 : decode cX1_refreshAbove 12 = .ok (.if_icmp .ge 83, 3) := by decide +kernel
theorem dX1_refreshAbove_15 : decode cX1_refreshAbove 15 = .ok (.iload_n 2, 1) := by decide +kernel
theorem dX1_refreshAbove_16 : decode cX1_refreshAbove 16 = .ok (.iconst 1, 1) := by decide +kernel
theorem dX1_refreshAbove_17 : decode cX1_refreshAbove 17 = .ok (.if_icmp .le 78, 3) := by decide +kernel
theorem dX1_refreshAbove_20 : decode cX1_refreshAbove 20 = .ok (.iload_n 1, 1) := by decide +kernel
theorem dX1_refreshAbove_21 : decode cX1_refreshAbove 21 = .ok (.iload_n 3, 1) := by decide +kernel
theorem dX1_refreshAbove_22 : decode cX1_refreshAbove 22 = .ok (.ishr, 1) := by decide +kernel
theorem dX1_refreshAbove_23 : decode cX1_refreshAbove 23 = .ok (.istore 4, 2) := by decide +kernel
theorem dX1_refreshAbove_25 : decode cX1_refreshAbove 25 = .ok (.getstatic 63, 3) := by decide +kernel
theorem dX1_refreshAbove_28 : decode cX1_refreshAbove 28 = .ok (.iload_n 3, 1) := by decide +kernel
theorem dX1_refreshAbove_29 : decode cX1_refreshAbove 29 = .ok (.iaload, 1) := by decide +kernel
theorem dX1_refreshAbove_30 : decode cX1_refreshAbove 30 = .ok (.iload 4, 2) := by decide +kernel
theorem dX1_refreshAbove_32 : decode cX1_refreshAbove 32 = .ok (.bipush (-2), 2) := by decide +kernel
theorem dX1_refreshAbove_34 : decode cX1_refreshAbove 34 = .ok (.iand, 1) := by decide +kernel
theorem dX1_refreshAbove_35 : decode cX1_refreshAbove 35 = .ok (.iadd, 1) := by decide +kernel
theorem dX1_refreshAbove_36 : decode cX1_refreshAbove 36 = .ok (.istore 5, 2) := by decide +kernel
theorem dX1_refreshAbove_38 : decode cX1_refreshAbove 38 = .ok (.getstatic 63, 3) := by decide +kernel
theorem dX1_refreshAbove_41 : decode cX1_refreshAbove 41 = .ok (.iload_n 3, 1) := by decide +kernel
theorem dX1_refreshAbove_42 : decode cX1_refreshAbove 42 = .ok (.iconst 1, 1) := by decide +kernel
theorem dX1_refreshAbove_43 : decode cX1_refreshAbove 43 = .ok (.iadd, 1) := by decide +kernel
theorem dX1_refreshAbove_44 : decode cX1_refreshAbove 44 = .ok (.iaload, 1) := by decide +kernel
theorem dX1_refreshAbove_45 : decode cX1_refreshAbove 45 = .ok (.iload 4, 2) := by decide +kernel
theorem dX1_refreshAbove_47 : decode cX1_refreshAbove 47 = .ok (.iconst 1, 1) := by decide +kernel
theorem dX1_refreshAbove_48 : decode cX1_refreshAbove 48 = .ok (.ishr, 1) := by decide +kernel
theorem dX1_refreshAbove_49 : decode cX1_refreshAbove 49 = .ok (.iadd, 1) := by decide +kernel
theorem dX1_refreshAbove_50 : decode cX1_refreshAbove 50 = .ok (.istore 6, 2) := by decide +kernel
theorem dX1_refreshAbove_52 : decode cX1_refreshAbove 52 = .ok (.iload 4, 2) := by decide +kernel
theorem dX1_refreshAbove_54 : decode cX1_refreshAbove 54 = .ok (.iload_n 2, 1) := by decide +kernel
theorem dX1_refreshAbove_55 : decode cX1_refreshAbove 55 = .ok (.invokestatic 80, 3) := by decide +kernel
theorem dX1_refreshAbove_58 : decode cX1_refreshAbove 58 = .ok (.ifCond .eq 18, 3) := by decide +kernel
theorem dX1_refreshAbove_61 : decode cX1_refreshAbove 61 = .ok (.aload_n 0, 1) := by decide +kernel
theorem dX1_refreshAbove_62 : decode cX1_refreshAbove 62 = .ok (.iload 5, 2) := by decide +kernel
theorem dX1_refreshAbove_64 : decode cX1_refreshAbove 64 = .ok (.iload 5, 2) := by decide +kernel
theorem dX1_refreshAbove_66 : decode cX1_refreshAbove 66 = .ok (.iconst 1, 1) := by decide +kernel
theorem dX1_refreshAbove_67 : decode cX1_refreshAbove 67 = .ok (.iadd, 1) := by decide +kernel
theorem dX1_refreshAbove_68 : decode cX1_refreshAbove 68 = .ok (.iload 6, 2) := by decide +kernel
theorem dX1_refreshAbove_70 : decode cX1_refreshAbove 70 = .ok (.invokevirtual 84, 3) := by decide +kernel
theorem dX1_refreshAbove_73 : decode cX1_refreshAbove 73 = .ok (.goto 11, 3) := by decide +kernel
theorem dX1_refreshAbove_76 : decode cX1_refreshAbove 76 = .ok (.aload_n 0, 1) := by decide +kernel
theorem dX1_refreshAbove_77 : decode cX1_refreshAbove 77 = .ok (.iload 5, 2) := by decide +kernel
theorem dX1_refreshAbove_79 : decode cX1_refreshAbove 79 = .ok (.iload 6, 2) := by decide +kernel
theorem dX1_refreshAbove_81 : decode cX1_refreshAbove 81 = .ok (.invokevirtual 101, 3) := by decide +kernel
theorem dX1_refreshAbove_84 : decode cX1_refreshAbove 84 = .ok (.iload_n 2, 1) := by decide +kernel
theorem dX1_refreshAbove_85 : decode cX1_refreshAbove 85 = .ok (.invokestatic 88, 3) := by decide +kernel
theorem dX1_refreshAbove_88 : decode cX1_refreshAbove 88 = .ok (.istore_n 2, 1) := by decide +kernel
theorem dX1_refreshAbove_89 : decode cX1_refreshAbove 89 = .ok (.iinc 3 1, 3) := by decide +kernel
theorem dX1_refreshAbove_92 : decode cX1_refreshAbove 92 = .ok (.goto (-85), 3) := by decide +kernel
theorem dX1_refreshAbove_95 : decode cX1_refreshAbove 95 = .ok (.return_, 1) := by decide +kernel
theorem dX1_copyId_0 : decode cX1_copyId 0 = .ok (.iconst 0, 1) := by decide +kernel
theorem dX1_copyId_1 : decode cX1_copyId 1 = .ok (.istore_n 3, 1) := by decide +kernel
theorem dX1_copyId_2 : decode cX1_copyId 2 = .ok (.iload_n 3, 1) := by decide +kernel
theorem dX1_copyId_3 : decode cX1_copyId 3 = .ok (.bipush 8, 2) := by decide +kernel
theorem dX1_copyId_5 : decode cX1_copyId 5 = .ok (.if_icmp .ge 31, 3) := by decide +kernel
theorem dX1_copyId_8 : decode cX1_copyId 8 = .ok (.aload_n 0, 1) := by decide +kernel
theorem dX1_copyId_9 : decode cX1_copyId 9 = .ok (.getfield 17, 3) := by decide +kernel
theorem dX1_copyId_12 : decode cX1_copyId 12 = .ok (.iload_n 2, 1) := by decide +kernel
theorem dX1_copyId_13 : decode cX1_copyId 13 = .ok (.bipush 8, 2) := by decide +kernel
theorem dX1_copyId_15 : decode cX1_copyId 15 = .ok (.imul, 1) := by decide +kernel
theorem dX1_copyId_16 : decode cX1_copyId 16 = .ok (.iload_n 3, 1) := by decide +kernel
theorem dX1_copyId_17 : decode cX1_copyId 17 = .ok (.iadd, 1) := by decide +kernel
theorem dX1_copyId_18 : decode cX1_copyId 18 = .ok (.aload_n 0, 1) := by decide +kernel
theorem dX1_copyId_19 : decode cX1_copyId 19 = .ok (.getfield 17, 3) := by decide +kernel
theorem dX1_copyId_22 : decode cX1_copyId 22 = .ok (.iload_n 1, 1) := by decide +kernel
theorem dX1_copyId_23 : decode cX1_copyId 23 = .ok (.bipush 8, 2) := by decide +kernel
theorem dX1_copyId_25 : decode cX1_copyId 25 = .ok (.imul, 1) := by decide +kernel
theorem dX1_copyId_26 : decode cX1_copyId 26 = .ok (.iload_n 3, 1) := by decide +kernel
theorem dX1_copyId_27 : decode cX1_copyId 27 = .ok (.iadd, 1) := by decide +kernel
theorem dX1_copyId_28 : decode cX1_copyId 28 = .ok (.iaload, 1) := by decide +kernel
theorem dX1_copyId_29 : decode cX1_copyId 29 = .ok (.iastore, 1) := by decide +kernel
theorem dX1_copyId_30 : decode cX1_copyId 30 = .ok (.iinc 3 1, 3) := by decide +kernel
theorem dX1_copyId_33 : decode cX1_copyId 33 = .ok (.goto (-31), 3) := by decide +kernel
theorem dX1_copyId_36 : decode cX1_copyId 36 = .ok (.return_, 1) := by decide +kernel
theorem dX1_sameIds_0 : decode cX1_sameIds 0 = .ok (.iconst 0, 1) := by decide +kernel
theorem dX1_sameIds_1 : decode cX1_sameIds 1 = .ok (.istore_n 3, 1) := by decide +kernel
theorem dX1_sameIds_2 : decode cX1_sameIds 2 = .ok (.iload_n 3, 1) := by decide +kernel
theorem dX1_sameIds_3 : decode cX1_sameIds 3 = .ok (.bipush 8, 2) := by decide +kernel
theorem dX1_sameIds_5 : decode cX1_sameIds 5 = .ok (.if_icmp .ge 36, 3) := by decide +kernel
theorem dX1_sameIds_8 : decode cX1_sameIds 8 = .ok (.aload_n 0, 1) := by decide +kernel
theorem dX1_sameIds_9 : decode cX1_sameIds 9 = .ok (.getfield 17, 3) := by decide +kernel
theorem dX1_sameIds_12 : decode cX1_sameIds 12 = .ok (.iload_n 1, 1) := by decide +kernel
theorem dX1_sameIds_13 : decode cX1_sameIds 13 = .ok (.bipush 8, 2) := by decide +kernel
theorem dX1_sameIds_15 : decode cX1_sameIds 15 = .ok (.imul, 1) := by decide +kernel
theorem dX1_sameIds_16 : decode cX1_sameIds 16 = .ok (.iload_n 3, 1) := by decide +kernel
theorem dX1_sameIds_17 : decode cX1_sameIds 17 = .ok (.iadd, 1) := by decide +kernel
theorem dX1_sameIds_18 : decode cX1_sameIds 18 = .ok (.iaload, 1) := by decide +kernel
theorem dX1_sameIds_19 : decode cX1_sameIds 19 = .ok (.aload_n 0, 1) := by decide +kernel
theorem dX1_sameIds_20 : decode cX1_sameIds 20 = .ok (.getfield 17, 3) := by decide +kernel
theorem dX1_sameIds_23 : decode cX1_sameIds 23 = .ok (.iload_n 2, 1) := by decide +kernel
theorem dX1_sameIds_24 : decode cX1_sameIds 24 = .ok (.bipush 8, 2) := by decide +kernel
theorem dX1_sameIds_26 : decode cX1_sameIds 26 = .ok (.imul, 1) := by decide +kernel
theorem dX1_sameIds_27 : decode cX1_sameIds 27 = .ok (.iload_n 3, 1) := by decide +kernel
theorem dX1_sameIds_28 : decode cX1_sameIds 28 = .ok (.iadd, 1) := by decide +kernel
theorem dX1_sameIds_29 : decode cX1_sameIds 29 = .ok (.iaload, 1) := by decide +kernel
theorem dX1_sameIds_30 : decode cX1_sameIds 30 = .ok (.if_icmp .eq 5, 3) := by decide +kernel
theorem dX1_sameIds_33 : decode cX1_sameIds 33 = .ok (.iconst 0, 1) := by decide +kernel
theorem dX1_sameIds_34 : decode cX1_sameIds 34 = .ok (.ireturn, 1) := by decide +kernel
theorem dX1_sameIds_35 : decode cX1_sameIds 35 = .ok (.iinc 3 1, 3) := by decide +kernel
theorem dX1_sameIds_38 : decode cX1_sameIds 38 = .ok (.goto (-36), 3) := by decide +kernel
theorem dX1_sameIds_41 : decode cX1_sameIds 41 = .ok (.iconst 1, 1) := by decide +kernel
theorem dX1_sameIds_42 : decode cX1_sameIds 42 = .ok (.ireturn, 1) := by decide +kernel
theorem dX1_eightBytes_0 : decode cX1_eightBytes 0 = .ok (.iload_n 2, 1) := by decide +kernel
theorem dX1_eightBytes_1 : decode cX1_eightBytes 1 = .ok (.ifCond .lt 8, 3) := by decide +kernel
theorem dX1_eightBytes_4 : decode cX1_eightBytes 4 = .ok (.iload_n 2, 1) := by decide +kernel
theorem dX1_eightBytes_5 : decode cX1_eightBytes 5 = .ok (.iconst 3, 1) := by decide +kernel
theorem dX1_eightBytes_6 : decode cX1_eightBytes 6 = .ok (.if_icmp .le 5, 3) := by decide +kernel
theorem dX1_eightBytes_9 : decode cX1_eightBytes 9 = .ok (.lconst 0, 1) := by decide +kernel
theorem dX1_eightBytes_10 : decode cX1_eightBytes 10 = .ok (.lreturn, 1) := by decide +kernel
theorem dX1_eightBytes_11 : decode cX1_eightBytes 11 = .ok (.iload_n 1, 1) := by decide +kernel
theorem dX1_eightBytes_12 : decode cX1_eightBytes 12 = .ok (.bipush 8, 2) := by decide +kernel
theorem dX1_eightBytes_14 : decode cX1_eightBytes 14 = .ok (.imul, 1) := by decide +kernel
theorem dX1_eightBytes_15 : decode cX1_eightBytes 15 = .ok (.iconst 2, 1) := by decide +kernel
theorem dX1_eightBytes_16 : decode cX1_eightBytes 16 = .ok (.iload_n 2, 1) := by decide +kernel
theorem dX1_eightBytes_17 : decode cX1_eightBytes 17 = .ok (.imul, 1) := by decide +kernel
theorem dX1_eightBytes_18 : decode cX1_eightBytes 18 = .ok (.iadd, 1) := by decide +kernel
theorem dX1_eightBytes_19 : decode cX1_eightBytes 19 = .ok (.istore_n 3, 1) := by decide +kernel
theorem dX1_eightBytes_20 : decode cX1_eightBytes 20 = .ok (.aload_n 0, 1) := by decide +kernel
theorem dX1_eightBytes_21 : decode cX1_eightBytes 21 = .ok (.getfield 17, 3) := by decide +kernel
theorem dX1_eightBytes_24 : decode cX1_eightBytes 24 = .ok (.iload_n 3, 1) := by decide +kernel
theorem dX1_eightBytes_25 : decode cX1_eightBytes 25 = .ok (.iaload, 1) := by decide +kernel
theorem dX1_eightBytes_26 : decode cX1_eightBytes 26 = .ok (.i2l, 1) := by decide +kernel
theorem dX1_eightBytes_27 : decode cX1_eightBytes 27 = .ok (.bipush 32, 2) := by decide +kernel
theorem dX1_eightBytes_29 : decode cX1_eightBytes 29 = .ok (.lshl, 1) := by decide +kernel
theorem dX1_eightBytes_30 : decode cX1_eightBytes 30 = .ok (.aload_n 0, 1) := by decide +kernel
theorem dX1_eightBytes_31 : decode cX1_eightBytes 31 = .ok (.getfield 17, 3) := by decide +kernel
theorem dX1_eightBytes_34 : decode cX1_eightBytes 34 = .ok (.iload_n 3, 1) := by decide +kernel
theorem dX1_eightBytes_35 : decode cX1_eightBytes 35 = .ok (.iconst 1, 1) := by decide +kernel
theorem dX1_eightBytes_36 : decode cX1_eightBytes 36 = .ok (.iadd, 1) := by decide +kernel
theorem dX1_eightBytes_37 : decode cX1_eightBytes 37 = .ok (.iaload, 1) := by decide +kernel
theorem dX1_eightBytes_38 : decode cX1_eightBytes 38 = .ok (.i2l, 1) := by decide +kernel
theorem dX1_eightBytes_39 : decode cX1_eightBytes 39 = .ok (.ldc2_w 105, 3) := by decide +kernel
theorem dX1_eightBytes_42 : decode cX1_eightBytes 42 = .ok (.land, 1) := by decide +kernel
theorem dX1_eightBytes_43 : decode cX1_eightBytes 43 = .ok (.lor, 1) := by decide +kernel
theorem dX1_eightBytes_44 : decode cX1_eightBytes 44 = .ok (.lreturn, 1) := by decide +kernel
theorem dX1_levelOfStep_0 : decode cX1_levelOfStep 0 = .ok (.aload_n 0, 1) := by decide +kernel
theorem dX1_levelOfStep_1 : decode cX1_levelOfStep 1 = .ok (.iload_n 1, 1) := by decide +kernel
theorem dX1_levelOfStep_2 : decode cX1_levelOfStep 2 = .ok (.invokevirtual 56, 3) := by decide +kernel
theorem dX1_levelOfStep_5 : decode cX1_levelOfStep 5 = .ok (.ifCond .eq 7, 3) := by decide +kernel
theorem dX1_levelOfStep_8 : decode cX1_levelOfStep 8 = .ok (.iload_n 2, 1) := by decide +kernel
theorem dX1_levelOfStep_9 : decode cX1_levelOfStep 9 = .ok (.ifCond .ge 5, 3) := by decide +kernel
theorem dX1_levelOfStep_12 : decode cX1_levelOfStep 12 = .ok (.iconst (-1), 1) := by decide +kernel
theorem dX1_levelOfStep_13 : decode cX1_levelOfStep 13 = .ok (.ireturn, 1) := by decide +kernel
theorem dX1_levelOfStep_14 : decode cX1_levelOfStep 14 = .ok (.iconst 0, 1) := by decide +kernel
theorem dX1_levelOfStep_15 : decode cX1_levelOfStep 15 = .ok (.istore_n 3, 1) := by decide +kernel
theorem dX1_levelOfStep_16 : decode cX1_levelOfStep 16 = .ok (.aload_n 0, 1) := by decide +kernel
theorem dX1_levelOfStep_17 : decode cX1_levelOfStep 17 = .ok (.getfield 31, 3) := by decide +kernel
theorem dX1_levelOfStep_20 : decode cX1_levelOfStep 20 = .ok (.istore 4, 2) := by decide +kernel
theorem dX1_levelOfStep_22 : decode cX1_levelOfStep 22 = .ok (.iconst 0, 1) := by decide +kernel
theorem dX1_levelOfStep_23 : decode cX1_levelOfStep 23 = .ok (.istore 5, 2) := by decide +kernel
theorem dX1_levelOfStep_25 : decode cX1_levelOfStep 25 = .ok (.iload 5, 2) := by decide +kernel
theorem dX1_levelOfStep_27 : decode cX1_levelOfStep 27 = .ok (.bipush 8, 2) := by decide +kernel
theorem dX1_levelOfStep_29 : decode cX1_levelOfStep 29 = .ok (.if_icmp .ge 39, 3) := by decide +kernel
theorem dX1_levelOfStep_32 : decode cX1_levelOfStep 32 = .ok (.iload_n 1, 1) := by decide +kernel
theorem dX1_levelOfStep_33 : decode cX1_levelOfStep 33 = .ok (.iload 5, 2) := by decide +kernel
theorem dX1_levelOfStep_35 : decode cX1_levelOfStep 35 = .ok (.ishr, 1) := by decide +kernel
theorem dX1_levelOfStep_36 : decode cX1_levelOfStep 36 = .ok (.iload 4, 2) := by decide +kernel
theorem dX1_levelOfStep_38 : decode cX1_levelOfStep 38 = .ok (.invokestatic 80, 3) := by decide +kernel
theorem dX1_levelOfStep_41 : decode cX1_levelOfStep 41 = .ok (.ifCond .eq 14, 3) := by decide +kernel
theorem dX1_levelOfStep_44 : decode cX1_levelOfStep 44 = .ok (.iload_n 3, 1) := by decide +kernel
theorem dX1_levelOfStep_45 : decode cX1_levelOfStep 45 = .ok (.iload_n 2, 1) := by decide +kernel
theorem dX1_levelOfStep_46 : decode cX1_levelOfStep 46 = .ok (.if_icmp .ne 6, 3) := by decide +kernel
theorem dX1_levelOfStep_49 : decode cX1_levelOfStep 49 = .ok (.iload 5, 2) := by decide +kernel
theorem dX1_levelOfStep_51 : decode cX1_levelOfStep 51 = .ok (.ireturn, 1) := by decide +kernel
theorem dX1_levelOfStep_52 : decode cX1_levelOfStep 52 = .ok (.iinc 3 1, 3) := by decide +kernel
theorem dX1_levelOfStep_55 : decode cX1_levelOfStep 55 = .ok (.iload 4, 2) := by decide +kernel
theorem dX1_levelOfStep_57 : decode cX1_levelOfStep 57 = .ok (.invokestatic 88, 3) := by decide +kernel
theorem dX1_levelOfStep_60 : decode cX1_levelOfStep 60 = .ok (.istore 4, 2) := by decide +kernel
theorem dX1_levelOfStep_62 : decode cX1_levelOfStep 62 = .ok (.iinc 5 1, 3) := by decide +kernel
theorem dX1_levelOfStep_65 : decode cX1_levelOfStep 65 = .ok (.goto (-40), 3) := by decide +kernel
theorem dX1_levelOfStep_68 : decode cX1_levelOfStep 68 = .ok (.iconst (-1), 1) := by decide +kernel
theorem dX1_levelOfStep_69 : decode cX1_levelOfStep 69 = .ok (.ireturn, 1) := by decide +kernel
theorem dX1_rootLevel_0 : decode cX1_rootLevel 0 = .ok (.iconst 0, 1) := by decide +kernel
theorem dX1_rootLevel_1 : decode cX1_rootLevel 1 = .ok (.istore_n 1, 1) := by decide +kernel
theorem dX1_rootLevel_2 : decode cX1_rootLevel 2 = .ok (.aload_n 0, 1) := by decide +kernel
theorem dX1_rootLevel_3 : decode cX1_rootLevel 3 = .ok (.getfield 31, 3) := by decide +kernel
theorem dX1_rootLevel_6 : decode cX1_rootLevel 6 = .ok (.istore_n 2, 1) := by decide +kernel
theorem dX1_rootLevel_7 : decode cX1_rootLevel 7 = .ok (.iload_n 2, 1) := by decide +kernel
theorem dX1_rootLevel_8 : decode cX1_rootLevel 8 = .ok (.iconst 1, 1) := by decide +kernel
theorem dX1_rootLevel_9 : decode cX1_rootLevel 9 = .ok (.if_icmp .le 22, 3) := by decide +kernel
theorem dX1_rootLevel_12 : decode cX1_rootLevel 12 = .ok (.iload_n 1, 1) := by decide +kernel
theorem dX1_rootLevel_13 : decode cX1_rootLevel 13 = .ok (.iconst 1, 1) := by decide +kernel
theorem dX1_rootLevel_14 : decode cX1_rootLevel 14 = .ok (.iadd, 1) := by decide +kernel
theorem dX1_rootLevel_15 : decode cX1_rootLevel 15 = .ok (.bipush 8, 2) := by decide +kernel
theorem dX1_rootLevel_17 : decode cX1_rootLevel 17 = .ok (.if_icmp .ge 14, 3) := by decide +kernel
theorem dX1_rootLevel_20 : decode cX1_rootLevel 20 = .ok (.iload_n 2, 1) := by decide +kernel
theorem dX1_rootLevel_21 : decode cX1_rootLevel 21 = .ok (.invokestatic 88, 3) := by decide +kernel
theorem dX1_rootLevel_24 : decode cX1_rootLevel 24 = .ok (.istore_n 2, 1) := by decide +kernel
theorem dX1_rootLevel_25 : decode cX1_rootLevel 25 = .ok (.iinc 1 1, 3) := by decide +kernel
theorem dX1_rootLevel_28 : decode cX1_rootLevel 28 = .ok (.goto (-21), 3) := by decide +kernel
theorem dX1_rootLevel_31 : decode cX1_rootLevel 31 = .ok (.iload_n 1, 1) := by decide +kernel
theorem dX1_rootLevel_32 : decode cX1_rootLevel 32 = .ok (.ireturn, 1) := by decide +kernel
theorem dX1_nodeBeside_0 : decode cX1_nodeBeside 0 = .ok (.getstatic 63, 3) := by decide +kernel
theorem dX1_nodeBeside_3 : decode cX1_nodeBeside 3 = .ok (.iload_n 0, 1) := by decide +kernel
theorem dX1_nodeBeside_4 : decode cX1_nodeBeside 4 = .ok (.iaload, 1) := by decide +kernel
theorem dX1_nodeBeside_5 : decode cX1_nodeBeside 5 = .ok (.iload_n 1, 1) := by decide +kernel
theorem dX1_nodeBeside_6 : decode cX1_nodeBeside 6 = .ok (.iconst 1, 1) := by decide +kernel
theorem dX1_nodeBeside_7 : decode cX1_nodeBeside 7 = .ok (.ixor, 1) := by decide +kernel
theorem dX1_nodeBeside_8 : decode cX1_nodeBeside 8 = .ok (.iadd, 1) := by decide +kernel
theorem dX1_nodeBeside_9 : decode cX1_nodeBeside 9 = .ok (.ireturn, 1) := by decide +kernel
theorem dX1_hasOneBeside_0 : decode cX1_hasOneBeside 0 = .ok (.iload_n 0, 1) := by decide +kernel
theorem dX1_hasOneBeside_1 : decode cX1_hasOneBeside 1 = .ok (.iconst 1, 1) := by decide +kernel
theorem dX1_hasOneBeside_2 : decode cX1_hasOneBeside 2 = .ok (.ixor, 1) := by decide +kernel
theorem dX1_hasOneBeside_3 : decode cX1_hasOneBeside 3 = .ok (.iload_n 1, 1) := by decide +kernel
theorem dX1_hasOneBeside_4 : decode cX1_hasOneBeside 4 = .ok (.if_icmp .ge 7, 3) := by decide +kernel
theorem dX1_hasOneBeside_7 : decode cX1_hasOneBeside 7 = .ok (.iconst 1, 1) := by decide +kernel
theorem dX1_hasOneBeside_8 : decode cX1_hasOneBeside 8 = .ok (.goto 4, 3) := by decide +kernel
theorem dX1_hasOneBeside_11 : decode cX1_hasOneBeside 11 = .ok (.iconst 0, 1) := by decide +kernel
theorem dX1_hasOneBeside_12 : decode cX1_hasOneBeside 12 = .ok (.ireturn, 1) := by decide +kernel
theorem dX1_widthAbove_0 : decode cX1_widthAbove 0 = .ok (.iload_n 0, 1) := by decide +kernel
theorem dX1_widthAbove_1 : decode cX1_widthAbove 1 = .ok (.iconst 1, 1) := by decide +kernel
theorem dX1_widthAbove_2 : decode cX1_widthAbove 2 = .ok (.iadd, 1) := by decide +kernel
theorem dX1_widthAbove_3 : decode cX1_widthAbove 3 = .ok (.iconst 1, 1) := by decide +kernel
theorem dX1_widthAbove_4 : decode cX1_widthAbove 4 = .ok (.ishr, 1) := by decide +kernel
theorem dX1_widthAbove_5 : decode cX1_widthAbove 5 = .ok (.ireturn, 1) := by decide +kernel
