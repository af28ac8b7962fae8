theorem dX2_init_24 : decode cX2_init 24 = .ok (.newarray .int, 2) := by decide +kernel
theorem dX2_init_26 : decode cX2_init 26 = .ok (.putfield 39, 3) := by decide +kernel
theorem dX2_init_29 : decode cX2_init 29 = .ok (.aload_n 0, 1) := by decide +kernel
theorem dX2_init_30 : decode cX2_init 30 = .ok (.bipush 64, 2) := by decide +kernel
theorem dX2_init_32 : decode cX2_init 32 = .ok (.newarray .int, 2) := by decide +kernel
theorem dX2_init_34 : decode cX2_init 34 = .ok (.putfield 11, 3) := by decide +kernel
theorem dX2_init_37 : decode cX2_init 37 = .ok (.aload_n 0, 1) := by decide +kernel
theorem dX2_init_38 : decode cX2_init 38 = .ok (.bipush 8, 2) := by decide +kernel
theorem dX2_init_40 : decode cX2_init 40 = .ok (.newarray .int, 2) := by decide +kernel
theorem dX2_init_42 : decode cX2_init 42 = .ok (.putfield 1, 3) := by decide +kernel
theorem dX2_init_45 : decode cX2_init 45 = .ok (.aload_n 0, 1) := by decide +kernel
theorem dX2_init_46 : decode cX2_init 46 = .ok (.sipush 150, 3) := by decide +kernel
theorem dX2_init_49 : decode cX2_init 49 = .ok (.newarray .int, 2) := by decide +kernel
theorem dX2_init_51 : decode cX2_init 51 = .ok (.putfield 51, 3) := by decide +kernel
theorem dX2_init_54 : decode cX2_init 54 = .ok (.aload_n 0, 1) := by decide +kernel
theorem dX2_init_55 : decode cX2_init 55 = .ok (.sipush 15000, 3) := by decide +kernel
theorem dX2_init_58 : decode cX2_init 58 = .ok (.newarray .int, 2) := by decide +kernel
theorem dX2_init_60 : decode cX2_init 60 = .ok (.putfield 54, 3) := by decide +kernel
theorem dX2_init_63 : decode cX2_init 63 = .ok (.aload_n 0, 1) := by decide +kernel
theorem dX2_init_64 : decode cX2_init 64 = .ok (.bipush 100, 2) := by decide +kernel
theorem dX2_init_66 : decode cX2_init 66 = .ok (.newarray .int, 2) := by decide +kernel
theorem dX2_init_68 : decode cX2_init 68 = .ok (.putfield 57, 3) := by decide +kernel
theorem dX2_init_71 : decode cX2_init 71 = .ok (.aload_n 0, 1) := by decide +kernel
theorem dX2_init_72 : decode cX2_init 72 = .ok (.sipush 400, 3) := by decide +kernel
theorem dX2_init_75 : decode cX2_init 75 = .ok (.newarray .long, 2) := by decide +kernel
theorem dX2_init_77 : decode cX2_init 77 = .ok (.putfield 60, 3) := by decide +kernel
theorem dX2_init_80 : decode cX2_init 80 = .ok (.aload_n 0, 1) := by decide +kernel
theorem dX2_init_81 : decode cX2_init 81 = .ok (.iconst 4, 1) := by decide +kernel
theorem dX2_init_82 : decode cX2_init 82 = .ok (.newarray .long, 2) := by decide +kernel
theorem dX2_init_84 : decode cX2_init 84 = .ok (.putfield 64, 3) := by decide +kernel
theorem dX2_init_87 : decode cX2_init 87 = .ok (.aload_n 0, 1) := by decide +kernel
theorem dX2_init_88 : decode cX2_init 88 = .ok (.invokevirtual 67, 3) := by decide +kernel
theorem dX2_init_91 : decode cX2_init 91 = .ok (.return_, 1) := by decide +kernel
theorem dX2_put_0 : decode cX2_put 0 = .ok (.iload_n 3, 1) := by decide +kernel
theorem dX2_put_1 : decode cX2_put 1 = .ok (.iconst 1, 1) := by decide +kernel
theorem dX2_put_2 : decode cX2_put 2 = .ok (.if_icmp .lt 21, 3) := by decide +kernel
theorem dX2_put_5 : decode cX2_put 5 = .ok (.iload_n 3, 1) := by decide +kernel
theorem dX2_put_6 : decode cX2_put 6 = .ok (.bipush 8, 2) := by decide +kernel
theorem dX2_put_8 : decode cX2_put 8 = .ok (.if_icmp .gt 15, 3) := by decide +kernel
theorem dX2_put_11 : decode cX2_put 11 = .ok (.aload_n 0, 1) := by decide +kernel
theorem dX2_put_12 : decode cX2_put 12 = .ok (.getfield 70, 3) := by decide +kernel
theorem dX2_put_15 : decode cX2_put 15 = .ok (.iload_n 3, 1) := by decide +kernel
theorem dX2_put_16 : decode cX2_put 16 = .ok (.iadd, 1) := by decide +kernel
theorem dX2_put_17 : decode cX2_put 17 = .ok (.sipush 150, 3) := by decide +kernel
theorem dX2_put_20 : decode cX2_put 20 = .ok (.if_icmp .le 5, 3) := by decide +kernel
theorem dX2_put_23 : decode cX2_put 23 = .ok (.iconst 0, 1) := by decide +kernel
theorem dX2_put_24 : decode cX2_put 24 = .ok (.ireturn, 1) := by decide +kernel
theorem dX2_put_25 : decode cX2_put 25 = .ok (.iload_n 3, 1) := by decide +kernel
theorem dX2_put_26 : decode cX2_put 26 = .ok (.iconst 1, 1) := by decide +kernel
theorem dX2_put_27 : decode cX2_put 27 = .ok (.isub, 1) := by decide +kernel
theorem dX2_put_28 : decode cX2_put 28 = .ok (.istore 4, 2) := by decide +kernel
theorem dX2_put_30 : decode cX2_put 30 = .ok (.iload 4, 2) := by decide +kernel
theorem dX2_put_32 : decode cX2_put 32 = .ok (.ifCond .lt 40, 3) := by decide +kernel
theorem dX2_put_35 : decode cX2_put 35 = .ok (.aload_n 0, 1) := by decide +kernel
theorem dX2_put_36 : decode cX2_put 36 = .ok (.getfield 51, 3) := by decide +kernel
theorem dX2_put_39 : decode cX2_put 39 = .ok (.aload_n 0, 1) := by decide +kernel
theorem dX2_put_40 : decode cX2_put 40 = .ok (.getfield 70, 3) := by decide +kernel
theorem dX2_put_43 : decode cX2_put 43 = .ok (.lload_n 1, 1) := by decide +kernel
theorem dX2_put_44 : decode cX2_put 44 = .ok (.bipush 8, 2) := by decide +kernel
theorem dX2_put_46 : decode cX2_put 46 = .ok (.iload 4, 2) := by decide +kernel
theorem dX2_put_48 : decode cX2_put 48 = .ok (.imul, 1) := by decide +kernel
theorem dX2_put_49 : decode cX2_put 49 = .ok (.lshr, 1) := by decide +kernel
theorem dX2_put_50 : decode cX2_put 50 = .ok (.l2i, 1) := by decide +kernel
theorem dX2_put_51 : decode cX2_put 51 = .ok (.sipush 255, 3) := by decide +kernel
theorem dX2_put_54 : decode cX2_put 54 = .ok (.iand, 1) := by decide +kernel
theorem dX2_put_55 : decode cX2_put 55 = .ok (.iastore, 1) := by decide +kernel
theorem dX2_put_56 : decode cX2_put 56 = .ok (.aload_n 0, 1) := by decide +kernel
theorem dX2_put_57 : decode cX2_put 57 = .ok (.aload_n 0, 1) := by decide +kernel
theorem dX2_put_58 : decode cX2_put 58 = .ok (.getfield 70, 3) := by decide +kernel
theorem dX2_put_61 : decode cX2_put 61 = .ok (.iconst 1, 1) := by decide +kernel
theorem dX2_put_62 : decode cX2_put 62 = .ok (.iadd, 1) := by decide +kernel
theorem dX2_put_63 : decode cX2_put 63 = .ok (.putfield 70, 3) := by decide +kernel
theorem dX2_put_66 : decode cX2_put 66 = .ok (.iinc 4 (-1), 3) := by decide +kernel
theorem dX2_put_69 : decode cX2_put 69 = .ok (.goto (-39), 3) := by decide +kernel
theorem dX2_put_72 : decode cX2_put 72 = .ok (.iconst 1, 1) := by decide +kernel
theorem dX2_put_73 : decode cX2_put 73 = .ok (.ireturn, 1) := by decide +kernel
theorem dX2_hashTape_0 : decode cX2_hashTape 0 = .ok (.iconst 0, 1) := by decide +kernel
theorem dX2_hashTape_1 : decode cX2_hashTape 1 = .ok (.istore_n 1, 1) := by decide +kernel
theorem dX2_hashTape_2 : decode cX2_hashTape 2 = .ok (.iload_n 1, 1) := by decide +kernel
theorem dX2_hashTape_3 : decode cX2_hashTape 3 = .ok (.aload_n 0, 1) := by decide +kernel
theorem dX2_hashTape_4 : decode cX2_hashTape 4 = .ok (.getfield 70, 3) := by decide +kernel
theorem dX2_hashTape_7 : decode cX2_hashTape 7 = .ok (.if_icmp .ge 19, 3) := by decide +kernel
theorem dX2_hashTape_10 : decode cX2_hashTape 10 = .ok (.aload_n 0, 1) := by decide +kernel
theorem dX2_hashTape_11 : decode cX2_hashTape 11 = .ok (.aload_n 0, 1) := by decide +kernel
theorem dX2_hashTape_12 : decode cX2_hashTape 12 = .ok (.getfield 51, 3) := by decide +kernel
theorem dX2_hashTape_15 : decode cX2_hashTape 15 = .ok (.iload_n 1, 1) := by decide +kernel
theorem dX2_hashTape_16 : decode cX2_hashTape 16 = .ok (.iaload, 1) := by decide +kernel
theorem dX2_hashTape_17 : decode cX2_hashTape 17 = .ok (.invokevirtual 29, 3) := by decide +kernel
theorem dX2_hashTape_20 : decode cX2_hashTape 20 = .ok (.iinc 1 1, 3) := by decide +kernel
theorem dX2_hashTape_23 : decode cX2_hashTape 23 = .ok (.goto (-21), 3) := by decide +kernel
theorem dX2_hashTape_26 : decode cX2_hashTape 26 = .ok (.aload_n 0, 1) := by decide +kernel
theorem dX2_hashTape_27 : decode cX2_hashTape 27 = .ok (.invokevirtual 73, 3) := by decide +kernel
theorem dX2_hashTape_30 : decode cX2_hashTape 30 = .ok (.return_, 1) := by decide +kernel
theorem dX2_hash_0 : decode cX2_hash 0 = .ok (.iload_n 1, 1) := by decide +kernel
theorem dX2_hash_1 : decode cX2_hash 1 = .ok (.ifCond .lt 8, 3) := by decide +kernel
theorem dX2_hash_4 : decode cX2_hash 4 = .ok (.iload_n 1, 1) := by decide +kernel
theorem dX2_hash_5 : decode cX2_hash 5 = .ok (.iconst 3, 1) := by decide +kernel
theorem dX2_hash_6 : decode cX2_hash 6 = .ok (.if_icmp .le 5, 3) := by decide +kernel
theorem dX2_hash_9 : decode cX2_hash 9 = .ok (.lconst 0, 1) := by decide +kernel
theorem dX2_hash_10 : decode cX2_hash 10 = .ok (.lreturn, 1) := by decide +kernel
theorem dX2_hash_11 : decode cX2_hash 11 = .ok (.aload_n 0, 1) := by decide +kernel
theorem dX2_hash_12 : decode cX2_hash 12 = .ok (.iconst 0, 1) := by decide +kernel
theorem dX2_hash_13 : decode cX2_hash 13 = .ok (.putfield 25, 3) := by decide +kernel
theorem dX2_hash_16 : decode cX2_hash 16 = .ok (.aload_n 0, 1) := by decide +kernel
theorem dX2_hash_17 : decode cX2_hash 17 = .ok (.invokevirtual 76, 3) := by decide +kernel
theorem dX2_hash_20 : decode cX2_hash 20 = .ok (.aload_n 0, 1) := by decide +kernel
theorem dX2_hash_21 : decode cX2_hash 21 = .ok (.iload_n 1, 1) := by decide +kernel
theorem dX2_hash_22 : decode cX2_hash 22 = .ok (.invokevirtual 79, 3) := by decide +kernel
theorem dX2_hash_25 : decode cX2_hash 25 = .ok (.lreturn, 1) := by decide +kernel
theorem dX2_lay_0 : decode cX2_lay 0 = .ok (.iconst 0, 1) := by decide +kernel
theorem dX2_lay_1 : decode cX2_lay 1 = .ok (.istore_n 2, 1) := by decide +kernel
theorem dX2_lay_2 : decode cX2_lay 2 = .ok (.iload_n 2, 1) := by decide +kernel
theorem dX2_lay_3 : decode cX2_lay 3 = .ok (.aload_n 0, 1) := by decide +kernel
theorem dX2_lay_4 : decode cX2_lay 4 = .ok (.getfield 70, 3) := by decide +kernel
theorem dX2_lay_7 : decode cX2_lay 7 = .ok (.if_icmp .ge 27, 3) := by decide +kernel
theorem dX2_lay_10 : decode cX2_lay 10 = .ok (.aload_n 0, 1) := by decide +kernel
theorem dX2_lay_11 : decode cX2_lay 11 = .ok (.getfield 54, 3) := by decide +kernel
theorem dX2_lay_14 : decode cX2_lay 14 = .ok (.sipush 150, 3) := by decide +kernel
theorem dX2_lay_17 : decode cX2_lay 17 = .ok (.iload_n 1, 1) := by decide +kernel
theorem dX2_lay_18 : decode cX2_lay 18 = .ok (.imul, 1) := by decide +kernel
theorem dX2_lay_19 : decode cX2_lay 19 = .ok (.iload_n 2, 1) := by decide +kernel
theorem dX2_lay_20 : decode cX2_lay 20 = .ok (.iadd, 1) := by decide +kernel
theorem dX2_lay_21 : decode cX2_lay 21 = .ok (.aload_n 0, 1) := by decide +kernel
theorem dX2_lay_22 : decode cX2_lay 22 = .ok (.getfield 51, 3) := by decide +kernel
theorem dX2_lay_25 : decode cX2_lay 25 = .ok (.iload_n 2, 1) := by decide +kernel
theorem dX2_lay_26 : decode cX2_lay 26 = .ok (.iaload, 1) := by decide +kernel
theorem dX2_lay_27 : decode cX2_lay 27 = .ok (.iastore, 1) := by decide +kernel
theorem dX2_lay_28 : decode cX2_lay 28 = .ok (.iinc 2 1, 3) := by decide +kernel
theorem dX2_lay_31 : decode cX2_lay 31 = .ok (.goto (-29), 3) := by decide +kernel
theorem dX2_lay_34 : decode cX2_lay 34 = .ok (.aload_n 0, 1) := by decide +kernel
theorem dX2_lay_35 : decode cX2_lay 35 = .ok (.getfield 57, 3) := by decide +kernel
theorem dX2_lay_38 : decode cX2_lay 38 = .ok (.iload_n 1, 1) := by decide +kernel
theorem dX2_lay_39 : decode cX2_lay 39 = .ok (.aload_n 0, 1) := by decide +kernel
theorem dX2_lay_40 : decode cX2_lay 40 = .ok (.getfield 70, 3) := by decide +kernel
theorem dX2_lay_43 : decode cX2_lay 43 = .ok (.iastore, 1) := by decide +kernel
theorem dX2_lay_44 : decode cX2_lay 44 = .ok (.aload_n 0, 1) := by decide +kernel
theorem dX2_lay_45 : decode cX2_lay 45 = .ok (.iconst 0, 1) := by decide +kernel
theorem dX2_lay_46 : decode cX2_lay 46 = .ok (.putfield 70, 3) := by decide +kernel
theorem dX2_lay_49 : decode cX2_lay 49 = .ok (.return_, 1) := by decide +kernel
theorem dX2_add_0 : decode cX2_add 0 = .ok (.aload_n 0, 1) := by decide +kernel
theorem dX2_add_1 : decode cX2_add 1 = .ok (.getfield 83, 3) := by decide +kernel
theorem dX2_add_4 : decode cX2_add 4 = .ok (.bipush 100, 2) := by decide +kernel
theorem dX2_add_6 : decode cX2_add 6 = .ok (.if_icmp .ne 5, 3) := by decide +kernel
theorem dX2_add_9 : decode cX2_add 9 = .ok (.iconst (-1), 1) := by decide +kernel
theorem dX2_add_10 : decode cX2_add 10 = .ok (.ireturn, 1) := by decide +kernel
theorem dX2_add_11 : decode cX2_add 11 = .ok (.aload_n 0, 1) := by decide +kernel
theorem dX2_add_12 : decode cX2_add 12 = .ok (.aload_n 0, 1) := by decide +kernel
theorem dX2_add_13 : decode cX2_add 13 = .ok (.getfield 83, 3) := by decide +kernel
theorem dX2_add_16 : decode cX2_add 16 = .ok (.invokevirtual 86, 3) := by decide +kernel
theorem dX2_add_19 : decode cX2_add 19 = .ok (.aload_n 0, 1) := by decide +kernel
theorem dX2_add_20 : decode cX2_add 20 = .ok (.aload_n 0, 1) := by decide +kernel
theorem dX2_add_21 : decode cX2_add 21 = .ok (.getfield 83, 3) := by decide +kernel
theorem dX2_add_24 : decode cX2_add 24 = .ok (.iconst 1, 1) := by decide +kernel
theorem dX2_add_25 : decode cX2_add 25 = .ok (.iadd, 1) := by decide +kernel
theorem dX2_add_26 : decode cX2_add 26 = .ok (.putfield 83, 3) := by decide +kernel
theorem dX2_add_29 : decode cX2_add 29 = .ok (.aload_n 0, 1) := by decide +kernel
theorem dX2_add_30 : decode cX2_add 30 = .ok (.getfield 83, 3) := by decide +kernel
theorem dX2_add_33 : decode cX2_add 33 = .ok (.iconst 1, 1) := by decide +kernel
theorem dX2_add_34 : decode cX2_add 34 = .ok (.isub, 1) := by decide +kernel
theorem dX2_add_35 : decode cX2_add 35 = .ok (.ireturn, 1) := by decide +kernel
theorem dX2_isLeaf_0 : decode cX2_isLeaf 0 = .ok (.iload_n 1, 1) := by decide +kernel
theorem dX2_isLeaf_1 : decode cX2_isLeaf 1 = .ok (.ifCond .lt 15, 3) := by decide +kernel
theorem dX2_isLeaf_4 : decode cX2_isLeaf 4 = .ok (.iload_n 1, 1) := by decide +kernel
theorem dX2_isLeaf_5 : decode cX2_isLeaf 5 = .ok (.aload_n 0, 1) := by decide +kernel
theorem dX2_isLeaf_6 : decode cX2_isLeaf 6 = .ok (.getfield 83, 3) := by decide +kernel
theorem dX2_isLeaf_9 : decode cX2_isLeaf 9 = .ok (.if_icmp .ge 7, 3) := by decide +kernel
theorem dX2_isLeaf_12 : decode cX2_isLeaf 12 = .ok (.iconst 1, 1) := by decide +kernel
theorem dX2_isLeaf_13 : decode cX2_isLeaf 13 = .ok (.goto 4, 3) := by decide +kernel
theorem dX2_isLeaf_16 : decode cX2_isLeaf 16 = .ok (.iconst 0, 1) := by decide +kernel
theorem dX2_isLeaf_17 : decode cX2_isLeaf 17 = .ok (.ireturn, 1) := by decide +kernel
theorem dX2_change_0 : decode cX2_change 0 = .ok (.aload_n 0, 1) := by decide +kernel
theorem dX2_change_1 : decode cX2_change 1 = .ok (.iload_n 1, 1) := by decide +kernel
theorem dX2_change_2 : decode cX2_change 2 = .ok (.invokevirtual 89, 3) := by decide +kernel
theorem dX2_change_5 : decode cX2_change 5 = .ok (.ifCond .ne 5, 3) := by decide +kernel
theorem dX2_change_8 : decode cX2_change 8 = .ok (.iconst 0, 1) := by decide +kernel
theorem dX2_change_9 : decode cX2_change 9 = .ok (.ireturn, 1) := by decide +kernel
theorem dX2_change_10 : decode cX2_change 10 = .ok (.aload_n 0, 1) := by decide +kernel
theorem dX2_change_11 : decode cX2_change 11 = .ok (.iload_n 1, 1) := by decide +kernel
theorem dX2_change_12 : decode cX2_change 12 = .ok (.invokevirtual 86, 3) := by decide +kernel
theorem dX2_change_15 : decode cX2_change 15 = .ok (.iconst 1, 1) := by decide +kernel
theorem dX2_change_16 : decode cX2_change 16 = .ok (.ireturn, 1) := by decide +kernel
theorem dX2_drop_0 : decode cX2_drop 0 = .ok (.aload_n 0, 1) := by decide +kernel
theorem dX2_drop_1 : decode cX2_drop 1 = .ok (.getfield 83, 3) := by decide +kernel
theorem dX2_drop_4 : decode cX2_drop 4 = .ok (.ifCond .ne 5, 3) := by decide +kernel
theorem dX2_drop_7 : decode cX2_drop 7 = .ok (.iconst (-1), 1) := by decide +kernel
theorem dX2_drop_8 : decode cX2_drop 8 = .ok (.ireturn, 1) := by decide +kernel
theorem dX2_drop_9 : decode cX2_drop 9 = .ok (.aload_n 0, 1) := by decide +kernel
theorem dX2_drop_10 : decode cX2_drop 10 = .ok (.aload_n 0, 1) := by decide +kernel
theorem dX2_drop_11 : decode cX2_drop 11 = .ok (.getfield 83, 3) := by decide +kernel
theorem dX2_drop_14 : decode cX2_drop 14 = .ok (.iconst 1, 1) := by decide +kernel
theorem dX2_drop_15 : decode cX2_drop 15 = .ok (.isub, 1) := by decide +kernel
theorem dX2_drop_16 : decode cX2_drop 16 = .ok (.putfield 83, 3) := by decide +kernel
theorem dX2_drop_19 : decode cX2_drop 19 = .ok (.aload_n 0, 1) := by decide +kernel
theorem dX2_drop_20 : decode cX2_drop 20 = .ok (.getfield 83, 3) := by decide +kernel
theorem dX2_drop_23 : decode cX2_drop 23 = .ok (.ireturn, 1) := by decide +kernel
theorem dX2_keep_0 : decode cX2_keep 0 = .ok (.iconst 0, 1) := by decide +kernel
theorem dX2_keep_1 : decode cX2_keep 1 = .ok (.istore_n 2, 1) := by decide +kernel
theorem dX2_keep_2 : decode cX2_keep 2 = .ok (.iload_n 2, 1) := by decide +kernel
theorem dX2_keep_3 : decode cX2_keep 3 = .ok (.iconst 4, 1) := by decide +kernel
theorem dX2_keep_4 : decode cX2_keep 4 = .ok (.if_icmp .ge 24, 3) := by decide +kernel
theorem dX2_keep_7 : decode cX2_keep 7 = .ok (.aload_n 0, 1) := by decide +kernel
theorem dX2_keep_8 : decode cX2_keep 8 = .ok (.getfield 60, 3) := by decide +kernel
theorem dX2_keep_11 : decode cX2_keep 11 = .ok (.iconst 4, 1) := by decide +kernel
theorem dX2_keep_12 : decode cX2_keep 12 = .ok (.iload_n 1, 1) := by decide +kernel
theorem dX2_keep_13 : decode cX2_keep 13 = .ok (.imul, 1) := by decide +kernel
theorem dX2_keep_14 : decode cX2_keep 14 = .ok (.iload_n 2, 1) := by decide +kernel
theorem dX2_keep_15 : decode cX2_keep 15 = .ok (.iadd, 1) := by decide +kernel
theorem dX2_keep_16 : decode cX2_keep 16 = .ok (.aload_n 0, 1) := by decide +kernel
theorem dX2_keep_17 : decode cX2_keep 17 = .ok (.iload_n 2, 1) := by decide +kernel
theorem dX2_keep_18 : decode cX2_keep 18 = .ok (.invokevirtual 79, 3) := by decide +kernel
theorem dX2_keep_21 : decode cX2_keep 21 = .ok (.lastore, 1) := by decide +kernel
theorem dX2_keep_22 : decode cX2_keep 22 = .ok (.iinc 2 1, 3) := by decide +kernel
theorem dX2_keep_25 : decode cX2_keep 25 = .ok (.goto (-23), 3) := by decide +kernel
theorem dX2_keep_28 : decode cX2_keep 28 = .ok (.return_, 1) := by decide +kernel
theorem dX2_lowest_0 : decode cX2_lowest 0 = .ok (.iconst 0, 1) := by decide +kernel
theorem dX2_lowest_1 : decode cX2_lowest 1 = .ok (.istore_n 1, 1) := by decide +kernel
theorem dX2_lowest_2 : decode cX2_lowest 2 = .ok (.iload_n 1, 1) := by decide +kernel
theorem dX2_lowest_3 : decode cX2_lowest 3 = .ok (.aload_n 0, 1) := by decide +kernel
theorem dX2_lowest_4 : decode cX2_lowest 4 = .ok (.getfield 83, 3) := by decide +kernel
theorem dX2_lowest_7 : decode cX2_lowest 7 = .ok (.if_icmp .ge 62, 3) := by decide +kernel
theorem dX2_lowest_10 : decode cX2_lowest 10 = .ok (.aload_n 0, 1) := by decide +kernel
theorem dX2_lowest_11 : decode cX2_lowest 11 = .ok (.iconst 0, 1) := by decide +kernel
theorem dX2_lowest_12 : decode cX2_lowest 12 = .ok (.putfield 25, 3) := by decide +kernel
theorem dX2_lowest_15 : decode cX2_lowest 15 = .ok (.aload_n 0, 1) := by decide +kernel
theorem dX2_lowest_16 : decode cX2_lowest 16 = .ok (.iconst 0, 1) := by decide +kernel
theorem dX2_lowest_17 : decode cX2_lowest 17 = .ok (.invokevirtual 29, 3) := by decide +kernel
theorem dX2_lowest_20 : decode cX2_lowest 20 = .ok (.iconst 0, 1) := by decide +kernel
theorem dX2_lowest_21 : decode cX2_lowest 21 = .ok (.istore_n 2, 1) := by decide +kernel
theorem dX2_lowest_22 : decode cX2_lowest 22 = .ok (.iload_n 2, 1) := by decide +kernel
theorem dX2_lowest_23 : decode cX2_lowest 23 = .ok (.aload_n 0, 1) := by decide +kernel
theorem dX2_lowest_24 : decode cX2_lowest 24 = .ok (.getfield 57, 3) := by decide +kernel
theorem dX2_lowest_27 : decode cX2_lowest 27 = .ok (.iload_n 1, 1) := by decide +kernel
theorem dX2_lowest_28 : decode cX2_lowest 28 = .ok (.iaload, 1) := by decide +kernel
theorem dX2_lowest_29 : decode cX2_lowest 29 = .ok (.if_icmp .ge 25, 3) := by decide +kernel
theorem dX2_lowest_32 : decode cX2_lowest 32 = .ok (.aload_n 0, 1) := by decide +kernel
theorem dX2_lowest_33 : decode cX2_lowest 33 = .ok (.aload_n 0, 1) := by decide +kernel
theorem dX2_lowest_34 : decode cX2_lowest 34 = .ok (.getfield 54, 3) := by decide +kernel
theorem dX2_lowest_37 : decode cX2_lowest 37 = .ok (.sipush 150, 3) := by decide +kernel
theorem dX2_lowest_40 : decode cX2_lowest 40 = .ok (.iload_n 1, 1) := by decide +kernel
theorem dX2_lowest_41 : decode cX2_lowest 41 = .ok (.imul, 1) := by decide +kernel
theorem dX2_lowest_42 : decode cX2_lowest 42 = .ok (.iload_n 2, 1) := by decide +kernel
theorem dX2_lowest_43 : decode cX2_lowest 43 = .ok (.iadd, 1) := by decide +kernel
theorem dX2_lowest_44 : decode cX2_lowest 44 = .ok (.iaload, 1) := by decide +kernel
theorem dX2_lowest_45 : decode cX2_lowest 45 = .ok (.invokevirtual 29, 3) := by decide +kernel
theorem dX2_lowest_48 : decode cX2_lowest 48 = .ok (.iinc 2 1, 3) := by decide +kernel
theorem dX2_lowest_51 : decode cX2_lowest 51 = .ok (.goto (-29), 3) := by decide +kernel
theorem dX2_lowest_54 : decode cX2_lowest 54 = .ok (.aload_n 0, 1) := by decide +kernel
theorem dX2_lowest_55 : decode cX2_lowest 55 = .ok (.invokevirtual 73, 3) := by decide +kernel
theorem dX2_lowest_58 : decode cX2_lowest 58 = .ok (.aload_n 0, 1) := by decide +kernel
theorem dX2_lowest_59 : decode cX2_lowest 59 = .ok (.iload_n 1, 1) := by decide +kernel
theorem dX2_lowest_60 : decode cX2_lowest 60 = .ok (.invokevirtual 93, 3) := by decide +kernel
theorem dX2_lowest_63 : decode cX2_lowest 63 = .ok (.iinc 1 1, 3) := by decide +kernel
theorem dX2_lowest_66 : decode cX2_lowest 66 = .ok (.goto (-64), 3) := by decide +kernel
theorem dX2_lowest_69 : decode cX2_lowest 69 = .ok (.aload_n 0, 1) := by decide +kernel
theorem dX2_lowest_70 : decode cX2_lowest 70 = .ok (.aload_n 0, 1) := by decide +kernel
theorem dX2_lowest_71 : decode cX2_lowest 71 = .ok (.getfield 83, 3) := by decide +kernel
theorem dX2_lowest_74 : decode cX2_lowest 74 = .ok (.putfield 96, 3) := by decide +kernel
theorem dX2_lowest_77 : decode cX2_lowest 77 = .ok (.aload_n 0, 1) := by decide +kernel
theorem dX2_lowest_78 : decode cX2_lowest 78 = .ok (.aload_n 0, 1) := by decide +kernel
theorem dX2_lowest_79 : decode cX2_lowest 79 = .ok (.getfield 83, 3) := by decide +kernel
theorem dX2_lowest_82 : decode cX2_lowest 82 = .ok (.ifCond .le 7, 3) := by decide +kernel
theorem dX2_lowest_85 : decode cX2_lowest 85 = .ok (.iconst 1, 1) := by decide +kernel
theorem dX2_lowest_86 : decode cX2_lowest 86 = .ok (.goto 4, 3) := by decide +kernel
theorem dX2_lowest_89 : decode cX2_lowest 89 = .ok (.iconst 0, 1) := by decide +kernel
theorem dX2_lowest_90 : decode cX2_lowest 90 = .ok (.putfield 99, 3) := by decide +kernel
theorem dX2_lowest_93 : decode cX2_lowest 93 = .ok (.return_, 1) := by decide +kernel
theorem dX2_up_0 : decode cX2_up 0 = .ok (.iconst 0, 1) := by decide +kernel
theorem dX2_up_1 : decode cX2_up 1 = .ok (.istore_n 1, 1) := by decide +kernel
theorem dX2_up_2 : decode cX2_up 2 = .ok (.iload_n 1, 1) := by decide +kernel
theorem dX2_up_3 : decode cX2_up 3 = .ok (.aload_n 0, 1) := by decide +kernel
theorem dX2_up_4 : decode cX2_up 4 = .ok (.getfield 96, 3) := by decide +kernel
theorem dX2_up_7 : decode cX2_up 7 = .ok (.iconst 2, 1) := by decide +kernel
theorem dX2_up_8 : decode cX2_up 8 = .ok (.idiv, 1) := by decide +kernel
theorem dX2_up_9 : decode cX2_up 9 = .ok (.if_icmp .ge 67, 3) := by decide +kernel
theorem dX2_up_12 : decode cX2_up 12 = .ok (.aload_n 0, 1) := by decide +kernel
theorem dX2_up_13 : decode cX2_up 13 = .ok (.iconst 0, 1) := by decide +kernel
theorem dX2_up_14 : decode cX2_up 14 = .ok (.putfield 25, 3) := by decide +kernel
theorem dX2_up_17 : decode cX2_up 17 = .ok (.aload_n 0, 1) := by decide +kernel
theorem dX2_up_18 : decode cX2_up 18 = .ok (.iconst 1, 1) := by decide +kernel
theorem dX2_up_19 : decode cX2_up 19 = .ok (.invokevirtual 29, 3) := by decide +kernel
theorem dX2_up_22 : decode cX2_up 22 = .ok (.iconst 0, 1) := by decide +kernel
theorem dX2_up_23 : decode cX2_up 23 = .ok (.istore_n 2, 1) := by decide +kernel
theorem dX2_up_24 : decode cX2_up 24 = .ok (.iload_n 2, 1) := by decide +kernel
theorem dX2_up_25 : decode cX2_up 25 = .ok (.bipush 64, 2) := by decide +kernel
theorem dX2_up_27 : decode cX2_up 27 = .ok (.if_icmp .ge 34, 3) := by decide +kernel
theorem dX2_up_30 : decode cX2_up 30 = .ok (.aload_n 0, 1) := by decide +kernel
theorem dX2_up_31 : decode cX2_up 31 = .ok (.aload_n 0, 1) := by decide +kernel
theorem dX2_up_32 : decode cX2_up 32 = .ok (.getfield 60, 3) := by decide +kernel
theorem dX2_up_35 : decode cX2_up 35 = .ok (.bipush 8, 2) := by decide +kernel
theorem dX2_up_37 : decode cX2_up 37 = .ok (.iload_n 1, 1) := by decide +kernel
theorem dX2_up_38 : decode cX2_up 38 = .ok (.imul, 1) := by decide +kernel
theorem dX2_up_39 : decode cX2_up 39 = .ok (.iload_n 2, 1) := by decide +kernel
theorem dX2_up_40 : decode cX2_up 40 = .ok (.bipush 8, 2) := by decide +kernel
theorem dX2_up_42 : decode cX2_up 42 = .ok (.idiv, 1) := by decide +kernel
theorem dX2_up_43 : decode cX2_up 43 = .ok (.iadd, 1) := by decide +kernel
theorem dX2_up_44 : decode cX2_up 44 = .ok (.laload, 1) := by decide +kernel
theorem dX2_up_45 : decode cX2_up 45 = .ok (.iload_n 2, 1) := by decide +kernel
theorem dX2_up_46 : decode cX2_up 46 = .ok (.bipush 8, 2) := by decide +kernel
theorem dX2_up_48 : decode cX2_up 48 = .ok (.irem, 1) := by decide +kernel
theorem dX2_up_49 : decode cX2_up 49 = .ok (.invokestatic 102, 3) := by decide +kernel
theorem dX2_up_52 : decode cX2_up 52 = .ok (.invokevirtual 29, 3) := by decide +kernel
theorem dX2_up_55 : decode cX2_up 55 = .ok (.iinc 2 1, 3) := by decide +kernel
theorem dX2_up_58 : decode cX2_up 58 = .ok (.goto (-34), 3) := by decide +kernel
theorem dX2_up_61 : decode cX2_up 61 = .ok (.aload_n 0, 1) := by decide +kernel
theorem dX2_up_62 : decode cX2_up 62 = .ok (.invokevirtual 73, 3) := by decide +kernel
theorem dX2_up_65 : decode cX2_up 65 = .ok (.aload_n 0, 1) := by decide +kernel
theorem dX2_up_66 : decode cX2_up 66 = .ok (.iload_n 1, 1) := by decide +kernel
theorem dX2_up_67 : decode cX2_up 67 = .ok (.invokevirtual 93, 3) := by decide +kernel
theorem dX2_up_70 : decode cX2_up 70 = .ok (.iinc 1 1, 3) := by decide +kernel
theorem dX2_up_73 : decode cX2_up 73 = .ok (.goto (-71), 3) := by decide +kernel
theorem dX2_up_76 : decode cX2_up 76 = .ok (.iconst 0, 1) := by decide +kernel
theorem dX2_up_77 : decode cX2_up 77 = .ok (.istore_n 1, 1) := by decide +kernel
theorem dX2_up_78 : decode cX2_up 78 = .ok (.aload_n 0, 1) := by decide +kernel
theorem dX2_up_79 : decode cX2_up 79 = .ok (.getfield 96, 3) := by decide +kernel
theorem dX2_up_82 : decode cX2_up 82 = .ok (.iconst 2, 1) := by decide +kernel
theorem dX2_up_83 : decode cX2_up 83 = .ok (.irem, 1) := by decide +kernel
theorem dX2_up_84 : decode cX2_up 84 = .ok (.iconst 1, 1) := by decide +kernel
theorem dX2_up_85 : decode cX2_up 85 = .ok (.if_icmp .ne 44, 3) := by decide +kernel
theorem dX2_up_88 : decode cX2_up 88 = .ok (.iload_n 1, 1) := by decide +kernel
theorem dX2_up_89 : decode cX2_up 89 = .ok (.iconst 4, 1) := by decide +kernel
theorem dX2_up_90 : decode cX2_up 90 = .ok (.if_icmp .ge 39, 3) := by decide +kernel
theorem dX2_up_93 : decode cX2_up 93 = .ok (.aload_n 0, 1) := by decide +kernel
theorem dX2_up_94 : decode cX2_up 94 = .ok (.getfield 60, 3) := by decide +kernel
theorem dX2_up_97 : decode cX2_up 97 = .ok (.iconst 2, 1) := by decide +kernel
theorem dX2_up_98 : decode cX2_up 98 = .ok (.aload_n 0, 1) := by decide +kernel
theorem dX2_up_99 : decode cX2_up 99 = .ok (.getfield 96, 3) := by decide +kernel
theorem dX2_up_102 : decode cX2_up 102 = .ok (.iconst 1, 1) := by decide +kernel
theorem dX2_up_103 : decode cX2_up 103 = .ok (.isub, 1) := by decide +kernel
theorem dX2_up_104 : decode cX2_up 104 = .ok (.imul, 1) := by decide +kernel
theorem dX2_up_105 : decode cX2_up 105 = .ok (.iload_n 1, 1) := by decide +kernel
theorem dX2_up_106 : decode cX2_up 106 = .ok (.iadd, 1) := by decide +kernel
theorem dX2_up_107 : decode cX2_up 107 = .ok (.aload_n 0, 1) := by decide +kernel
theorem dX2_up_108 : decode cX2_up 108 = .ok (.getfield 60, 3) := by decide +kernel
theorem dX2_up_111 : decode cX2_up 111 = .ok (.iconst 4, 1) := by decide +kernel
theorem dX2_up_112 : decode cX2_up 112 = .ok (.aload_n 0, 1) := by decide +kernel
theorem dX2_up_113 : decode cX2_up 113 = .ok (.getfield 96, 3) := by decide +kernel
theorem dX2_up_116 : decode cX2_up 116 = .ok (.iconst 1, 1) := by decide +kernel
theorem dX2_up_117 : decode cX2_up 117 = .ok (.isub, 1) := by decide +kernel
theorem dX2_up_118 : decode cX2_up 118 = .ok (.imul, 1) := by decide +kernel
theorem dX2_up_119 : decode cX2_up 119 = .ok (.iload_n 1, 1) := by decide +kernel
theorem dX2_up_120 : decode cX2_up 120 = .ok (.iadd, 1) := by decide +kernel
theorem dX2_up_121 : decode cX2_up 121 = .ok (.laload, 1) := by decide +kernel
theorem dX2_up_122 : decode cX2_up 122 = .ok (.lastore, 1) := by decide +kernel
theorem dX2_up_123 : decode cX2_up 123 = .ok (.iinc 1 1, 3) := by decide +kernel
theorem dX2_up_126 : decode cX2_up 126 = .ok (.goto (-48), 3) := by decide +kernel
theorem dX2_up_129 : decode cX2_up 129 = .ok (.aload_n 0, 1) := by decide +kernel
theorem dX2_up_130 : decode cX2_up 130 = .ok (.aload_n 0, 1) := by decide +kernel
theorem dX2_up_131 : decode cX2_up 131 = .ok (.getfield 96, 3) := by decide +kernel
theorem dX2_up_134 : decode cX2_up 134 = .ok (.iconst 1, 1) := by decide +kernel
theorem dX2_up_135 : decode cX2_up 135 = .ok (.iadd, 1) := by decide +kernel
theorem dX2_up_136 : decode cX2_up 136 = .ok (.iconst 2, 1) := by decide +kernel
theorem dX2_up_137 : decode cX2_up 137 = .ok (.idiv, 1) := by decide +kernel
theorem dX2_up_138 : decode cX2_up 138 = .ok (.putfield 96, 3) := by decide +kernel
theorem dX2_up_141 : decode cX2_up 141 = .ok (.aload_n 0, 1) := by decide +kernel
theorem dX2_up_142 : decode cX2_up 142 = .ok (.aload_n 0, 1) := by decide +kernel
theorem dX2_up_143 : decode cX2_up 143 = .ok (.getfield 99, 3) := by decide +kernel
theorem dX2_up_146 : decode cX2_up 146 = .ok (.iconst 1, 1) := by decide +kernel
theorem dX2_up_147 : decode cX2_up 147 = .ok (.iadd, 1) := by decide +kernel
theorem dX2_up_148 : decode cX2_up 148 = .ok (.putfield 99, 3) := by decide +kernel
theorem dX2_up_151 : decode cX2_up 151 = .ok (.return_, 1) := by decide +kernel
theorem dX2_root2_0 : decode cX2_root2 0 = .ok (.iload_n 1, 1) := by decide +kernel
theorem dX2_root2_1 : decode cX2_root2 1 = .ok (.ifCond .lt 15, 3) := by decide +kernel
theorem dX2_root2_4 : decode cX2_root2 4 = .ok (.iload_n 1, 1) := by decide +kernel
theorem dX2_root2_5 : decode cX2_root2 5 = .ok (.iconst 3, 1) := by decide +kernel
theorem dX2_root2_6 : decode cX2_root2 6 = .ok (.if_icmp .gt 10, 3) := by decide +kernel
theorem dX2_root2_9 : decode cX2_root2 9 = .ok (.aload_n 0, 1) := by decide +kernel
theorem dX2_root2_10 : decode cX2_root2 10 = .ok (.getfield 83, 3) := by decide +kernel
theorem dX2_root2_13 : decode cX2_root2 13 = .ok (.ifCond .ne 5, 3) := by decide +kernel
theorem dX2_root2_16 : decode cX2_root2 16 = .ok (.lconst 0, 1) := by decide +kernel
theorem dX2_root2_17 : decode cX2_root2 17 = .ok (.lreturn, 1) := by decide +kernel
theorem dX2_root2_18 : decode cX2_root2 18 = .ok (.aload_n 0, 1) := by decide +kernel
theorem dX2_root2_19 : decode cX2_root2 19 = .ok (.invokevirtual 106, 3) := by decide +kernel
theorem dX2_root2_22 : decode cX2_root2 22 = .ok (.aload_n 0, 1) := by decide +kernel
theorem dX2_root2_23 : decode cX2_root2 23 = .ok (.getfield 96, 3) := by decide +kernel
theorem dX2_root2_26 : decode cX2_root2 26 = .ok (.iconst 1, 1) := by decide +kernel
theorem dX2_root2_27 : decode cX2_root2 27 = .ok (.if_icmp .le 10, 3) := by decide +kernel
theorem dX2_root2_30 : decode cX2_root2 30 = .ok (.aload_n 0, 1) := by decide +kernel
theorem dX2_root2_31 : decode cX2_root2 31 = .ok (.invokevirtual 109, 3) := by decide +kernel
theorem dX2_root2_34 : decode cX2_root2 34 = .ok (.goto (-12), 3) := by decide +kernel
theorem dX2_root2_37 : decode cX2_root2 37 = .ok (.aload_n 0, 1) := by decide +kernel
theorem dX2_root2_38 : decode cX2_root2 38 = .ok (.getfield 60, 3) := by decide +kernel
theorem dX2_root2_41 : decode cX2_root2 41 = .ok (.iload_n 1, 1) := by decide +kernel
theorem dX2_root2_42 : decode cX2_root2 42 = .ok (.laload, 1) := by decide +kernel
theorem dX2_root2_43 : decode cX2_root2 43 = .ok (.lreturn, 1) := by decide +kernel
theorem dX2_climb_0 : decode cX2_climb 0 = .ok (.aload_n 0, 1) := by decide +kernel
theorem dX2_climb_1 : decode cX2_climb 1 = .ok (.invokevirtual 106, 3) := by decide +kernel
theorem dX2_climb_4 : decode cX2_climb 4 = .ok (.iload_n 1, 1) := by decide +kernel
theorem dX2_climb_5 : decode cX2_climb 5 = .ok (.istore_n 3, 1) := by decide +kernel
theorem dX2_climb_6 : decode cX2_climb 6 = .ok (.aload_n 0, 1) := by decide +kernel
theorem dX2_climb_7 : decode cX2_climb 7 = .ok (.iconst 0, 1) := by decide +kernel
theorem dX2_climb_8 : decode cX2_climb 8 = .ok (.putfield 112, 3) := by decide +kernel
theorem dX2_climb_11 : decode cX2_climb 11 = .ok (.aload_n 0, 1) := by decide +kernel
theorem dX2_climb_12 : decode cX2_climb 12 = .ok (.getfield 96, 3) := by decide +kernel
theorem dX2_climb_15 : decode cX2_climb 15 = .ok (.iconst 1, 1) := by decide +kernel
theorem dX2_climb_16 : decode cX2_climb 16 = .ok (.if_icmp .le 61, 3) := by decide +kernel
theorem dX2_climb_19 : decode cX2_climb 19 = .ok (.iload_n 3, 1) := by decide +kernel
theorem dX2_climb_20 : decode cX2_climb 20 = .ok (.iconst 2, 1) := by decide +kernel
theorem dX2_climb_21 : decode cX2_climb 21 = .ok (.irem, 1) := by decide +kernel
theorem dX2_climb_22 : decode cX2_climb 22 = .ok (.ifCond .ne 9, 3) := by decide +kernel
theorem dX2_climb_25 : decode cX2_climb 25 = .ok (.iload_n 3, 1) := by decide +kernel
theorem dX2_climb_26 : decode cX2_climb 26 = .ok (.iconst 1, 1) := by decide +kernel
theorem dX2_climb_27 : decode cX2_climb 27 = .ok (.iadd, 1) := by decide +kernel
theorem dX2_climb_28 : decode cX2_climb 28 = .ok (.goto 6, 3) := by decide +kernel
theorem dX2_climb_31 : decode cX2_climb 31 = .ok (.iload_n 3, 1) := by decide +kernel
theorem dX2_climb_32 : decode cX2_climb 32 = .ok (.iconst 1, 1) := by decide +kernel
theorem dX2_climb_33 : decode cX2_climb 33 = .ok (.isub, 1) := by decide +kernel
theorem dX2_climb_34 : decode cX2_climb 34 = .ok (.istore 4, 2) := by decide +kernel
theorem dX2_climb_36 : decode cX2_climb 36 = .ok (.iload 4, 2) := by decide +kernel
theorem dX2_climb_38 : decode cX2_climb 38 = .ok (.aload_n 0, 1) := by decide +kernel
theorem dX2_climb_39 : decode cX2_climb 39 = .ok (.getfield 96, 3) := by decide +kernel
theorem dX2_climb_42 : decode cX2_climb 42 = .ok (.if_icmp .ge 24, 3) := by decide +kernel
theorem dX2_climb_45 : decode cX2_climb 45 = .ok (.aload_n 0, 1) := by decide +kernel
theorem dX2_climb_46 : decode cX2_climb 46 = .ok (.getfield 112, 3) := by decide +kernel
theorem dX2_climb_49 : decode cX2_climb 49 = .ok (.iload_n 2, 1) := by decide +kernel
theorem dX2_climb_50 : decode cX2_climb 50 = .ok (.if_icmp .ne 6, 3) := by decide +kernel
theorem dX2_climb_53 : decode cX2_climb 53 = .ok (.iload 4, 2) := by decide +kernel
theorem dX2_climb_55 : decode cX2_climb 55 = .ok (.ireturn, 1) := by decide +kernel
theorem dX2_climb_56 : decode cX2_climb 56 = .ok (.aload_n 0, 1) := by decide +kernel
theorem dX2_climb_57 : decode cX2_climb 57 = .ok (.aload_n 0, 1) := by decide +kernel
theorem dX2_climb_58 : decode cX2_climb 58 = .ok (.getfield 112, 3) := by decide +kernel
theorem dX2_climb_61 : decode cX2_climb 61 = .ok (.iconst 1, 1) := by decide +kernel
theorem dX2_climb_62 : decode cX2_climb 62 = .ok (.iadd, 1) := by decide +kernel
theorem dX2_climb_63 : decode cX2_climb 63 = .ok (.putfield 112, 3) := by decide +kernel
theorem dX2_climb_66 : decode cX2_climb 66 = .ok (.iload_n 3, 1) := by decide +kernel
theorem dX2_climb_67 : decode cX2_climb 67 = .ok (.iconst 2, 1) := by decide +kernel
theorem dX2_climb_68 : decode cX2_climb 68 = .ok (.idiv, 1) := by decide +kernel
theorem dX2_climb_69 : decode cX2_climb 69 = .ok (.istore_n 3, 1) := by decide +kernel
theorem dX2_climb_70 : decode cX2_climb 70 = .ok (.aload_n 0, 1) := by decide +kernel
theorem dX2_climb_71 : decode cX2_climb 71 = .ok (.invokevirtual 109, 3) := by decide +kernel
theorem dX2_climb_74 : decode cX2_climb 74 = .ok (.goto (-63), 3) := by decide +kernel
theorem dX2_climb_77 : decode cX2_climb 77 = .ok (.iconst (-1), 1) := by decide +kernel
theorem dX2_climb_78 : decode cX2_climb 78 = .ok (.ireturn, 1) := by decide +kernel
theorem dX2_way_0 : decode cX2_way 0 = .ok (.aload_n 0, 1) := by decide +kernel
theorem dX2_way_1 : decode cX2_way 1 = .ok (.iload_n 1, 1) := by decide +kernel
theorem dX2_way_2 : decode cX2_way 2 = .ok (.invokevirtual 89, 3) := by decide +kernel
theorem dX2_way_5 : decode cX2_way 5 = .ok (.ifCond .ne 5, 3) := by decide +kernel
theorem dX2_way_8 : decode cX2_way 8 = .ok (.iconst (-1), 1) := by decide +kernel
theorem dX2_way_9 : decode cX2_way 9 = .ok (.ireturn, 1) := by decide +kernel
theorem dX2_way_10 : decode cX2_way 10 = .ok (.aload_n 0, 1) := by decide +kernel
theorem dX2_way_11 : decode cX2_way 11 = .ok (.iload_n 1, 1) := by decide +kernel
theorem dX2_way_12 : decode cX2_way 12 = .ok (.iconst (-1), 1) := by decide +kernel
theorem dX2_way_13 : decode cX2_way 13 = .ok (.invokevirtual 115, 3) := by decide +kernel
theorem dX2_way_16 : decode cX2_way 16 = .ok (.pop, 1) := by decide +kernel
theorem dX2_way_17 : decode cX2_way 17 = .ok (.aload_n 0, 1) := by decide +kernel
theorem dX2_way_18 : decode cX2_way 18 = .ok (.getfield 112, 3) := by decide +kernel
theorem dX2_way_21 : decode cX2_way 21 = .ok (.ireturn, 1) := by decide +kernel
theorem dX2_beside_0 : decode cX2_beside 0 = .ok (.aload_n 0, 1) := by decide +kernel
theorem dX2_beside_1 : decode cX2_beside 1 = .ok (.iload_n 1, 1) := by decide +kernel
theorem dX2_beside_2 : decode cX2_beside 2 = .ok (.invokevirtual 89, 3) := by decide +kernel
theorem dX2_beside_5 : decode cX2_beside 5 = .ok (.ifCond .eq 16, 3) := by decide +kernel
theorem dX2_beside_8 : decode cX2_beside 8 = .ok (.iload_n 2, 1) := by decide +kernel
theorem dX2_beside_9 : decode cX2_beside 9 = .ok (.ifCond .lt 12, 3) := by decide +kernel
theorem dX2_beside_12 : decode cX2_beside 12 = .ok (.iload_n 3, 1) := by decide +kernel
theorem dX2_beside_13 : decode cX2_beside 13 = .ok (.ifCond .lt 8, 3) := by decide +kernel
theorem dX2_beside_16 : decode cX2_beside 16 = .ok (.iload_n 3, 1) := by decide +kernel
theorem dX2_beside_17 : decode cX2_beside 17 = .ok (.iconst 3, 1) := by decide +kernel
theorem dX2_beside_18 : decode cX2_beside 18 = .ok (.if_icmp .le 5, 3) := by decide +kernel
theorem dX2_beside_21 : decode cX2_beside 21 = .ok (.lconst 0, 1) := by decide +kernel
theorem dX2_beside_22 : decode cX2_beside 22 = .ok (.lreturn, 1) := by decide +kernel
theorem dX2_beside_23 : decode cX2_beside 23 = .ok (.aload_n 0, 1) := by decide +kernel
theorem dX2_beside_24 : decode cX2_beside 24 = .ok (.iload_n 1, 1) := by decide +kernel
theorem dX2_beside_25 : decode cX2_beside 25 = .ok (.iload_n 2, 1) := by decide +kernel
theorem dX2_beside_26 : decode cX2_beside 26 = .ok (.invokevirtual 115, 3) := by decide +kernel
theorem dX2_beside_29 : decode cX2_beside 29 = .ok (.istore 4, 2) := by decide +kernel
theorem dX2_beside_31 : decode cX2_beside 31 = .ok (.iload 4, 2) := by decide +kernel
theorem dX2_beside_33 : decode cX2_beside 33 = .ok (.ifCond .ge 7, 3) := by decide +kernel
theorem dX2_beside_36 : decode cX2_beside 36 = .ok (.lconst 0, 1) := by decide +kernel
theorem dX2_beside_37 : decode cX2_beside 37 = .ok (.goto 14, 3) := by decide +kernel
theorem dX2_beside_40 : decode cX2_beside 40 = .ok (.aload_n 0, 1) := by decide +kernel
theorem dX2_beside_41 : decode cX2_beside 41 = .ok (.getfield 60, 3) := by decide +kernel
theorem dX2_beside_44 : decode cX2_beside 44 = .ok (.iconst 4, 1) := by decide +kernel
theorem dX2_beside_45 : decode cX2_beside 45 = .ok (.iload 4, 2) := by decide +kernel
theorem dX2_beside_47 : decode cX2_beside 47 = .ok (.imul, 1) := by decide +kernel
theorem dX2_beside_48 : decode cX2_beside 48 = .ok (.iload_n 3, 1) := by decide +kernel
theorem dX2_beside_49 : decode cX2_beside 49 = .ok (.iadd, 1) := by decide +kernel
theorem dX2_beside_50 : decode cX2_beside 50 = .ok (.laload, 1) := by decide +kernel
theorem dX2_beside_51 : decode cX2_beside 51 = .ok (.lreturn, 1) := by decide +kernel
theorem dX2_isLeft_0 : decode cX2_isLeft 0 = .ok (.aload_n 0, 1) := by decide +kernel
theorem dX2_isLeft_1 : decode cX2_isLeft 1 = .ok (.iload_n 1, 1) := by decide +kernel
theorem dX2_isLeft_2 : decode cX2_isLeft 2 = .ok (.invokevirtual 89, 3) := by decide +kernel
theorem dX2_isLeft_5 : decode cX2_isLeft 5 = .ok (.ifCond .eq 7, 3) := by decide +kernel
theorem dX2_isLeft_8 : decode cX2_isLeft 8 = .ok (.iload_n 2, 1) := by decide +kernel
theorem dX2_isLeft_9 : decode cX2_isLeft 9 = .ok (.ifCond .ge 5, 3) := by decide +kernel
theorem dX2_isLeft_12 : decode cX2_isLeft 12 = .ok (.iconst (-1), 1) := by decide +kernel
theorem dX2_isLeft_13 : decode cX2_isLeft 13 = .ok (.ireturn, 1) := by decide +kernel
theorem dX2_isLeft_14 : decode cX2_isLeft 14 = .ok (.aload_n 0, 1) := by decide +kernel
theorem dX2_isLeft_15 : decode cX2_isLeft 15 = .ok (.iload_n 1, 1) := by decide +kernel
theorem dX2_isLeft_16 : decode cX2_isLeft 16 = .ok (.iload_n 2, 1) := by decide +kernel
theorem dX2_isLeft_17 : decode cX2_isLeft 17 = .ok (.invokevirtual 115, 3) := by decide +kernel
theorem dX2_isLeft_20 : decode cX2_isLeft 20 = .ok (.istore_n 3, 1) := by decide +kernel
theorem dX2_isLeft_21 : decode cX2_isLeft 21 = .ok (.iload_n 3, 1) := by decide +kernel
theorem dX2_isLeft_22 : decode cX2_isLeft 22 = .ok (.ifCond .ge 7, 3) := by decide +kernel
theorem dX2_isLeft_25 : decode cX2_isLeft 25 = .ok (.iconst (-1), 1) := by decide +kernel
theorem dX2_isLeft_26 : decode cX2_isLeft 26 = .ok (.goto 14, 3) := by decide +kernel
theorem dX2_isLeft_29 : decode cX2_isLeft 29 = .ok (.iload_n 3, 1) := by decide +kernel
theorem dX2_isLeft_30 : decode cX2_isLeft 30 = .ok (.iconst 2, 1) := by decide +kernel
theorem dX2_isLeft_31 : decode cX2_isLeft 31 = .ok (.irem, 1) := by decide +kernel
theorem dX2_isLeft_32 : decode cX2_isLeft 32 = .ok (.ifCond .ne 7, 3) := by decide +kernel
theorem dX2_isLeft_35 : decode cX2_isLeft 35 = .ok (.iconst 1, 1) := by decide +kernel
theorem dX2_isLeft_36 : decode cX2_isLeft 36 = .ok (.goto 4, 3) := by decide +kernel
theorem dX2_isLeft_39 : decode cX2_isLeft 39 = .ok (.iconst 0, 1) := by decide +kernel
theorem dX2_isLeft_40 : decode cX2_isLeft 40 = .ok (.ireturn, 1) := by decide +kernel
theorem dX2_proves_0 : decode cX2_proves 0 = .ok (.aload_n 0, 1) := by decide +kernel
theorem dX2_proves_1 : decode cX2_proves 1 = .ok (.iload_n 1, 1) := by decide +kernel
theorem dX2_proves_2 : decode cX2_proves 2 = .ok (.invokevirtual 89, 3) := by decide +kernel
theorem dX2_proves_5 : decode cX2_proves 5 = .ok (.ifCond .ne 5, 3) := by decide +kernel
theorem dX2_proves_8 : decode cX2_proves 8 = .ok (.iconst (-1), 1) := by decide +kernel
theorem dX2_proves_9 : decode cX2_proves 9 = .ok (.ireturn, 1) := by decide +kernel
theorem dX2_proves_10 : decode cX2_proves 10 = .ok (.aload_n 0, 1) := by decide +kernel
theorem dX2_proves_11 : decode cX2_proves 11 = .ok (.iconst 0, 1) := by decide +kernel
theorem dX2_proves_12 : decode cX2_proves 12 = .ok (.putfield 25, 3) := by decide +kernel
theorem dX2_proves_15 : decode cX2_proves 15 = .ok (.aload_n 0, 1) := by decide +kernel
theorem dX2_proves_16 : decode cX2_proves 16 = .ok (.iconst 0, 1) := by decide +kernel
theorem dX2_proves_17 : decode cX2_proves 17 = .ok (.invokevirtual 29, 3) := by decide +kernel
theorem dX2_proves_20 : decode cX2_proves 20 = .ok (.aload_n 0, 1) := by decide +kernel
theorem dX2_proves_21 : decode cX2_proves 21 = .ok (.invokevirtual 76, 3) := by decide +kernel
theorem dX2_proves_24 : decode cX2_proves 24 = .ok (.iconst 0, 1) := by decide +kernel
theorem dX2_proves_25 : decode cX2_proves 25 = .ok (.istore_n 2, 1) := by decide +kernel
theorem dX2_proves_26 : decode cX2_proves 26 = .ok (.iload_n 2, 1) := by decide +kernel
theorem dX2_proves_27 : decode cX2_proves 27 = .ok (.iconst 4, 1) := by decide +kernel
theorem dX2_proves_28 : decode cX2_proves 28 = .ok (.if_icmp .ge 20, 3) := by decide +kernel
theorem dX2_proves_31 : decode cX2_proves 31 = .ok (.aload_n 0, 1) := by decide +kernel
theorem dX2_proves_32 : decode cX2_proves 32 = .ok (.getfield 64, 3) := by decide +kernel
theorem dX2_proves_35 : decode cX2_proves 35 = .ok (.iload_n 2, 1) := by decide +kernel
theorem dX2_proves_36 : decode cX2_proves 36 = .ok (.aload_n 0, 1) := by decide +kernel
theorem dX2_proves_37 : decode cX2_proves 37 = .ok (.iload_n 2, 1) := by decide +kernel
theorem dX2_proves_38 : decode cX2_proves 38 = .ok (.invokevirtual 79, 3) := by decide +kernel
theorem dX2_proves_41 : decode cX2_proves 41 = .ok (.lastore, 1) := by decide +kernel
theorem dX2_proves_42 : decode cX2_proves 42 = .ok (.iinc 2 1, 3) := by decide +kernel
theorem dX2_proves_45 : decode cX2_proves 45 = .ok (.goto (-19), 3) := by decide +kernel
theorem dX2_proves_48 : decode cX2_proves 48 = .ok (.aload_n 0, 1) := by decide +kernel
theorem dX2_proves_49 : decode cX2_proves 49 = .ok (.iload_n 1, 1) := by decide +kernel
theorem dX2_proves_50 : decode cX2_proves 50 = .ok (.invokevirtual 118, 3) := by decide +kernel
theorem dX2_proves_53 : decode cX2_proves 53 = .ok (.istore_n 2, 1) := by decide +kernel
theorem dX2_proves_54 : decode cX2_proves 54 = .ok (.iconst 0, 1) := by decide +kernel
theorem dX2_proves_55 : decode cX2_proves 55 = .ok (.istore_n 3, 1) := by decide +kernel
theorem dX2_proves_56 : decode cX2_proves 56 = .ok (.iload_n 3, 1) := by decide +kernel
theorem dX2_proves_57 : decode cX2_proves 57 = .ok (.iload_n 2, 1) := by decide +kernel
theorem dX2_proves_58 : decode cX2_proves 58 = .ok (.if_icmp .ge 164, 3) := by decide +kernel
theorem dX2_proves_61 : decode cX2_proves 61 = .ok (.aload_n 0, 1) := by decide +kernel
theorem dX2_proves_62 : decode cX2_proves 62 = .ok (.iload_n 1, 1) := by decide +kernel
theorem dX2_proves_63 : decode cX2_proves 63 = .ok (.iload_n 3, 1) := by decide +kernel
theorem dX2_proves_64 : decode cX2_proves 64 = .ok (.invokevirtual 115, 3) := by decide +kernel
theorem dX2_proves_67 : decode cX2_proves 67 = .ok (.istore 4, 2) := by decide +kernel
theorem dX2_proves_69 : decode cX2_proves 69 = .ok (.iload 4, 2) := by decide +kernel
theorem dX2_proves_71 : decode cX2_proves 71 = .ok (.iconst 2, 1) := by decide +kernel
theorem dX2_proves_72 : decode cX2_proves 72 = .ok (.irem, 1) := by decide +kernel
theorem dX2_proves_73 : decode cX2_proves 73 = .ok (.ifCond .ne 7, 3) := by decide +kernel
theorem dX2_proves_76 : decode cX2_proves 76 = .ok (.iconst 1, 1) := by decide +kernel
theorem dX2_proves_77 : decode cX2_proves 77 = .ok (.goto 4, 3) := by decide +kernel
theorem dX2_proves_80 : decode cX2_proves 80 = .ok (.iconst 0, 1) := by decide +kernel
theorem dX2_proves_81 : decode cX2_proves 81 = .ok (.istore 5, 2) := by decide +kernel
theorem dX2_proves_83 : decode cX2_proves 83 = .ok (.aload_n 0, 1) := by decide +kernel
theorem dX2_proves_84 : decode cX2_proves 84 = .ok (.iconst 0, 1) := by decide +kernel
theorem dX2_proves_85 : decode cX2_proves 85 = .ok (.putfield 25, 3) := by decide +kernel
theorem dX2_proves_88 : decode cX2_proves 88 = .ok (.aload_n 0, 1) := by decide +kernel
theorem dX2_proves_89 : decode cX2_proves 89 = .ok (.iconst 1, 1) := by decide +kernel
theorem dX2_proves_90 : decode cX2_proves 90 = .ok (.invokevirtual 29, 3) := by decide +kernel
theorem dX2_proves_93 : decode cX2_proves 93 = .ok (.iconst 0, 1) := by decide +kernel
theorem dX2_proves_94 : decode cX2_proves 94 = .ok (.istore 6, 2) := by decide +kernel
theorem dX2_proves_96 : decode cX2_proves 96 = .ok (.iload 6, 2) := by decide +kernel
theorem dX2_proves_98 : decode cX2_proves 98 = .ok (.bipush 64, 2) := by decide +kernel
theorem dX2_proves_100 : decode cX2_proves 100 = .ok (.if_icmp .ge 84, 3) := by decide +kernel
theorem dX2_proves_103 : decode cX2_proves 103 = .ok (.iload 6, 2) := by decide +kernel
theorem dX2_proves_105 : decode cX2_proves 105 = .ok (.bipush 32, 2) := by decide +kernel
theorem dX2_proves_107 : decode cX2_proves 107 = .ok (.if_icmp .ge 7, 3) := by decide +kernel
theorem dX2_proves_110 : decode cX2_proves 110 = .ok (.iconst 1, 1) := by decide +kernel
theorem dX2_proves_111 : decode cX2_proves 111 = .ok (.goto 4, 3) := by decide +kernel
theorem dX2_proves_114 : decode cX2_proves 114 = .ok (.iconst 0, 1) := by decide +kernel
theorem dX2_proves_115 : decode cX2_proves 115 = .ok (.iload 5, 2) := by decide +kernel
theorem dX2_proves_117 : decode cX2_proves 117 = .ok (.if_icmp .ne 7, 3) := by decide +kernel
theorem dX2_proves_120 : decode cX2_proves 120 = .ok (.iconst 1, 1) := by decide +kernel
theorem dX2_proves_121 : decode cX2_proves 121 = .ok (.goto 4, 3) := by decide +kernel
theorem dX2_proves_124 : decode cX2_proves 124 = .ok (.iconst 0, 1) := by decide +kernel
theorem dX2_proves_125 : decode cX2_proves 125 = .ok (.istore 7, 2) := by decide +kernel
theorem dX2_proves_127 : decode cX2_proves 127 = .ok (.aload_n 0, 1) := by decide +kernel
theorem dX2_proves_128 : decode cX2_proves 128 = .ok (.iload 7, 2) := by decide +kernel
theorem dX2_proves_130 : decode cX2_proves 130 = .ok (.ifCond .eq 24, 3) := by decide +kernel
theorem dX2_proves_133 : decode cX2_proves 133 = .ok (.aload_n 0, 1) := by decide +kernel
theorem dX2_proves_134 : decode cX2_proves 134 = .ok (.getfield 60, 3) := by decide +kernel
theorem dX2_proves_137 : decode cX2_proves 137 = .ok (.iconst 4, 1) := by decide +kernel
theorem dX2_proves_138 : decode cX2_proves 138 = .ok (.iload 4, 2) := by decide +kernel
theorem dX2_proves_140 : decode cX2_proves 140 = .ok (.imul, 1) := by decide +kernel
theorem dX2_proves_141 : decode cX2_proves 141 = .ok (.iload 6, 2) := by decide +kernel
theorem dX2_proves_143 : decode cX2_proves 143 = .ok (.bipush 32, 2) := by decide +kernel
theorem dX2_proves_145 : decode cX2_proves 145 = .ok (.irem, 1) := by decide +kernel
theorem dX2_proves_146 : decode cX2_proves 146 = .ok (.bipush 8, 2) := by decide +kernel
theorem dX2_proves_148 : decode cX2_proves 148 = .ok (.idiv, 1) := by decide +kernel
theorem dX2_proves_149 : decode cX2_proves 149 = .ok (.iadd, 1) := by decide +kernel
theorem dX2_proves_150 : decode cX2_proves 150 = .ok (.laload, 1) := by decide +kernel
theorem dX2_proves_151 : decode cX2_proves 151 = .ok (.goto 16, 3) := by decide +kernel
theorem dX2_proves_154 : decode cX2_proves 154 = .ok (.aload_n 0, 1) := by decide +kernel
theorem dX2_proves_155 : decode cX2_proves 155 = .ok (.getfield 64, 3) := by decide +kernel
theorem dX2_proves_158 : decode cX2_proves 158 = .ok (.iload 6, 2) := by decide +kernel
theorem dX2_proves_160 : decode cX2_proves 160 = .ok (.bipush 32, 2) := by decide +kernel
theorem dX2_proves_162 : decode cX2_proves 162 = .ok (.irem, 1) := by decide +kernel
theorem dX2_proves_163 : decode cX2_proves 163 = .ok (.bipush 8, 2) := by decide +kernel
theorem dX2_proves_165 : decode cX2_proves 165 = .ok (.idiv, 1) := by decide +kernel
theorem dX2_proves_166 : decode cX2_proves 166 = .ok (.laload, 1) := by decide +kernel
theorem dX2_proves_167 : decode cX2_proves 167 = .ok (.iload 6, 2) := by decide +kernel
theorem dX2_proves_169 : decode cX2_proves 169 = .ok (.bipush 8, 2) := by decide +kernel
theorem dX2_proves_171 : decode cX2_proves 171 = .ok (.irem, 1) := by decide +kernel
theorem dX2_proves_172 : decode cX2_proves 172 = .ok (.invokestatic 102, 3) := by decide +kernel
theorem dX2_proves_175 : decode cX2_proves 175 = .ok (.invokevirtual 29, 3) := by decide +kernel
theorem dX2_proves_178 : decode cX2_proves 178 = .ok (.iinc 6 1, 3) := by decide +kernel
theorem dX2_proves_181 : decode cX2_proves 181 = .ok (.goto (-85), 3) := by decide +kernel
theorem dX2_proves_184 : decode cX2_proves 184 = .ok (.aload_n 0, 1) := by decide +kernel
theorem dX2_proves_185 : decode cX2_proves 185 = .ok (.invokevirtual 73, 3) := by decide +kernel
theorem dX2_proves_188 : decode cX2_proves 188 = .ok (.iconst 0, 1) := by decide +kernel
theorem dX2_proves_189 : decode cX2_proves 189 = .ok (.istore 6, 2) := by decide +kernel
theorem dX2_proves_191 : decode cX2_proves 191 = .ok (.iload 6, 2) := by decide +kernel
theorem dX2_proves_193 : decode cX2_proves 193 = .ok (.iconst 4, 1) := by decide +kernel
theorem dX2_proves_194 : decode cX2_proves 194 = .ok (.if_icmp .ge 22, 3) := by decide +kernel
theorem dX2_proves_197 : decode cX2_proves 197 = .ok (.aload_n 0, 1) := by decide +kernel
theorem dX2_proves_198 : decode cX2_proves 198 = .ok (.getfield 64, 3) := by decide +kernel
theorem dX2_proves_201 : decode cX2_proves 201 = .ok (.iload 6, 2) := by decide +kernel
theorem dX2_proves_203 : decode cX2_proves 203 = .ok (.aload_n 0, 1) := by decide +kernel
theorem dX2_proves_204 : decode cX2_proves 204 = .ok (.iload 6, 2) := by decide +kernel
theorem dX2_proves_206 : decode cX2_proves 206 = .ok (.invokevirtual 79, 3) := by decide +kernel
theorem dX2_proves_209 : decode cX2_proves 209 = .ok (.lastore, 1) := by decide +kernel
theorem dX2_proves_210 : decode cX2_proves 210 = .ok (.iinc 6 1, 3) := by decide +kernel
theorem dX2_proves_213 : decode cX2_proves 213 = .ok (.goto (-22), 3) := by decide +kernel
theorem dX2_proves_216 : decode cX2_proves 216 = .ok (.iinc 3 1, 3) := by decide +kernel
theorem dX2_proves_219 : decode cX2_proves 219 = .ok (.goto (-163), 3) := by decide +kernel
theorem dX2_proves_222 : decode cX2_proves 222 = .ok (.iconst 1, 1) := by decide +kernel
theorem dX2_proves_223 : decode cX2_proves 223 = .ok (.istore_n 3, 1) := by decide +kernel
theorem dX2_proves_224 : decode cX2_proves 224 = .ok (.iconst 0, 1) := by decide +kernel
theorem dX2_proves_225 : decode cX2_proves 225 = .ok (.istore 4, 2) := by decide +kernel
theorem dX2_proves_227 : decode cX2_proves 227 = .ok (.iload 4, 2) := by decide +kernel
theorem dX2_proves_229 : decode cX2_proves 229 = .ok (.iconst 4, 1) := by decide +kernel
theorem dX2_proves_230 : decode cX2_proves 230 = .ok (.if_icmp .ge 36, 3) := by decide +kernel
theorem dX2_proves_233 : decode cX2_proves 233 = .ok (.iload_n 3, 1) := by decide +kernel
theorem dX2_proves_234 : decode cX2_proves 234 = .ok (.ifCond .eq 24, 3) := by decide +kernel
theorem dX2_proves_237 : decode cX2_proves 237 = .ok (.aload_n 0, 1) := by decide +kernel
theorem dX2_proves_238 : decode cX2_proves 238 = .ok (.getfield 64, 3) := by decide +kernel
theorem dX2_proves_241 : decode cX2_proves 241 = .ok (.iload 4, 2) := by decide +kernel
theorem dX2_proves_243 : decode cX2_proves 243 = .ok (.laload, 1) := by decide +kernel
theorem dX2_proves_244 : decode cX2_proves 244 = .ok (.aload_n 0, 1) := by decide +kernel
theorem dX2_proves_245 : decode cX2_proves 245 = .ok (.iload 4, 2) := by decide +kernel
theorem dX2_proves_247 : decode cX2_proves 247 = .ok (.invokevirtual 122, 3) := by decide +kernel
theorem dX2_proves_250 : decode cX2_proves 250 = .ok (.lcmp, 1) := by decide +kernel
theorem dX2_proves_251 : decode cX2_proves 251 = .ok (.ifCond .ne 7, 3) := by decide +kernel
theorem dX2_proves_254 : decode cX2_proves 254 = .ok (.iconst 1, 1) := by decide +kernel
theorem dX2_proves_255 : decode cX2_proves 255 = .ok (.goto 4, 3) := by decide +kernel
theorem dX2_proves_258 : decode cX2_proves 258 = .ok (.iconst 0, 1) := by decide +kernel
theorem dX2_proves_259 : decode cX2_proves 259 = .ok (.istore_n 3, 1) := by decide +kernel
theorem dX2_proves_260 : decode cX2_proves 260 = .ok (.iinc 4 1, 3) := by decide +kernel
theorem dX2_proves_263 : decode cX2_proves 263 = .ok (.goto (-36), 3) := by decide +kernel
theorem dX2_proves_266 : decode cX2_proves 266 = .ok (.iload_n 3, 1) := by decide +kernel
theorem dX2_proves_267 : decode cX2_proves 267 = .ok (.ifCond .eq 7, 3) := by decide +kernel
theorem dX2_proves_270 : decode cX2_proves 270 = .ok (.iconst 1, 1) := by decide +kernel
theorem dX2_proves_271 : decode cX2_proves 271 = .ok (.goto 4, 3) := by decide +kernel
theorem dX2_proves_274 : decode cX2_proves 274 = .ok (.iconst 0, 1) := by decide +kernel
theorem dX2_proves_275 : decode cX2_proves 275 = .ok (.ireturn, 1) := by decide +kernel
theorem dX2_count_0 : decode cX2_count 0 = .ok (.iload_n 1, 1) := by decide +kernel
theorem dX2_count_1 : decode cX2_count 1 = .ok (.tableswitch 94 0 3 #[31, 36, 41, 65], 31) := by decide +kernel
theorem dX2_count_32 : decode cX2_count 32 = .ok (.aload_n 0, 1) := by decide +kernel
theorem dX2_count_33 : decode cX2_count 33 = .ok (.getfield 70, 3) := by decide +kernel
theorem dX2_count_36 : decode cX2_count 36 = .ok (.ireturn, 1) := by decide +kernel
theorem dX2_count_37 : decode cX2_count 37 = .ok (.aload_n 0, 1) := by decide +kernel
theorem dX2_count_38 : decode cX2_count 38 = .ok (.getfield 83, 3) := by decide +kernel
theorem dX2_count_41 : decode cX2_count 41 = .ok (.ireturn, 1) := by decide +kernel
theorem dX2_count_42 : decode cX2_count 42 = .ok (.aload_n 0, 1) := by decide +kernel
theorem dX2_count_43 : decode cX2_count 43 = .ok (.invokevirtual 106, 3) := by decide +kernel
theorem dX2_count_46 : decode cX2_count 46 = .ok (.aload_n 0, 1) := by decide +kernel
theorem dX2_count_47 : decode cX2_count 47 = .ok (.getfield 96, 3) := by decide +kernel
theorem dX2_count_50 : decode cX2_count 50 = .ok (.iconst 1, 1) := by decide +kernel
theorem dX2_count_51 : decode cX2_count 51 = .ok (.if_icmp .le 10, 3) := by decide +kernel
theorem dX2_count_54 : decode cX2_count 54 = .ok (.aload_n 0, 1) := by decide +kernel
theorem dX2_count_55 : decode cX2_count 55 = .ok (.invokevirtual 109, 3) := by decide +kernel
theorem dX2_count_58 : decode cX2_count 58 = .ok (.goto (-12), 3) := by decide +kernel
theorem dX2_count_61 : decode cX2_count 61 = .ok (.aload_n 0, 1) := by decide +kernel
theorem dX2_count_62 : decode cX2_count 62 = .ok (.getfield 99, 3) := by decide +kernel
theorem dX2_count_65 : decode cX2_count 65 = .ok (.ireturn, 1) := by decide +kernel
theorem dX2_count_66 : decode cX2_count 66 = .ok (.iconst 0, 1) := by decide +kernel
theorem dX2_count_67 : decode cX2_count 67 = .ok (.istore_n 2, 1) := by decide +kernel
theorem dX2_count_68 : decode cX2_count 68 = .ok (.iconst 0, 1) := by decide +kernel
theorem dX2_count_69 : decode cX2_count 69 = .ok (.istore_n 3, 1) := by decide +kernel
theorem dX2_count_70 : decode cX2_count 70 = .ok (.iload_n 3, 1) := by decide +kernel
theorem dX2_count_71 : decode cX2_count 71 = .ok (.aload_n 0, 1) := by decide +kernel
theorem dX2_count_72 : decode cX2_count 72 = .ok (.getfield 83, 3) := by decide +kernel
theorem dX2_count_75 : decode cX2_count 75 = .ok (.if_icmp .ge 18, 3) := by decide +kernel
theorem dX2_count_78 : decode cX2_count 78 = .ok (.iload_n 2, 1) := by decide +kernel
theorem dX2_count_79 : decode cX2_count 79 = .ok (.aload_n 0, 1) := by decide +kernel
theorem dX2_count_80 : decode cX2_count 80 = .ok (.getfield 57, 3) := by decide +kernel
theorem dX2_count_83 : decode cX2_count 83 = .ok (.iload_n 3, 1) := by decide +kernel
theorem dX2_count_84 : decode cX2_count 84 = .ok (.iaload, 1) := by decide +kernel
theorem dX2_count_85 : decode cX2_count 85 = .ok (.iadd, 1) := by decide +kernel
theorem dX2_count_86 : decode cX2_count 86 = .ok (.istore_n 2, 1) := by decide +kernel
theorem dX2_count_87 : decode cX2_count 87 = .ok (.iinc 3 1, 3) := by decide +kernel
theorem dX2_count_90 : decode cX2_count 90 = .ok (.goto (-20), 3) := by decide +kernel
theorem dX2_count_93 : decode cX2_count 93 = .ok (.iload_n 2, 1) := by decide +kernel
theorem dX2_count_94 : decode cX2_count 94 = .ok (.ireturn, 1) := by decide +kernel
theorem dX2_count_95 : decode cX2_count 95 = .ok (.iconst (-1), 1) := by decide +kernel
theorem dX2_count_96 : decode cX2_count 96 = .ok (.ireturn, 1) := by decide +kernel
