theorem dX2_primes_0 : decode cX2_primes 0 = .ok (.iconst 0, 1) := by decide +kernel
theorem dX2_primes_1 : decode cX2_primes 1 = .ok (.istore_n 1, 1) := by decide +kernel
theorem dX2_primes_2 : decode cX2_primes 2 = .ok (.iconst 2, 1) := by decide +kernel
theorem dX2_primes_3 : decode cX2_primes 3 = .ok (.istore_n 2, 1) := by decide +kernel
theorem dX2_primes_4 : decode cX2_primes 4 = .ok (.iload_n 1, 1) := by decide +kernel
theorem dX2_primes_5 : decode cX2_primes 5 = .ok (.bipush 64, 2) := by decide +kernel
theorem dX2_primes_7 : decode cX2_primes 7 = .ok (.if_icmp .ge 85, 3) := by decide +kernel
theorem dX2_primes_10 : decode cX2_primes 10 = .ok (.iconst 1, 1) := by decide +kernel
theorem dX2_primes_11 : decode cX2_primes 11 = .ok (.istore_n 3, 1) := by decide +kernel
theorem dX2_primes_12 : decode cX2_primes 12 = .ok (.iconst 2, 1) := by decide +kernel
theorem dX2_primes_13 : decode cX2_primes 13 = .ok (.istore 4, 2) := by decide +kernel
theorem dX2_primes_15 : decode cX2_primes 15 = .ok (.iload 4, 2) := by decide +kernel
theorem dX2_primes_17 : decode cX2_primes 17 = .ok (.iload 4, 2) := by decide +kernel
theorem dX2_primes_19 : decode cX2_primes 19 = .ok (.imul, 1) := by decide +kernel
theorem dX2_primes_20 : decode cX2_primes 20 = .ok (.iload_n 2, 1) := by decide +kernel
theorem dX2_primes_21 : decode cX2_primes 21 = .ok (.if_icmp .gt 26, 3) := by decide +kernel
theorem dX2_primes_24 : decode cX2_primes 24 = .ok (.iload_n 3, 1) := by decide +kernel
theorem dX2_primes_25 : decode cX2_primes 25 = .ok (.ifCond .eq 14, 3) := by decide +kernel
theorem dX2_primes_28 : decode cX2_primes 28 = .ok (.iload_n 2, 1) := by decide +kernel
theorem dX2_primes_29 : decode cX2_primes 29 = .ok (.iload 4, 2) := by decide +kernel
theorem dX2_primes_31 : decode cX2_primes 31 = .ok (.irem, 1) := by decide +kernel
theorem dX2_primes_32 : decode cX2_primes 32 = .ok (.ifCond .eq 7, 3) := by decide +kernel
theorem dX2_primes_35 : decode cX2_primes 35 = .ok (.iconst 1, 1) := by decide +kernel
theorem dX2_primes_36 : decode cX2_primes 36 = .ok (.goto 4, 3) := by decide +kernel
theorem dX2_primes_39 : decode cX2_primes 39 = .ok (.iconst 0, 1) := by decide +kernel
theorem dX2_primes_40 : decode cX2_primes 40 = .ok (.istore_n 3, 1) := by decide +kernel
theorem dX2_primes_41 : decode cX2_primes 41 = .ok (.iinc 4 1, 3) := by decide +kernel
theorem dX2_primes_44 : decode cX2_primes 44 = .ok (.goto (-29), 3) := by decide +kernel
theorem dX2_primes_47 : decode cX2_primes 47 = .ok (.iload_n 3, 1) := by decide +kernel
theorem dX2_primes_48 : decode cX2_primes 48 = .ok (.ifCond .ne 6, 3) := by decide +kernel
theorem dX2_primes_51 : decode cX2_primes 51 = .ok (.goto 35, 3) := by decide +kernel
theorem dX2_primes_54 : decode cX2_primes 54 = .ok (.iload_n 1, 1) := by decide +kernel
theorem dX2_primes_55 : decode cX2_primes 55 = .ok (.bipush 8, 2) := by decide +kernel
theorem dX2_primes_57 : decode cX2_primes 57 = .ok (.if_icmp .ge 14, 3) := by decide +kernel
theorem dX2_primes_60 : decode cX2_primes 60 = .ok (.aload_n 0, 1) := by decide +kernel
theorem dX2_primes_61 : decode cX2_primes 61 = .ok (.getfield 1, 3) := by decide +kernel
theorem dX2_primes_64 : decode cX2_primes 64 = .ok (.iload_n 1, 1) := by decide +kernel
theorem dX2_primes_65 : decode cX2_primes 65 = .ok (.iload_n 2, 1) := by decide +kernel
theorem dX2_primes_66 : decode cX2_primes 66 = .ok (.iconst 2, 1) := by decide +kernel
theorem dX2_primes_67 : decode cX2_primes 67 = .ok (.invokestatic 7, 3) := by decide +kernel
theorem dX2_primes_70 : decode cX2_primes 70 = .ok (.iastore, 1) := by decide +kernel
theorem dX2_primes_71 : decode cX2_primes 71 = .ok (.aload_n 0, 1) := by decide +kernel
theorem dX2_primes_72 : decode cX2_primes 72 = .ok (.getfield 11, 3) := by decide +kernel
theorem dX2_primes_75 : decode cX2_primes 75 = .ok (.iload_n 1, 1) := by decide +kernel
theorem dX2_primes_76 : decode cX2_primes 76 = .ok (.iload_n 2, 1) := by decide +kernel
theorem dX2_primes_77 : decode cX2_primes 77 = .ok (.iconst 3, 1) := by decide +kernel
theorem dX2_primes_78 : decode cX2_primes 78 = .ok (.invokestatic 7, 3) := by decide +kernel
theorem dX2_primes_81 : decode cX2_primes 81 = .ok (.iastore, 1) := by decide +kernel
theorem dX2_primes_82 : decode cX2_primes 82 = .ok (.iload_n 1, 1) := by decide +kernel
theorem dX2_primes_83 : decode cX2_primes 83 = .ok (.iconst 1, 1) := by decide +kernel
theorem dX2_primes_84 : decode cX2_primes 84 = .ok (.iadd, 1) := by decide +kernel
theorem dX2_primes_85 : decode cX2_primes 85 = .ok (.istore_n 1, 1) := by decide +kernel
theorem dX2_primes_86 : decode cX2_primes 86 = .ok (.iinc 2 1, 3) := by decide +kernel
theorem dX2_primes_89 : decode cX2_primes 89 = .ok (.goto (-85), 3) := by decide +kernel
theorem dX2_primes_92 : decode cX2_primes 92 = .ok (.return_, 1) := by decide +kernel
theorem dX2_root_0 : decode cX2_root 0 = .ok (.lconst 0, 1) := by decide +kernel
theorem dX2_root_1 : decode cX2_root 1 = .ok (.lstore_n 2, 1) := by decide +kernel
theorem dX2_root_2 : decode cX2_root 2 = .ok (.bipush 35, 2) := by decide +kernel
theorem dX2_root_4 : decode cX2_root 4 = .ok (.istore 4, 2) := by decide +kernel
theorem dX2_root_6 : decode cX2_root 6 = .ok (.iload 4, 2) := by decide +kernel
theorem dX2_root_8 : decode cX2_root 8 = .ok (.ifCond .lt 30, 3) := by decide +kernel
theorem dX2_root_11 : decode cX2_root 11 = .ok (.lload_n 2, 1) := by decide +kernel
theorem dX2_root_12 : decode cX2_root 12 = .ok (.lconst 1, 1) := by decide +kernel
theorem dX2_root_13 : decode cX2_root 13 = .ok (.iload 4, 2) := by decide +kernel
theorem dX2_root_15 : decode cX2_root 15 = .ok (.lshl, 1) := by decide +kernel
theorem dX2_root_16 : decode cX2_root 16 = .ok (.lor, 1) := by decide +kernel
theorem dX2_root_17 : decode cX2_root 17 = .ok (.lstore 5, 2) := by decide +kernel
theorem dX2_root_19 : decode cX2_root 19 = .ok (.lload 5, 2) := by decide +kernel
theorem dX2_root_21 : decode cX2_root 21 = .ok (.iload_n 0, 1) := by decide +kernel
theorem dX2_root_22 : decode cX2_root 22 = .ok (.iload_n 1, 1) := by decide +kernel
theorem dX2_root_23 : decode cX2_root 23 = .ok (.invokestatic 14, 3) := by decide +kernel
theorem dX2_root_26 : decode cX2_root 26 = .ok (.ifCond .ne 6, 3) := by decide +kernel
theorem dX2_root_29 : decode cX2_root 29 = .ok (.lload 5, 2) := by decide +kernel
theorem dX2_root_31 : decode cX2_root 31 = .ok (.lstore_n 2, 1) := by decide +kernel
theorem dX2_root_32 : decode cX2_root 32 = .ok (.iinc 4 (-1), 3) := by decide +kernel
theorem dX2_root_35 : decode cX2_root 35 = .ok (.goto (-29), 3) := by decide +kernel
theorem dX2_root_38 : decode cX2_root 38 = .ok (.lload_n 2, 1) := by decide +kernel
theorem dX2_root_39 : decode cX2_root 39 = .ok (.l2i, 1) := by decide +kernel
theorem dX2_root_40 : decode cX2_root 40 = .ok (.ireturn, 1) := by decide +kernel
theorem dX2_isAbove_0 : decode cX2_isAbove 0 = .ok (.lload_n 0, 1) := by decide +kernel
theorem dX2_isAbove_1 : decode cX2_isAbove 1 = .ok (.bipush 32, 2) := by decide +kernel
theorem dX2_isAbove_3 : decode cX2_isAbove 3 = .ok (.lshr, 1) := by decide +kernel
theorem dX2_isAbove_4 : decode cX2_isAbove 4 = .ok (.lstore 4, 2) := by decide +kernel
theorem dX2_isAbove_6 : decode cX2_isAbove 6 = .ok (.lload_n 0, 1) := by decide +kernel
theorem dX2_isAbove_7 : decode cX2_isAbove 7 = .ok (.ldc2_w 18, 3) := by decide +kernel
theorem dX2_isAbove_10 : decode cX2_isAbove 10 = .ok (.land, 1) := by decide +kernel
theorem dX2_isAbove_11 : decode cX2_isAbove 11 = .ok (.lstore 6, 2) := by decide +kernel
theorem dX2_isAbove_13 : decode cX2_isAbove 13 = .ok (.lload 6, 2) := by decide +kernel
theorem dX2_isAbove_15 : decode cX2_isAbove 15 = .ok (.lload 6, 2) := by decide +kernel
theorem dX2_isAbove_17 : decode cX2_isAbove 17 = .ok (.lmul, 1) := by decide +kernel
theorem dX2_isAbove_18 : decode cX2_isAbove 18 = .ok (.lstore 8, 2) := by decide +kernel
theorem dX2_isAbove_20 : decode cX2_isAbove 20 = .ok (.lload 8, 2) := by decide +kernel
theorem dX2_isAbove_22 : decode cX2_isAbove 22 = .ok (.ldc2_w 18, 3) := by decide +kernel
theorem dX2_isAbove_25 : decode cX2_isAbove 25 = .ok (.land, 1) := by decide +kernel
theorem dX2_isAbove_26 : decode cX2_isAbove 26 = .ok (.lstore 10, 2) := by decide +kernel
theorem dX2_isAbove_28 : decode cX2_isAbove 28 = .ok (.lload 8, 2) := by decide +kernel
theorem dX2_isAbove_30 : decode cX2_isAbove 30 = .ok (.bipush 32, 2) := by decide +kernel
theorem dX2_isAbove_32 : decode cX2_isAbove 32 = .ok (.lushr, 1) := by decide +kernel
theorem dX2_isAbove_33 : decode cX2_isAbove 33 = .ok (.ldc2_w 20, 3) := by decide +kernel
theorem dX2_isAbove_36 : decode cX2_isAbove 36 = .ok (.lload 4, 2) := by decide +kernel
theorem dX2_isAbove_38 : decode cX2_isAbove 38 = .ok (.lmul, 1) := by decide +kernel
theorem dX2_isAbove_39 : decode cX2_isAbove 39 = .ok (.lload 6, 2) := by decide +kernel
theorem dX2_isAbove_41 : decode cX2_isAbove 41 = .ok (.lmul, 1) := by decide +kernel
theorem dX2_isAbove_42 : decode cX2_isAbove 42 = .ok (.ldc2_w 18, 3) := by decide +kernel
theorem dX2_isAbove_45 : decode cX2_isAbove 45 = .ok (.land, 1) := by decide +kernel
theorem dX2_isAbove_46 : decode cX2_isAbove 46 = .ok (.ladd, 1) := by decide +kernel
theorem dX2_isAbove_47 : decode cX2_isAbove 47 = .ok (.lstore 12, 2) := by decide +kernel
theorem dX2_isAbove_49 : decode cX2_isAbove 49 = .ok (.lload 4, 2) := by decide +kernel
theorem dX2_isAbove_51 : decode cX2_isAbove 51 = .ok (.lload 4, 2) := by decide +kernel
theorem dX2_isAbove_53 : decode cX2_isAbove 53 = .ok (.lmul, 1) := by decide +kernel
theorem dX2_isAbove_54 : decode cX2_isAbove 54 = .ok (.ldc2_w 20, 3) := by decide +kernel
theorem dX2_isAbove_57 : decode cX2_isAbove 57 = .ok (.lload 4, 2) := by decide +kernel
theorem dX2_isAbove_59 : decode cX2_isAbove 59 = .ok (.lmul, 1) := by decide +kernel
theorem dX2_isAbove_60 : decode cX2_isAbove 60 = .ok (.lload 6, 2) := by decide +kernel
theorem dX2_isAbove_62 : decode cX2_isAbove 62 = .ok (.lmul, 1) := by decide +kernel
theorem dX2_isAbove_63 : decode cX2_isAbove 63 = .ok (.bipush 32, 2) := by decide +kernel
theorem dX2_isAbove_65 : decode cX2_isAbove 65 = .ok (.lushr, 1) := by decide +kernel
theorem dX2_isAbove_66 : decode cX2_isAbove 66 = .ok (.ladd, 1) := by decide +kernel
theorem dX2_isAbove_67 : decode cX2_isAbove 67 = .ok (.lload 12, 2) := by decide +kernel
theorem dX2_isAbove_69 : decode cX2_isAbove 69 = .ok (.bipush 32, 2) := by decide +kernel
theorem dX2_isAbove_71 : decode cX2_isAbove 71 = .ok (.lushr, 1) := by decide +kernel
theorem dX2_isAbove_72 : decode cX2_isAbove 72 = .ok (.ladd, 1) := by decide +kernel
theorem dX2_isAbove_73 : decode cX2_isAbove 73 = .ok (.lstore 14, 2) := by decide +kernel
theorem dX2_isAbove_75 : decode cX2_isAbove 75 = .ok (.lload 12, 2) := by decide +kernel
theorem dX2_isAbove_77 : decode cX2_isAbove 77 = .ok (.ldc2_w 18, 3) := by decide +kernel
theorem dX2_isAbove_80 : decode cX2_isAbove 80 = .ok (.land, 1) := by decide +kernel
theorem dX2_isAbove_81 : decode cX2_isAbove 81 = .ok (.lstore 12, 2) := by decide +kernel
theorem dX2_isAbove_83 : decode cX2_isAbove 83 = .ok (.iload_n 3, 1) := by decide +kernel
theorem dX2_isAbove_84 : decode cX2_isAbove 84 = .ok (.iconst 2, 1) := by decide +kernel
theorem dX2_isAbove_85 : decode cX2_isAbove 85 = .ok (.if_icmp .ne 39, 3) := by decide +kernel
theorem dX2_isAbove_88 : decode cX2_isAbove 88 = .ok (.lload 14, 2) := by decide +kernel
theorem dX2_isAbove_90 : decode cX2_isAbove 90 = .ok (.iload_n 2, 1) := by decide +kernel
theorem dX2_isAbove_91 : decode cX2_isAbove 91 = .ok (.i2l, 1) := by decide +kernel
theorem dX2_isAbove_92 : decode cX2_isAbove 92 = .ok (.lcmp, 1) := by decide +kernel
theorem dX2_isAbove_93 : decode cX2_isAbove 93 = .ok (.ifCond .gt 25, 3) := by decide +kernel
theorem dX2_isAbove_96 : decode cX2_isAbove 96 = .ok (.lload 14, 2) := by decide +kernel
theorem dX2_isAbove_98 : decode cX2_isAbove 98 = .ok (.iload_n 2, 1) := by decide +kernel
theorem dX2_isAbove_99 : decode cX2_isAbove 99 = .ok (.i2l, 1) := by decide +kernel
theorem dX2_isAbove_100 : decode cX2_isAbove 100 = .ok (.lcmp, 1) := by decide +kernel
theorem dX2_isAbove_101 : decode cX2_isAbove 101 = .ok (.ifCond .ne 21, 3) := by decide +kernel
theorem dX2_isAbove_104 : decode cX2_isAbove 104 = .ok (.lload 12, 2) := by decide +kernel
theorem dX2_isAbove_106 : decode cX2_isAbove 106 = .ok (.lconst 0, 1) := by decide +kernel
theorem dX2_isAbove_107 : decode cX2_isAbove 107 = .ok (.lcmp, 1) := by decide +kernel
theorem dX2_isAbove_108 : decode cX2_isAbove 108 = .ok (.ifCond .gt 10, 3) := by decide +kernel
theorem dX2_isAbove_111 : decode cX2_isAbove 111 = .ok (.lload 10, 2) := by decide +kernel
theorem dX2_isAbove_113 : decode cX2_isAbove 113 = .ok (.lconst 0, 1) := by decide +kernel
theorem dX2_isAbove_114 : decode cX2_isAbove 114 = .ok (.lcmp, 1) := by decide +kernel
theorem dX2_isAbove_115 : decode cX2_isAbove 115 = .ok (.ifCond .le 7, 3) := by decide +kernel
theorem dX2_isAbove_118 : decode cX2_isAbove 118 = .ok (.iconst 1, 1) := by decide +kernel
theorem dX2_isAbove_119 : decode cX2_isAbove 119 = .ok (.goto 4, 3) := by decide +kernel
theorem dX2_isAbove_122 : decode cX2_isAbove 122 = .ok (.iconst 0, 1) := by decide +kernel
theorem dX2_isAbove_123 : decode cX2_isAbove 123 = .ok (.ireturn, 1) := by decide +kernel
theorem dX2_isAbove_124 : decode cX2_isAbove 124 = .ok (.lload 10, 2) := by decide +kernel
theorem dX2_isAbove_126 : decode cX2_isAbove 126 = .ok (.lload 6, 2) := by decide +kernel
theorem dX2_isAbove_128 : decode cX2_isAbove 128 = .ok (.lmul, 1) := by decide +kernel
theorem dX2_isAbove_129 : decode cX2_isAbove 129 = .ok (.lstore 16, 2) := by decide +kernel
theorem dX2_isAbove_131 : decode cX2_isAbove 131 = .ok (.lload 12, 2) := by decide +kernel
theorem dX2_isAbove_133 : decode cX2_isAbove 133 = .ok (.lload 6, 2) := by decide +kernel
theorem dX2_isAbove_135 : decode cX2_isAbove 135 = .ok (.lmul, 1) := by decide +kernel
theorem dX2_isAbove_136 : decode cX2_isAbove 136 = .ok (.lstore 18, 2) := by decide +kernel
theorem dX2_isAbove_138 : decode cX2_isAbove 138 = .ok (.lload 14, 2) := by decide +kernel
theorem dX2_isAbove_140 : decode cX2_isAbove 140 = .ok (.lload 6, 2) := by decide +kernel
theorem dX2_isAbove_142 : decode cX2_isAbove 142 = .ok (.lmul, 1) := by decide +kernel
theorem dX2_isAbove_143 : decode cX2_isAbove 143 = .ok (.lstore 20, 2) := by decide +kernel
theorem dX2_isAbove_145 : decode cX2_isAbove 145 = .ok (.lload 16, 2) := by decide +kernel
theorem dX2_isAbove_147 : decode cX2_isAbove 147 = .ok (.ldc2_w 18, 3) := by decide +kernel
theorem dX2_isAbove_150 : decode cX2_isAbove 150 = .ok (.land, 1) := by decide +kernel
theorem dX2_isAbove_151 : decode cX2_isAbove 151 = .ok (.lstore 22, 2) := by decide +kernel
theorem dX2_isAbove_153 : decode cX2_isAbove 153 = .ok (.lload 16, 2) := by decide +kernel
theorem dX2_isAbove_155 : decode cX2_isAbove 155 = .ok (.bipush 32, 2) := by decide +kernel
theorem dX2_isAbove_157 : decode cX2_isAbove 157 = .ok (.lushr, 1) := by decide +kernel
theorem dX2_isAbove_158 : decode cX2_isAbove 158 = .ok (.lload 18, 2) := by decide +kernel
theorem dX2_isAbove_160 : decode cX2_isAbove 160 = .ok (.ldc2_w 18, 3) := by decide +kernel
theorem dX2_isAbove_163 : decode cX2_isAbove 163 = .ok (.land, 1) := by decide +kernel
theorem dX2_isAbove_164 : decode cX2_isAbove 164 = .ok (.ladd, 1) := by decide +kernel
theorem dX2_isAbove_165 : decode cX2_isAbove 165 = .ok (.lload 10, 2) := by decide +kernel
theorem dX2_isAbove_167 : decode cX2_isAbove 167 = .ok (.lload 4, 2) := by decide +kernel
theorem dX2_isAbove_169 : decode cX2_isAbove 169 = .ok (.lmul, 1) := by decide +kernel
theorem dX2_isAbove_170 : decode cX2_isAbove 170 = .ok (.ladd, 1) := by decide +kernel
theorem dX2_isAbove_171 : decode cX2_isAbove 171 = .ok (.lstore 24, 2) := by decide +kernel
theorem dX2_isAbove_173 : decode cX2_isAbove 173 = .ok (.lload 18, 2) := by decide +kernel
theorem dX2_isAbove_175 : decode cX2_isAbove 175 = .ok (.bipush 32, 2) := by decide +kernel
theorem dX2_isAbove_177 : decode cX2_isAbove 177 = .ok (.lushr, 1) := by decide +kernel
theorem dX2_isAbove_178 : decode cX2_isAbove 178 = .ok (.lload 20, 2) := by decide +kernel
theorem dX2_isAbove_180 : decode cX2_isAbove 180 = .ok (.ladd, 1) := by decide +kernel
theorem dX2_isAbove_181 : decode cX2_isAbove 181 = .ok (.lload 12, 2) := by decide +kernel
theorem dX2_isAbove_183 : decode cX2_isAbove 183 = .ok (.lload 4, 2) := by decide +kernel
theorem dX2_isAbove_185 : decode cX2_isAbove 185 = .ok (.lmul, 1) := by decide +kernel
theorem dX2_isAbove_186 : decode cX2_isAbove 186 = .ok (.ladd, 1) := by decide +kernel
theorem dX2_isAbove_187 : decode cX2_isAbove 187 = .ok (.lload 24, 2) := by decide +kernel
theorem dX2_isAbove_189 : decode cX2_isAbove 189 = .ok (.bipush 32, 2) := by decide +kernel
theorem dX2_isAbove_191 : decode cX2_isAbove 191 = .ok (.lushr, 1) := by decide +kernel
theorem dX2_isAbove_192 : decode cX2_isAbove 192 = .ok (.ladd, 1) := by decide +kernel
theorem dX2_isAbove_193 : decode cX2_isAbove 193 = .ok (.lstore 26, 2) := by decide +kernel
theorem dX2_isAbove_195 : decode cX2_isAbove 195 = .ok (.lload 14, 2) := by decide +kernel
theorem dX2_isAbove_197 : decode cX2_isAbove 197 = .ok (.lload 4, 2) := by decide +kernel
theorem dX2_isAbove_199 : decode cX2_isAbove 199 = .ok (.lmul, 1) := by decide +kernel
theorem dX2_isAbove_200 : decode cX2_isAbove 200 = .ok (.lload 26, 2) := by decide +kernel
theorem dX2_isAbove_202 : decode cX2_isAbove 202 = .ok (.bipush 32, 2) := by decide +kernel
theorem dX2_isAbove_204 : decode cX2_isAbove 204 = .ok (.lushr, 1) := by decide +kernel
theorem dX2_isAbove_205 : decode cX2_isAbove 205 = .ok (.ladd, 1) := by decide +kernel
theorem dX2_isAbove_206 : decode cX2_isAbove 206 = .ok (.lstore 28, 2) := by decide +kernel
theorem dX2_isAbove_208 : decode cX2_isAbove 208 = .ok (.lload 24, 2) := by decide +kernel
theorem dX2_isAbove_210 : decode cX2_isAbove 210 = .ok (.ldc2_w 18, 3) := by decide +kernel
theorem dX2_isAbove_213 : decode cX2_isAbove 213 = .ok (.land, 1) := by decide +kernel
theorem dX2_isAbove_214 : decode cX2_isAbove 214 = .ok (.lstore 24, 2) := by decide +kernel
theorem dX2_isAbove_216 : decode cX2_isAbove 216 = .ok (.lload 26, 2) := by decide +kernel
theorem dX2_isAbove_218 : decode cX2_isAbove 218 = .ok (.ldc2_w 18, 3) := by decide +kernel
theorem dX2_isAbove_221 : decode cX2_isAbove 221 = .ok (.land, 1) := by decide +kernel
theorem dX2_isAbove_222 : decode cX2_isAbove 222 = .ok (.lstore 26, 2) := by decide +kernel
theorem dX2_isAbove_224 : decode cX2_isAbove 224 = .ok (.lload 28, 2) := by decide +kernel
theorem dX2_isAbove_226 : decode cX2_isAbove 226 = .ok (.iload_n 2, 1) := by decide +kernel
theorem dX2_isAbove_227 : decode cX2_isAbove 227 = .ok (.i2l, 1) := by decide +kernel
theorem dX2_isAbove_228 : decode cX2_isAbove 228 = .ok (.lcmp, 1) := by decide +kernel
theorem dX2_isAbove_229 : decode cX2_isAbove 229 = .ok (.ifCond .gt 32, 3) := by decide +kernel
theorem dX2_isAbove_232 : decode cX2_isAbove 232 = .ok (.lload 28, 2) := by decide +kernel
theorem dX2_isAbove_234 : decode cX2_isAbove 234 = .ok (.iload_n 2, 1) := by decide +kernel
theorem dX2_isAbove_235 : decode cX2_isAbove 235 = .ok (.i2l, 1) := by decide +kernel
theorem dX2_isAbove_236 : decode cX2_isAbove 236 = .ok (.lcmp, 1) := by decide +kernel
theorem dX2_isAbove_237 : decode cX2_isAbove 237 = .ok (.ifCond .ne 28, 3) := by decide +kernel
theorem dX2_isAbove_240 : decode cX2_isAbove 240 = .ok (.lload 26, 2) := by decide +kernel
theorem dX2_isAbove_242 : decode cX2_isAbove 242 = .ok (.lconst 0, 1) := by decide +kernel
theorem dX2_isAbove_243 : decode cX2_isAbove 243 = .ok (.lcmp, 1) := by decide +kernel
theorem dX2_isAbove_244 : decode cX2_isAbove 244 = .ok (.ifCond .gt 17, 3) := by decide +kernel
theorem dX2_isAbove_247 : decode cX2_isAbove 247 = .ok (.lload 24, 2) := by decide +kernel
theorem dX2_isAbove_249 : decode cX2_isAbove 249 = .ok (.lconst 0, 1) := by decide +kernel
theorem dX2_isAbove_250 : decode cX2_isAbove 250 = .ok (.lcmp, 1) := by decide +kernel
theorem dX2_isAbove_251 : decode cX2_isAbove 251 = .ok (.ifCond .gt 10, 3) := by decide +kernel
theorem dX2_isAbove_254 : decode cX2_isAbove 254 = .ok (.lload 22, 2) := by decide +kernel
theorem dX2_isAbove_256 : decode cX2_isAbove 256 = .ok (.lconst 0, 1) := by decide +kernel
theorem dX2_isAbove_257 : decode cX2_isAbove 257 = .ok (.lcmp, 1) := by decide +kernel
theorem dX2_isAbove_258 : decode cX2_isAbove 258 = .ok (.ifCond .le 7, 3) := by decide +kernel
theorem dX2_isAbove_261 : decode cX2_isAbove 261 = .ok (.iconst 1, 1) := by decide +kernel
theorem dX2_isAbove_262 : decode cX2_isAbove 262 = .ok (.goto 4, 3) := by decide +kernel
theorem dX2_isAbove_265 : decode cX2_isAbove 265 = .ok (.iconst 0, 1) := by decide +kernel
theorem dX2_isAbove_266 : decode cX2_isAbove 266 = .ok (.ireturn, 1) := by decide +kernel
theorem dX2_turn_0 : decode cX2_turn 0 = .ok (.iload_n 0, 1) := by decide +kernel
theorem dX2_turn_1 : decode cX2_turn 1 = .ok (.iload_n 1, 1) := by decide +kernel
theorem dX2_turn_2 : decode cX2_turn 2 = .ok (.iushr, 1) := by decide +kernel
theorem dX2_turn_3 : decode cX2_turn 3 = .ok (.iload_n 0, 1) := by decide +kernel
theorem dX2_turn_4 : decode cX2_turn 4 = .ok (.bipush 32, 2) := by decide +kernel
theorem dX2_turn_6 : decode cX2_turn 6 = .ok (.iload_n 1, 1) := by decide +kernel
theorem dX2_turn_7 : decode cX2_turn 7 = .ok (.isub, 1) := by decide +kernel
theorem dX2_turn_8 : decode cX2_turn 8 = .ok (.ishl, 1) := by decide +kernel
theorem dX2_turn_9 : decode cX2_turn 9 = .ok (.ior, 1) := by decide +kernel
theorem dX2_turn_10 : decode cX2_turn 10 = .ok (.ireturn, 1) := by decide +kernel
theorem dX2_hashByte_0 : decode cX2_hashByte 0 = .ok (.aload_n 0, 1) := by decide +kernel
theorem dX2_hashByte_1 : decode cX2_hashByte 1 = .ok (.getfield 22, 3) := by decide +kernel
theorem dX2_hashByte_4 : decode cX2_hashByte 4 = .ok (.aload_n 0, 1) := by decide +kernel
theorem dX2_hashByte_5 : decode cX2_hashByte 5 = .ok (.getfield 25, 3) := by decide +kernel
theorem dX2_hashByte_8 : decode cX2_hashByte 8 = .ok (.iload_n 1, 1) := by decide +kernel
theorem dX2_hashByte_9 : decode cX2_hashByte 9 = .ok (.sipush 255, 3) := by decide +kernel
theorem dX2_hashByte_12 : decode cX2_hashByte 12 = .ok (.iand, 1) := by decide +kernel
theorem dX2_hashByte_13 : decode cX2_hashByte 13 = .ok (.iastore, 1) := by decide +kernel
theorem dX2_hashByte_14 : decode cX2_hashByte 14 = .ok (.aload_n 0, 1) := by decide +kernel
theorem dX2_hashByte_15 : decode cX2_hashByte 15 = .ok (.aload_n 0, 1) := by decide +kernel
theorem dX2_hashByte_16 : decode cX2_hashByte 16 = .ok (.getfield 25, 3) := by decide +kernel
theorem dX2_hashByte_19 : decode cX2_hashByte 19 = .ok (.iconst 1, 1) := by decide +kernel
theorem dX2_hashByte_20 : decode cX2_hashByte 20 = .ok (.iadd, 1) := by decide +kernel
theorem dX2_hashByte_21 : decode cX2_hashByte 21 = .ok (.putfield 25, 3) := by decide +kernel
theorem dX2_hashByte_24 : decode cX2_hashByte 24 = .ok (.return_, 1) := by decide +kernel
theorem dX2_digest_0 : decode cX2_digest 0 = .ok (.aload_n 0, 1) := by decide +kernel
theorem dX2_digest_1 : decode cX2_digest 1 = .ok (.getfield 25, 3) := by decide +kernel
theorem dX2_digest_4 : decode cX2_digest 4 = .ok (.istore_n 1, 1) := by decide +kernel
theorem dX2_digest_5 : decode cX2_digest 5 = .ok (.aload_n 0, 1) := by decide +kernel
theorem dX2_digest_6 : decode cX2_digest 6 = .ok (.sipush 128, 3) := by decide +kernel
theorem dX2_digest_9 : decode cX2_digest 9 = .ok (.invokevirtual 29, 3) := by decide +kernel
theorem dX2_digest_12 : decode cX2_digest 12 = .ok (.aload_n 0, 1) := by decide +kernel
theorem dX2_digest_13 : decode cX2_digest 13 = .ok (.getfield 25, 3) := by decide +kernel
theorem dX2_digest_16 : decode cX2_digest 16 = .ok (.bipush 64, 2) := by decide +kernel
theorem dX2_digest_18 : decode cX2_digest 18 = .ok (.irem, 1) := by decide +kernel
theorem dX2_digest_19 : decode cX2_digest 19 = .ok (.bipush 56, 2) := by decide +kernel
theorem dX2_digest_21 : decode cX2_digest 21 = .ok (.if_icmp .eq 11, 3) := by decide +kernel
theorem dX2_digest_24 : decode cX2_digest 24 = .ok (.aload_n 0, 1) := by decide +kernel
theorem dX2_digest_25 : decode cX2_digest 25 = .ok (.iconst 0, 1) := by decide +kernel
theorem dX2_digest_26 : decode cX2_digest 26 = .ok (.invokevirtual 29, 3) := by decide +kernel
theorem dX2_digest_29 : decode cX2_digest 29 = .ok (.goto (-17), 3) := by decide +kernel
theorem dX2_digest_32 : decode cX2_digest 32 = .ok (.iconst 0, 1) := by decide +kernel
theorem dX2_digest_33 : decode cX2_digest 33 = .ok (.istore_n 2, 1) := by decide +kernel
theorem dX2_digest_34 : decode cX2_digest 34 = .ok (.iload_n 2, 1) := by decide +kernel
theorem dX2_digest_35 : decode cX2_digest 35 = .ok (.iconst 4, 1) := by decide +kernel
theorem dX2_digest_36 : decode cX2_digest 36 = .ok (.if_icmp .ge 14, 3) := by decide +kernel
theorem dX2_digest_39 : decode cX2_digest 39 = .ok (.aload_n 0, 1) := by decide +kernel
theorem dX2_digest_40 : decode cX2_digest 40 = .ok (.iconst 0, 1) := by decide +kernel
theorem dX2_digest_41 : decode cX2_digest 41 = .ok (.invokevirtual 29, 3) := by decide +kernel
theorem dX2_digest_44 : decode cX2_digest 44 = .ok (.iinc 2 1, 3) := by decide +kernel
theorem dX2_digest_47 : decode cX2_digest 47 = .ok (.goto (-13), 3) := by decide +kernel
theorem dX2_digest_50 : decode cX2_digest 50 = .ok (.iconst 3, 1) := by decide +kernel
theorem dX2_digest_51 : decode cX2_digest 51 = .ok (.istore_n 2, 1) := by decide +kernel
theorem dX2_digest_52 : decode cX2_digest 52 = .ok (.iload_n 2, 1) := by decide +kernel
theorem dX2_digest_53 : decode cX2_digest 53 = .ok (.ifCond .lt 22, 3) := by decide +kernel
theorem dX2_digest_56 : decode cX2_digest 56 = .ok (.aload_n 0, 1) := by decide +kernel
theorem dX2_digest_57 : decode cX2_digest 57 = .ok (.bipush 8, 2) := by decide +kernel
theorem dX2_digest_59 : decode cX2_digest 59 = .ok (.iload_n 1, 1) := by decide +kernel
theorem dX2_digest_60 : decode cX2_digest 60 = .ok (.imul, 1) := by decide +kernel
theorem dX2_digest_61 : decode cX2_digest 61 = .ok (.bipush 8, 2) := by decide +kernel
theorem dX2_digest_63 : decode cX2_digest 63 = .ok (.iload_n 2, 1) := by decide +kernel
theorem dX2_digest_64 : decode cX2_digest 64 = .ok (.imul, 1) := by decide +kernel
theorem dX2_digest_65 : decode cX2_digest 65 = .ok (.iushr, 1) := by decide +kernel
theorem dX2_digest_66 : decode cX2_digest 66 = .ok (.invokevirtual 29, 3) := by decide +kernel
theorem dX2_digest_69 : decode cX2_digest 69 = .ok (.iinc 2 (-1), 3) := by decide +kernel
theorem dX2_digest_72 : decode cX2_digest 72 = .ok (.goto (-20), 3) := by decide +kernel
theorem dX2_digest_75 : decode cX2_digest 75 = .ok (.iconst 0, 1) := by decide +kernel
theorem dX2_digest_76 : decode cX2_digest 76 = .ok (.istore_n 2, 1) := by decide +kernel
theorem dX2_digest_77 : decode cX2_digest 77 = .ok (.iload_n 2, 1) := by decide +kernel
theorem dX2_digest_78 : decode cX2_digest 78 = .ok (.bipush 8, 2) := by decide +kernel
theorem dX2_digest_80 : decode cX2_digest 80 = .ok (.if_icmp .ge 21, 3) := by decide +kernel
theorem dX2_digest_83 : decode cX2_digest 83 = .ok (.aload_n 0, 1) := by decide +kernel
theorem dX2_digest_84 : decode cX2_digest 84 = .ok (.getfield 33, 3) := by decide +kernel
theorem dX2_digest_87 : decode cX2_digest 87 = .ok (.iload_n 2, 1) := by decide +kernel
theorem dX2_digest_88 : decode cX2_digest 88 = .ok (.aload_n 0, 1) := by decide +kernel
theorem dX2_digest_89 : decode cX2_digest 89 = .ok (.getfield 1, 3) := by decide +kernel
theorem dX2_digest_92 : decode cX2_digest 92 = .ok (.iload_n 2, 1) := by decide +kernel
theorem dX2_digest_93 : decode cX2_digest 93 = .ok (.iaload, 1) := by decide +kernel
theorem dX2_digest_94 : decode cX2_digest 94 = .ok (.iastore, 1) := by decide +kernel
theorem dX2_digest_95 : decode cX2_digest 95 = .ok (.iinc 2 1, 3) := by decide +kernel
theorem dX2_digest_98 : decode cX2_digest 98 = .ok (.goto (-21), 3) := by decide +kernel
theorem dX2_digest_101 : decode cX2_digest 101 = .ok (.iconst 0, 1) := by decide +kernel
theorem dX2_digest_102 : decode cX2_digest 102 = .ok (.istore_n 2, 1) := by decide +kernel
theorem dX2_digest_103 : decode cX2_digest 103 = .ok (.iload_n 2, 1) := by decide +kernel
theorem dX2_digest_104 : decode cX2_digest 104 = .ok (.aload_n 0, 1) := by decide +kernel
theorem dX2_digest_105 : decode cX2_digest 105 = .ok (.getfield 25, 3) := by decide +kernel
theorem dX2_digest_108 : decode cX2_digest 108 = .ok (.if_icmp .ge 14, 3) := by decide +kernel
theorem dX2_digest_111 : decode cX2_digest 111 = .ok (.aload_n 0, 1) := by decide +kernel
theorem dX2_digest_112 : decode cX2_digest 112 = .ok (.iload_n 2, 1) := by decide +kernel
theorem dX2_digest_113 : decode cX2_digest 113 = .ok (.invokevirtual 36, 3) := by decide +kernel
theorem dX2_digest_116 : decode cX2_digest 116 = .ok (.iinc 2 64, 3) := by decide +kernel
theorem dX2_digest_119 : decode cX2_digest 119 = .ok (.goto (-16), 3) := by decide +kernel
theorem dX2_digest_122 : decode cX2_digest 122 = .ok (.return_, 1) := by decide +kernel
theorem dX2_compress_0 : decode cX2_compress 0 = .ok (.iconst 0, 1) := by decide +kernel
theorem dX2_compress_1 : decode cX2_compress 1 = .ok (.istore_n 2, 1) := by decide +kernel
theorem dX2_compress_2 : decode cX2_compress 2 = .ok (.iload_n 2, 1) := by decide +kernel
theorem dX2_compress_3 : decode cX2_compress 3 = .ok (.bipush 16, 2) := by decide +kernel
theorem dX2_compress_5 : decode cX2_compress 5 = .ok (.if_icmp .ge 73, 3) := by decide +kernel
theorem dX2_compress_8 : decode cX2_compress 8 = .ok (.aload_n 0, 1) := by decide +kernel
theorem dX2_compress_9 : decode cX2_compress 9 = .ok (.getfield 39, 3) := by decide +kernel
theorem dX2_compress_12 : decode cX2_compress 12 = .ok (.iload_n 2, 1) := by decide +kernel
theorem dX2_compress_13 : decode cX2_compress 13 = .ok (.aload_n 0, 1) := by decide +kernel
theorem dX2_compress_14 : decode cX2_compress 14 = .ok (.getfield 22, 3) := by decide +kernel
theorem dX2_compress_17 : decode cX2_compress 17 = .ok (.iload_n 1, 1) := by decide +kernel
theorem dX2_compress_18 : decode cX2_compress 18 = .ok (.iconst 4, 1) := by decide +kernel
theorem dX2_compress_19 : decode cX2_compress 19 = .ok (.iload_n 2, 1) := by decide +kernel
theorem dX2_compress_20 : decode cX2_compress 20 = .ok (.imul, 1) := by decide +kernel
theorem dX2_compress_21 : decode cX2_compress 21 = .ok (.iadd, 1) := by decide +kernel
theorem dX2_compress_22 : decode cX2_compress 22 = .ok (.iaload, 1) := by decide +kernel
theorem dX2_compress_23 : decode cX2_compress 23 = .ok (.bipush 24, 2) := by decide +kernel
theorem dX2_compress_25 : decode cX2_compress 25 = .ok (.ishl, 1) := by decide +kernel
theorem dX2_compress_26 : decode cX2_compress 26 = .ok (.aload_n 0, 1) := by decide +kernel
theorem dX2_compress_27 : decode cX2_compress 27 = .ok (.getfield 22, 3) := by decide +kernel
theorem dX2_compress_30 : decode cX2_compress 30 = .ok (.iload_n 1, 1) := by decide +kernel
theorem dX2_compress_31 : decode cX2_compress 31 = .ok (.iconst 4, 1) := by decide +kernel
theorem dX2_compress_32 : decode cX2_compress 32 = .ok (.iload_n 2, 1) := by decide +kernel
theorem dX2_compress_33 : decode cX2_compress 33 = .ok (.imul, 1) := by decide +kernel
theorem dX2_compress_34 : decode cX2_compress 34 = .ok (.iadd, 1) := by decide +kernel
theorem dX2_compress_35 : decode cX2_compress 35 = .ok (.iconst 1, 1) := by decide +kernel
theorem dX2_compress_36 : decode cX2_compress 36 = .ok (.iadd, 1) := by decide +kernel
theorem dX2_compress_37 : decode cX2_compress 37 = .ok (.iaload, 1) := by decide +kernel
theorem dX2_compress_38 : decode cX2_compress 38 = .ok (.bipush 16, 2) := by decide +kernel
theorem dX2_compress_40 : decode cX2_compress 40 = .ok (.ishl, 1) := by decide +kernel
theorem dX2_compress_41 : decode cX2_compress 41 = .ok (.ior, 1) := by decide +kernel
theorem dX2_compress_42 : decode cX2_compress 42 = .ok (.aload_n 0, 1) := by decide +kernel
theorem dX2_compress_43 : decode cX2_compress 43 = .ok (.getfield 22, 3) := by decide +kernel
theorem dX2_compress_46 : decode cX2_compress 46 = .ok (.iload_n 1, 1) := by decide +kernel
theorem dX2_compress_47 : decode cX2_compress 47 = .ok (.iconst 4, 1) := by decide +kernel
theorem dX2_compress_48 : decode cX2_compress 48 = .ok (.iload_n 2, 1) := by decide +kernel
theorem dX2_compress_49 : decode cX2_compress 49 = .ok (.imul, 1) := by decide +kernel
theorem dX2_compress_50 : decode cX2_compress 50 = .ok (.iadd, 1) := by decide +kernel
theorem dX2_compress_51 : decode cX2_compress 51 = .ok (.iconst 2, 1) := by decide +kernel
theorem dX2_compress_52 : decode cX2_compress 52 = .ok (.iadd, 1) := by decide +kernel
theorem dX2_compress_53 : decode cX2_compress 53 = .ok (.iaload, 1) := by decide +kernel
theorem dX2_compress_54 : decode cX2_compress 54 = .ok (.bipush 8, 2) := by decide +kernel
theorem dX2_compress_56 : decode cX2_compress 56 = .ok (.ishl, 1) := by decide +kernel
theorem dX2_compress_57 : decode cX2_compress 57 = .ok (.ior, 1) := by decide +kernel
theorem dX2_compress_58 : decode cX2_compress 58 = .ok (.aload_n 0, 1) := by decide +kernel
theorem dX2_compress_59 : decode cX2_compress 59 = .ok (.getfield 22, 3) := by decide +kernel
theorem dX2_compress_62 : decode cX2_compress 62 = .ok (.iload_n 1, 1) := by decide +kernel
theorem dX2_compress_63 : decode cX2_compress 63 = .ok (.iconst 4, 1) := by decide +kernel
theorem dX2_compress_64 : decode cX2_compress 64 = .ok (.iload_n 2, 1) := by decide +kernel
theorem dX2_compress_65 : decode cX2_compress 65 = .ok (.imul, 1) := by decide +kernel
theorem dX2_compress_66 : decode cX2_compress 66 = .ok (.iadd, 1) := by decide +kernel
theorem dX2_compress_67 : decode cX2_compress 67 = .ok (.iconst 3, 1) := by decide +kernel
theorem dX2_compress_68 : decode cX2_compress 68 = .ok (.iadd, 1) := by decide +kernel
theorem dX2_compress_69 : decode cX2_compress 69 = .ok (.iaload, 1) := by decide +kernel
theorem dX2_compress_70 : decode cX2_compress 70 = .ok (.ior, 1) := by decide +kernel
theorem dX2_compress_71 : decode cX2_compress 71 = .ok (.iastore, 1) := by decide +kernel
theorem dX2_compress_72 : decode cX2_compress 72 = .ok (.iinc 2 1, 3) := by decide +kernel
theorem dX2_compress_75 : decode cX2_compress 75 = .ok (.goto (-73), 3) := by decide +kernel
theorem dX2_compress_78 : decode cX2_compress 78 = .ok (.bipush 16, 2) := by decide +kernel
theorem dX2_compress_80 : decode cX2_compress 80 = .ok (.istore_n 2, 1) := by decide +kernel
theorem dX2_compress_81 : decode cX2_compress 81 = .ok (.iload_n 2, 1) := by decide +kernel
theorem dX2_compress_82 : decode cX2_compress 82 = .ok (.bipush 64, 2) := by decide +kernel
theorem dX2_compress_84 : decode cX2_compress 84 = .ok (.if_icmp .ge 94, 3) := by decide +kernel
theorem dX2_compress_87 : decode cX2_compress 87 = .ok (.aload_n 0, 1) := by decide +kernel
theorem dX2_compress_88 : decode cX2_compress 88 = .ok (.getfield 39, 3) := by decide +kernel
theorem dX2_compress_91 : decode cX2_compress 91 = .ok (.iload_n 2, 1) := by decide +kernel
theorem dX2_compress_92 : decode cX2_compress 92 = .ok (.bipush 15, 2) := by decide +kernel
theorem dX2_compress_94 : decode cX2_compress 94 = .ok (.isub, 1) := by decide +kernel
theorem dX2_compress_95 : decode cX2_compress 95 = .ok (.iaload, 1) := by decide +kernel
theorem dX2_compress_96 : decode cX2_compress 96 = .ok (.istore_n 3, 1) := by decide +kernel
theorem dX2_compress_97 : decode cX2_compress 97 = .ok (.aload_n 0, 1) := by decide +kernel
theorem dX2_compress_98 : decode cX2_compress 98 = .ok (.getfield 39, 3) := by decide +kernel
theorem dX2_compress_101 : decode cX2_compress 101 = .ok (.iload_n 2, 1) := by decide +kernel
theorem dX2_compress_102 : decode cX2_compress 102 = .ok (.iconst 2, 1) := by decide +kernel
theorem dX2_compress_103 : decode cX2_compress 103 = .ok (.isub, 1) := by decide +kernel
theorem dX2_compress_104 : decode cX2_compress 104 = .ok (.iaload, 1) := by decide +kernel
theorem dX2_compress_105 : decode cX2_compress 105 = .ok (.istore 4, 2) := by decide +kernel
theorem dX2_compress_107 : decode cX2_compress 107 = .ok (.aload_n 0, 1) := by decide +kernel
theorem dX2_compress_108 : decode cX2_compress 108 = .ok (.getfield 39, 3) := by decide +kernel
theorem dX2_compress_111 : decode cX2_compress 111 = .ok (.iload_n 2, 1) := by decide +kernel
theorem dX2_compress_112 : decode cX2_compress 112 = .ok (.aload_n 0, 1) := by decide +kernel
theorem dX2_compress_113 : decode cX2_compress 113 = .ok (.getfield 39, 3) := by decide +kernel
theorem dX2_compress_116 : decode cX2_compress 116 = .ok (.iload_n 2, 1) := by decide +kernel
theorem dX2_compress_117 : decode cX2_compress 117 = .ok (.bipush 16, 2) := by decide +kernel
theorem dX2_compress_119 : decode cX2_compress 119 = .ok (.isub, 1) := by decide +kernel
theorem dX2_compress_120 : decode cX2_compress 120 = .ok (.iaload, 1) := by decide +kernel
theorem dX2_compress_121 : decode cX2_compress 121 = .ok (.iload_n 3, 1) := by decide +kernel
theorem dX2_compress_122 : decode cX2_compress 122 = .ok (.bipush 7, 2) := by decide +kernel
theorem dX2_compress_124 : decode cX2_compress 124 = .ok (.invokestatic 42, 3) := by decide +kernel
theorem dX2_compress_127 : decode cX2_compress 127 = .ok (.iload_n 3, 1) := by decide +kernel
theorem dX2_compress_128 : decode cX2_compress 128 = .ok (.bipush 18, 2) := by decide +kernel
theorem dX2_compress_130 : decode cX2_compress 130 = .ok (.invokestatic 42, 3) := by decide +kernel
theorem dX2_compress_133 : decode cX2_compress 133 = .ok (.ixor, 1) := by decide +kernel
theorem dX2_compress_134 : decode cX2_compress 134 = .ok (.iload_n 3, 1) := by decide +kernel
theorem dX2_compress_135 : decode cX2_compress 135 = .ok (.iconst 3, 1) := by decide +kernel
theorem dX2_compress_136 : decode cX2_compress 136 = .ok (.iushr, 1) := by decide +kernel
theorem dX2_compress_137 : decode cX2_compress 137 = .ok (.ixor, 1) := by decide +kernel
theorem dX2_compress_138 : decode cX2_compress 138 = .ok (.iadd, 1) := by decide +kernel
theorem dX2_compress_139 : decode cX2_compress 139 = .ok (.aload_n 0, 1) := by decide +kernel
theorem dX2_compress_140 : decode cX2_compress 140 = .ok (.getfield 39, 3) := by decide +kernel
theorem dX2_compress_143 : decode cX2_compress 143 = .ok (.iload_n 2, 1) := by decide +kernel
theorem dX2_compress_144 : decode cX2_compress 144 = .ok (.bipush 7, 2) := by decide +kernel
theorem dX2_compress_146 : decode cX2_compress 146 = .ok (.isub, 1) := by decide +kernel
theorem dX2_compress_147 : decode cX2_compress 147 = .ok (.iaload, 1) := by decide +kernel
theorem dX2_compress_148 : decode cX2_compress 148 = .ok (.iadd, 1) := by decide +kernel
theorem dX2_compress_149 : decode cX2_compress 149 = .ok (.iload 4, 2) := by decide +kernel
theorem dX2_compress_151 : decode cX2_compress 151 = .ok (.bipush 17, 2) := by decide +kernel
theorem dX2_compress_153 : decode cX2_compress 153 = .ok (.invokestatic 42, 3) := by decide +kernel
theorem dX2_compress_156 : decode cX2_compress 156 = .ok (.iload 4, 2) := by decide +kernel
theorem dX2_compress_158 : decode cX2_compress 158 = .ok (.bipush 19, 2) := by decide +kernel
theorem dX2_compress_160 : decode cX2_compress 160 = .ok (.invokestatic 42, 3) := by decide +kernel
theorem dX2_compress_163 : decode cX2_compress 163 = .ok (.ixor, 1) := by decide +kernel
theorem dX2_compress_164 : decode cX2_compress 164 = .ok (.iload 4, 2) := by decide +kernel
theorem dX2_compress_166 : decode cX2_compress 166 = .ok (.bipush 10, 2) := by decide +kernel
theorem dX2_compress_168 : decode cX2_compress 168 = .ok (.iushr, 1) := by decide +kernel
theorem dX2_compress_169 : decode cX2_compress 169 = .ok (.ixor, 1) := by decide +kernel
theorem dX2_compress_170 : decode cX2_compress 170 = .ok (.iadd, 1) := by decide +kernel
theorem dX2_compress_171 : decode cX2_compress 171 = .ok (.iastore, 1) := by decide +kernel
theorem dX2_compress_172 : decode cX2_compress 172 = .ok (.iinc 2 1, 3) := by decide +kernel
theorem dX2_compress_175 : decode cX2_compress 175 = .ok (.goto (-94), 3) := by decide +kernel
theorem dX2_compress_178 : decode cX2_compress 178 = .ok (.aload_n 0, 1) := by decide +kernel
theorem dX2_compress_179 : decode cX2_compress 179 = .ok (.getfield 33, 3) := by decide +kernel
theorem dX2_compress_182 : decode cX2_compress 182 = .ok (.iconst 0, 1) := by decide +kernel
theorem dX2_compress_183 : decode cX2_compress 183 = .ok (.iaload, 1) := by decide +kernel
theorem dX2_compress_184 : decode cX2_compress 184 = .ok (.istore_n 2, 1) := by decide +kernel
theorem dX2_compress_185 : decode cX2_compress 185 = .ok (.aload_n 0, 1) := by decide +kernel
theorem dX2_compress_186 : decode cX2_compress 186 = .ok (.getfield 33, 3) := by decide +kernel
theorem dX2_compress_189 : decode cX2_compress 189 = .ok (.iconst 1, 1) := by decide +kernel
theorem dX2_compress_190 : decode cX2_compress 190 = .ok (.iaload, 1) := by decide +kernel
theorem dX2_compress_191 : decode cX2_compress 191 = .ok (.istore_n 3, 1) := by decide +kernel
theorem dX2_compress_192 : decode cX2_compress 192 = .ok (.aload_n 0, 1) := by decide +kernel
theorem dX2_compress_193 : decode cX2_compress 193 = .ok (.getfield 33, 3) := by decide +kernel
theorem dX2_compress_196 : decode cX2_compress 196 = .ok (.iconst 2, 1) := by decide +kernel
theorem dX2_compress_197 : decode cX2_compress 197 = .ok (.iaload, 1) := by decide +kernel
theorem dX2_compress_198 : decode cX2_compress 198 = .ok (.istore 4, 2) := by decide +kernel
theorem dX2_compress_200 : decode cX2_compress 200 = .ok (.aload_n 0, 1) := by decide +kernel
theorem dX2_compress_201 : decode cX2_compress 201 = .ok (.getfield 33, 3) := by decide +kernel
theorem dX2_compress_204 : decode cX2_compress 204 = .ok (.iconst 3, 1) := by decide +kernel
theorem dX2_compress_205 : decode cX2_compress 205 = .ok (.iaload, 1) := by decide +kernel
theorem dX2_compress_206 : decode cX2_compress 206 = .ok (.istore 5, 2) := by decide +kernel
theorem dX2_compress_208 : decode cX2_compress 208 = .ok (.aload_n 0, 1) := by decide +kernel
theorem dX2_compress_209 : decode cX2_compress 209 = .ok (.getfield 33, 3) := by decide +kernel
theorem dX2_compress_212 : decode cX2_compress 212 = .ok (.iconst 4, 1) := by decide +kernel
theorem dX2_compress_213 : decode cX2_compress 213 = .ok (.iaload, 1) := by decide +kernel
theorem dX2_compress_214 : decode cX2_compress 214 = .ok (.istore 6, 2) := by decide +kernel
theorem dX2_compress_216 : decode cX2_compress 216 = .ok (.aload_n 0, 1) := by decide +kernel
theorem dX2_compress_217 : decode cX2_compress 217 = .ok (.getfield 33, 3) := by decide +kernel
theorem dX2_compress_220 : decode cX2_compress 220 = .ok (.iconst 5, 1) := by decide +kernel
theorem dX2_compress_221 : decode cX2_compress 221 = .ok (.iaload, 1) := by decide +kernel
theorem dX2_compress_222 : decode cX2_compress 222 = .ok (.istore 7, 2) := by decide +kernel
theorem dX2_compress_224 : decode cX2_compress 224 = .ok (.aload_n 0, 1) := by decide +kernel
theorem dX2_compress_225 : decode cX2_compress 225 = .ok (.getfield 33, 3) := by decide +kernel
theorem dX2_compress_228 : decode cX2_compress 228 = .ok (.bipush 6, 2) := by decide +kernel
theorem dX2_compress_230 : decode cX2_compress 230 = .ok (.iaload, 1) := by decide +kernel
theorem dX2_compress_231 : decode cX2_compress 231 = .ok (.istore 8, 2) := by decide +kernel
theorem dX2_compress_233 : decode cX2_compress 233 = .ok (.aload_n 0, 1) := by decide +kernel
theorem dX2_compress_234 : decode cX2_compress 234 = .ok (.getfield 33, 3) := by decide +kernel
theorem dX2_compress_237 : decode cX2_compress 237 = .ok (.bipush 7, 2) := by decide +kernel
theorem dX2_compress_239 : decode cX2_compress 239 = .ok (.iaload, 1) := by decide +kernel
theorem dX2_compress_240 : decode cX2_compress 240 = .ok (.istore 9, 2) := by decide +kernel
theorem dX2_compress_242 : decode cX2_compress 242 = .ok (.iconst 0, 1) := by decide +kernel
theorem dX2_compress_243 : decode cX2_compress 243 = .ok (.istore 10, 2) := by decide +kernel
theorem dX2_compress_245 : decode cX2_compress 245 = .ok (.iload 10, 2) := by decide +kernel
theorem dX2_compress_247 : decode cX2_compress 247 = .ok (.bipush 64, 2) := by decide +kernel
theorem dX2_compress_249 : decode cX2_compress 249 = .ok (.if_icmp .ge 136, 3) := by decide +kernel
theorem dX2_compress_252 : decode cX2_compress 252 = .ok (.iload 9, 2) := by decide +kernel
theorem dX2_compress_254 : decode cX2_compress 254 = .ok (.iload 6, 2) := by decide +kernel
theorem dX2_compress_256 : decode cX2_compress 256 = .ok (.bipush 6, 2) := by decide +kernel
theorem dX2_compress_258 : decode cX2_compress 258 = .ok (.invokestatic 42, 3) := by decide +kernel
theorem dX2_compress_261 : decode cX2_compress 261 = .ok (.iload 6, 2) := by decide +kernel
theorem dX2_compress_263 : decode cX2_compress 263 = .ok (.bipush 11, 2) := by decide +kernel
theorem dX2_compress_265 : decode cX2_compress 265 = .ok (.invokestatic 42, 3) := by decide +kernel
theorem dX2_compress_268 : decode cX2_compress 268 = .ok (.ixor, 1) := by decide +kernel
theorem dX2_compress_269 : decode cX2_compress 269 = .ok (.iload 6, 2) := by decide +kernel
theorem dX2_compress_271 : decode cX2_compress 271 = .ok (.bipush 25, 2) := by decide +kernel
theorem dX2_compress_273 : decode cX2_compress 273 = .ok (.invokestatic 42, 3) := by decide +kernel
theorem dX2_compress_276 : decode cX2_compress 276 = .ok (.ixor, 1) := by decide +kernel
theorem dX2_compress_277 : decode cX2_compress 277 = .ok (.iadd, 1) := by decide +kernel
theorem dX2_compress_278 : decode cX2_compress 278 = .ok (.iload 6, 2) := by decide +kernel
theorem dX2_compress_280 : decode cX2_compress 280 = .ok (.iload 7, 2) := by decide +kernel
theorem dX2_compress_282 : decode cX2_compress 282 = .ok (.iand, 1) := by decide +kernel
theorem dX2_compress_283 : decode cX2_compress 283 = .ok (.iload 6, 2) := by decide +kernel
theorem dX2_compress_285 : decode cX2_compress 285 = .ok (.iconst (-1), 1) := by decide +kernel
theorem dX2_compress_286 : decode cX2_compress 286 = .ok (.ixor, 1) := by decide +kernel
theorem dX2_compress_287 : decode cX2_compress 287 = .ok (.iload 8, 2) := by decide +kernel
theorem dX2_compress_289 : decode cX2_compress 289 = .ok (.iand, 1) := by decide +kernel
theorem dX2_compress_290 : decode cX2_compress 290 = .ok (.ixor, 1) := by decide +kernel
theorem dX2_compress_291 : decode cX2_compress 291 = .ok (.iadd, 1) := by decide +kernel
theorem dX2_compress_292 : decode cX2_compress 292 = .ok (.aload_n 0, 1) := by decide +kernel
theorem dX2_compress_293 : decode cX2_compress 293 = .ok (.getfield 11, 3) := by decide +kernel
theorem dX2_compress_296 : decode cX2_compress 296 = .ok (.iload 10, 2) := by decide +kernel
theorem dX2_compress_298 : decode cX2_compress 298 = .ok (.iaload, 1) := by decide +kernel
theorem dX2_compress_299 : decode cX2_compress 299 = .ok (.iadd, 1) := by decide +kernel
theorem dX2_compress_300 : decode cX2_compress 300 = .ok (.aload_n 0, 1) := by decide +kernel
theorem dX2_compress_301 : decode cX2_compress 301 = .ok (.getfield 39, 3) := by decide +kernel
theorem dX2_compress_304 : decode cX2_compress 304 = .ok (.iload 10, 2) := by decide +kernel
theorem dX2_compress_306 : decode cX2_compress 306 = .ok (.iaload, 1) := by decide +kernel
theorem dX2_compress_307 : decode cX2_compress 307 = .ok (.iadd, 1) := by decide +kernel
theorem dX2_compress_308 : decode cX2_compress 308 = .ok (.istore 11, 2) := by decide +kernel
theorem dX2_compress_310 : decode cX2_compress 310 = .ok (.iload_n 2, 1) := by decide +kernel
theorem dX2_compress_311 : decode cX2_compress 311 = .ok (.iconst 2, 1) := by decide +kernel
theorem dX2_compress_312 : decode cX2_compress 312 = .ok (.invokestatic 42, 3) := by decide +kernel
theorem dX2_compress_315 : decode cX2_compress 315 = .ok (.iload_n 2, 1) := by decide +kernel
theorem dX2_compress_316 : decode cX2_compress 316 = .ok (.bipush 13, 2) := by decide +kernel
theorem dX2_compress_318 : decode cX2_compress 318 = .ok (.invokestatic 42, 3) := by decide +kernel
theorem dX2_compress_321 : decode cX2_compress 321 = .ok (.ixor, 1) := by decide +kernel
theorem dX2_compress_322 : decode cX2_compress 322 = .ok (.iload_n 2, 1) := by decide +kernel
theorem dX2_compress_323 : decode cX2_compress 323 = .ok (.bipush 22, 2) := by decide +kernel
theorem dX2_compress_325 : decode cX2_compress 325 = .ok (.invokestatic 42, 3) := by decide +kernel
theorem dX2_compress_328 : decode cX2_compress 328 = .ok (.ixor, 1) := by decide +kernel
theorem dX2_compress_329 : decode cX2_compress 329 = .ok (.iload_n 2, 1) := by decide +kernel
theorem dX2_compress_330 : decode cX2_compress 330 = .ok (.iload_n 3, 1) := by decide +kernel
theorem dX2_compress_331 : decode cX2_compress 331 = .ok (.iand, 1) := by decide +kernel
theorem dX2_compress_332 : decode cX2_compress 332 = .ok (.iload_n 2, 1) := by decide +kernel
theorem dX2_compress_333 : decode cX2_compress 333 = .ok (.iload 4, 2) := by decide +kernel
theorem dX2_compress_335 : decode cX2_compress 335 = .ok (.iand, 1) := by decide +kernel
theorem dX2_compress_336 : decode cX2_compress 336 = .ok (.ixor, 1) := by decide +kernel
theorem dX2_compress_337 : decode cX2_compress 337 = .ok (.iload_n 3, 1) := by decide +kernel
theorem dX2_compress_338 : decode cX2_compress 338 = .ok (.iload 4, 2) := by decide +kernel
theorem dX2_compress_340 : decode cX2_compress 340 = .ok (.iand, 1) := by decide +kernel
theorem dX2_compress_341 : decode cX2_compress 341 = .ok (.ixor, 1) := by decide +kernel
theorem dX2_compress_342 : decode cX2_compress 342 = .ok (.iadd, 1) := by decide +kernel
theorem dX2_compress_343 : decode cX2_compress 343 = .ok (.istore 12, 2) := by decide +kernel
theorem dX2_compress_345 : decode cX2_compress 345 = .ok (.iload 8, 2) := by decide +kernel
theorem dX2_compress_347 : decode cX2_compress 347 = .ok (.istore 9, 2) := by decide +kernel
theorem dX2_compress_349 : decode cX2_compress 349 = .ok (.iload 7, 2) := by decide +kernel
theorem dX2_compress_351 : decode cX2_compress 351 = .ok (.istore 8, 2) := by decide +kernel
theorem dX2_compress_353 : decode cX2_compress 353 = .ok (.iload 6, 2) := by decide +kernel
theorem dX2_compress_355 : decode cX2_compress 355 = .ok (.istore 7, 2) := by decide +kernel
theorem dX2_compress_357 : decode cX2_compress 357 = .ok (.iload 5, 2) := by decide +kernel
theorem dX2_compress_359 : decode cX2_compress 359 = .ok (.iload 11, 2) := by decide +kernel
theorem dX2_compress_361 : decode cX2_compress 361 = .ok (.iadd, 1) := by decide +kernel
theorem dX2_compress_362 : decode cX2_compress 362 = .ok (.istore 6, 2) := by decide +kernel
theorem dX2_compress_364 : decode cX2_compress 364 = .ok (.iload 4, 2) := by decide +kernel
theorem dX2_compress_366 : decode cX2_compress 366 = .ok (.istore 5, 2) := by decide +kernel
theorem dX2_compress_368 : decode cX2_compress 368 = .ok (.iload_n 3, 1) := by decide +kernel
theorem dX2_compress_369 : decode cX2_compress 369 = .ok (.istore 4, 2) := by decide +kernel
theorem dX2_compress_371 : decode cX2_compress 371 = .ok (.iload_n 2, 1) := by decide +kernel
theorem dX2_compress_372 : decode cX2_compress 372 = .ok (.istore_n 3, 1) := by decide +kernel
theorem dX2_compress_373 : decode cX2_compress 373 = .ok (.iload 11, 2) := by decide +kernel
theorem dX2_compress_375 : decode cX2_compress 375 = .ok (.iload 12, 2) := by decide +kernel
theorem dX2_compress_377 : decode cX2_compress 377 = .ok (.iadd, 1) := by decide +kernel
theorem dX2_compress_378 : decode cX2_compress 378 = .ok (.istore_n 2, 1) := by decide +kernel
theorem dX2_compress_379 : decode cX2_compress 379 = .ok (.iinc 10 1, 3) := by decide +kernel
theorem dX2_compress_382 : decode cX2_compress 382 = .ok (.goto (-137), 3) := by decide +kernel
theorem dX2_compress_385 : decode cX2_compress 385 = .ok (.aload_n 0, 1) := by decide +kernel
theorem dX2_compress_386 : decode cX2_compress 386 = .ok (.getfield 33, 3) := by decide +kernel
theorem dX2_compress_389 : decode cX2_compress 389 = .ok (.iconst 0, 1) := by decide +kernel
theorem dX2_compress_390 : decode cX2_compress 390 = .ok (.aload_n 0, 1) := by decide +kernel
theorem dX2_compress_391 : decode cX2_compress 391 = .ok (.getfield 33, 3) := by decide +kernel
theorem dX2_compress_394 : decode cX2_compress 394 = .ok (.iconst 0, 1) := by decide +kernel
theorem dX2_compress_395 : decode cX2_compress 395 = .ok (.iaload, 1) := by decide +kernel
theorem dX2_compress_396 : decode cX2_compress 396 = .ok (.iload_n 2, 1) := by decide +kernel
theorem dX2_compress_397 : decode cX2_compress 397 = .ok (.iadd, 1) := by decide +kernel
theorem dX2_compress_398 : decode cX2_compress 398 = .ok (.iastore, 1) := by decide +kernel
theorem dX2_compress_399 : decode cX2_compress 399 = .ok (.aload_n 0, 1) := by decide +kernel
theorem dX2_compress_400 : decode cX2_compress 400 = .ok (.getfield 33, 3) := by decide +kernel
theorem dX2_compress_403 : decode cX2_compress 403 = .ok (.iconst 1, 1) := by decide +kernel
theorem dX2_compress_404 : decode cX2_compress 404 = .ok (.aload_n 0, 1) := by decide +kernel
theorem dX2_compress_405 : decode cX2_compress 405 = .ok (.getfield 33, 3) := by decide +kernel
theorem dX2_compress_408 : decode cX2_compress 408 = .ok (.iconst 1, 1) := by decide +kernel
theorem dX2_compress_409 : decode cX2_compress 409 = .ok (.iaload, 1) := by decide +kernel
theorem dX2_compress_410 : decode cX2_compress 410 = .ok (.iload_n 3, 1) := by decide +kernel
theorem dX2_compress_411 : decode cX2_compress 411 = .ok (.iadd, 1) := by decide +kernel
theorem dX2_compress_412 : decode cX2_compress 412 = .ok (.iastore, 1) := by decide +kernel
theorem dX2_compress_413 : decode cX2_compress 413 = .ok (.aload_n 0, 1) := by decide +kernel
theorem dX2_compress_414 : decode cX2_compress 414 = .ok (.getfield 33, 3) := by decide +kernel
theorem dX2_compress_417 : decode cX2_compress 417 = .ok (.iconst 2, 1) := by decide +kernel
theorem dX2_compress_418 : decode cX2_compress 418 = .ok (.aload_n 0, 1) := by decide +kernel
theorem dX2_compress_419 : decode cX2_compress 419 = .ok (.getfield 33, 3) := by decide +kernel
theorem dX2_compress_422 : decode cX2_compress 422 = .ok (.iconst 2, 1) := by decide +kernel
theorem dX2_compress_423 : decode cX2_compress 423 = .ok (.iaload, 1) := by decide +kernel
theorem dX2_compress_424 : decode cX2_compress 424 = .ok (.iload 4, 2) := by decide +kernel
theorem dX2_compress_426 : decode cX2_compress 426 = .ok (.iadd, 1) := by decide +kernel
theorem dX2_compress_427 : decode cX2_compress 427 = .ok (.iastore, 1) := by decide +kernel
theorem dX2_compress_428 : decode cX2_compress 428 = .ok (.aload_n 0, 1) := by decide +kernel
theorem dX2_compress_429 : decode cX2_compress 429 = .ok (.getfield 33, 3) := by decide +kernel
theorem dX2_compress_432 : decode cX2_compress 432 = .ok (.iconst 3, 1) := by decide +kernel
theorem dX2_compress_433 : decode cX2_compress 433 = .ok (.aload_n 0, 1) := by decide +kernel
theorem dX2_compress_434 : decode cX2_compress 434 = .ok (.getfield 33, 3) := by decide +kernel
theorem dX2_compress_437 : decode cX2_compress 437 = .ok (.iconst 3, 1) := by decide +kernel
theorem dX2_compress_438 : decode cX2_compress 438 = .ok (.iaload, 1) := by decide +kernel
theorem dX2_compress_439 : decode cX2_compress 439 = .ok (.iload 5, 2) := by decide +kernel
theorem dX2_compress_441 : decode cX2_compress 441 = .ok (.iadd, 1) := by decide +kernel
theorem dX2_compress_442 : decode cX2_compress 442 = .ok (.iastore, 1) := by decide +kernel
theorem dX2_compress_443 : decode cX2_compress 443 = .ok (.aload_n 0, 1) := by decide +kernel
theorem dX2_compress_444 : decode cX2_compress 444 = .ok (.getfield 33, 3) := by decide +kernel
theorem dX2_compress_447 : decode cX2_compress 447 = .ok (.iconst 4, 1) := by decide +kernel
theorem dX2_compress_448 : decode cX2_compress 448 = .ok (.aload_n 0, 1) := by decide +kernel
theorem dX2_compress_449 : decode cX2_compress 449 = .ok (.getfield 33, 3) := by decide +kernel
theorem dX2_compress_452 : decode cX2_compress 452 = .ok (.iconst 4, 1) := by decide +kernel
theorem dX2_compress_453 : decode cX2_compress 453 = .ok (.iaload, 1) := by decide +kernel
theorem dX2_compress_454 : decode cX2_compress 454 = .ok (.iload 6, 2) := by decide +kernel
theorem dX2_compress_456 : decode cX2_compress 456 = .ok (.iadd, 1) := by decide +kernel
theorem dX2_compress_457 : decode cX2_compress 457 = .ok (.iastore, 1) := by decide +kernel
theorem dX2_compress_458 : decode cX2_compress 458 = .ok (.aload_n 0, 1) := by decide +kernel
theorem dX2_compress_459 : decode cX2_compress 459 = .ok (.getfield 33, 3) := by decide +kernel
theorem dX2_compress_462 : decode cX2_compress 462 = .ok (.iconst 5, 1) := by decide +kernel
theorem dX2_compress_463 : decode cX2_compress 463 = .ok (.aload_n 0, 1) := by decide +kernel
theorem dX2_compress_464 : decode cX2_compress 464 = .ok (.getfield 33, 3) := by decide +kernel
theorem dX2_compress_467 : decode cX2_compress 467 = .ok (.iconst 5, 1) := by decide +kernel
theorem dX2_compress_468 : decode cX2_compress 468 = .ok (.iaload, 1) := by decide +kernel
theorem dX2_compress_469 : decode cX2_compress 469 = .ok (.iload 7, 2) := by decide +kernel
theorem dX2_compress_471 : decode cX2_compress 471 = .ok (.iadd, 1) := by decide +kernel
theorem dX2_compress_472 : decode cX2_compress 472 = .ok (.iastore, 1) := by decide +kernel
theorem dX2_compress_473 : decode cX2_compress 473 = .ok (.aload_n 0, 1) := by decide +kernel
theorem dX2_compress_474 : decode cX2_compress 474 = .ok (.getfield 33, 3) := by decide +kernel
theorem dX2_compress_477 : decode cX2_compress 477 = .ok (.bipush 6, 2) := by decide +kernel
theorem dX2_compress_479 : decode cX2_compress 479 = .ok (.aload_n 0, 1) := by decide +kernel
theorem dX2_compress_480 : decode cX2_compress 480 = .ok (.getfield 33, 3) := by decide +kernel
theorem dX2_compress_483 : decode cX2_compress 483 = .ok (.bipush 6, 2) := by decide +kernel
theorem dX2_compress_485 : decode cX2_compress 485 = .ok (.iaload, 1) := by decide +kernel
theorem dX2_compress_486 : decode cX2_compress 486 = .ok (.iload 8, 2) := by decide +kernel
theorem dX2_compress_488 : decode cX2_compress 488 = .ok (.iadd, 1) := by decide +kernel
theorem dX2_compress_489 : decode cX2_compress 489 = .ok (.iastore, 1) := by decide +kernel
theorem dX2_compress_490 : decode cX2_compress 490 = .ok (.aload_n 0, 1) := by decide +kernel
theorem dX2_compress_491 : decode cX2_compress 491 = .ok (.getfield 33, 3) := by decide +kernel
theorem dX2_compress_494 : decode cX2_compress 494 = .ok (.bipush 7, 2) := by decide +kernel
theorem dX2_compress_496 : decode cX2_compress 496 = .ok (.aload_n 0, 1) := by decide +kernel
theorem dX2_compress_497 : decode cX2_compress 497 = .ok (.getfield 33, 3) := by decide +kernel
theorem dX2_compress_500 : decode cX2_compress 500 = .ok (.bipush 7, 2) := by decide +kernel
theorem dX2_compress_502 : decode cX2_compress 502 = .ok (.iaload, 1) := by decide +kernel
theorem dX2_compress_503 : decode cX2_compress 503 = .ok (.iload 9, 2) := by decide +kernel
theorem dX2_compress_505 : decode cX2_compress 505 = .ok (.iadd, 1) := by decide +kernel
theorem dX2_compress_506 : decode cX2_compress 506 = .ok (.iastore, 1) := by decide +kernel
theorem dX2_compress_507 : decode cX2_compress 507 = .ok (.return_, 1) := by decide +kernel
theorem dX2_sum_0 : decode cX2_sum 0 = .ok (.aload_n 0, 1) := by decide +kernel
theorem dX2_sum_1 : decode cX2_sum 1 = .ok (.getfield 33, 3) := by decide +kernel
theorem dX2_sum_4 : decode cX2_sum 4 = .ok (.iconst 2, 1) := by decide +kernel
theorem dX2_sum_5 : decode cX2_sum 5 = .ok (.iload_n 1, 1) := by decide +kernel
theorem dX2_sum_6 : decode cX2_sum 6 = .ok (.imul, 1) := by decide +kernel
theorem dX2_sum_7 : decode cX2_sum 7 = .ok (.iaload, 1) := by decide +kernel
theorem dX2_sum_8 : decode cX2_sum 8 = .ok (.i2l, 1) := by decide +kernel
theorem dX2_sum_9 : decode cX2_sum 9 = .ok (.bipush 32, 2) := by decide +kernel
theorem dX2_sum_11 : decode cX2_sum 11 = .ok (.lshl, 1) := by decide +kernel
theorem dX2_sum_12 : decode cX2_sum 12 = .ok (.aload_n 0, 1) := by decide +kernel
theorem dX2_sum_13 : decode cX2_sum 13 = .ok (.getfield 33, 3) := by decide +kernel
theorem dX2_sum_16 : decode cX2_sum 16 = .ok (.iconst 2, 1) := by decide +kernel
theorem dX2_sum_17 : decode cX2_sum 17 = .ok (.iload_n 1, 1) := by decide +kernel
theorem dX2_sum_18 : decode cX2_sum 18 = .ok (.imul, 1) := by decide +kernel
theorem dX2_sum_19 : decode cX2_sum 19 = .ok (.iconst 1, 1) := by decide +kernel
theorem dX2_sum_20 : decode cX2_sum 20 = .ok (.iadd, 1) := by decide +kernel
theorem dX2_sum_21 : decode cX2_sum 21 = .ok (.iaload, 1) := by decide +kernel
theorem dX2_sum_22 : decode cX2_sum 22 = .ok (.i2l, 1) := by decide +kernel
theorem dX2_sum_23 : decode cX2_sum 23 = .ok (.ldc2_w 18, 3) := by decide +kernel
theorem dX2_sum_26 : decode cX2_sum 26 = .ok (.land, 1) := by decide +kernel
theorem dX2_sum_27 : decode cX2_sum 27 = .ok (.lor, 1) := by decide +kernel
theorem dX2_sum_28 : decode cX2_sum 28 = .ok (.lreturn, 1) := by decide +kernel
theorem dX2_byteIn_0 : decode cX2_byteIn 0 = .ok (.lload_n 0, 1) := by decide +kernel
theorem dX2_byteIn_1 : decode cX2_byteIn 1 = .ok (.bipush 56, 2) := by decide +kernel
theorem dX2_byteIn_3 : decode cX2_byteIn 3 = .ok (.bipush 8, 2) := by decide +kernel
theorem dX2_byteIn_5 : decode cX2_byteIn 5 = .ok (.iload_n 2, 1) := by decide +kernel
theorem dX2_byteIn_6 : decode cX2_byteIn 6 = .ok (.imul, 1) := by decide +kernel
theorem dX2_byteIn_7 : decode cX2_byteIn 7 = .ok (.isub, 1) := by decide +kernel
theorem dX2_byteIn_8 : decode cX2_byteIn 8 = .ok (.lshr, 1) := by decide +kernel
theorem dX2_byteIn_9 : decode cX2_byteIn 9 = .ok (.l2i, 1) := by decide +kernel
theorem dX2_byteIn_10 : decode cX2_byteIn 10 = .ok (.sipush 255, 3) := by decide +kernel
theorem dX2_byteIn_13 : decode cX2_byteIn 13 = .ok (.iand, 1) := by decide +kernel
theorem dX2_byteIn_14 : decode cX2_byteIn 14 = .ok (.ireturn, 1) := by decide +kernel
theorem dX2_init_0 : decode cX2_init 0 = .ok (.aload_n 0, 1) := by decide +kernel
theorem dX2_init_1 : decode cX2_init 1 = .ok (.invokespecial 45, 3) := by decide +kernel
theorem dX2_init_4 : decode cX2_init 4 = .ok (.aload_n 0, 1) := by decide +kernel
theorem dX2_init_5 : decode cX2_init 5 = .ok (.sipush 512, 3) := by decide +kernel
theorem dX2_init_8 : decode cX2_init 8 = .ok (.newarray .int, 2) := by decide +kernel
theorem dX2_init_10 : decode cX2_init 10 = .ok (.putfield 22, 3) := by decide +kernel
theorem dX2_init_13 : decode cX2_init 13 = .ok (.aload_n 0, 1) := by decide +kernel
theorem dX2_init_14 : decode cX2_init 14 = .ok (.bipush 8, 2) := by decide +kernel
theorem dX2_init_16 : decode cX2_init 16 = .ok (.newarray .int, 2) := by decide +kernel
theorem dX2_init_18 : decode cX2_init 18 = .ok (.putfield 33, 3) := by decide +kernel
theorem dX2_init_21 : decode cX2_init 21 = .ok (.aload_n 0, 1) := by decide +kernel
theorem dX2_init_22 : decode cX2_init 22 = .ok (.bipush 64, 2) := by decide +kernel
