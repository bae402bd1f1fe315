theorem dX10_year_0 : decode cX10_year 0 = .ok (.iload_n 1, 1) := by decide +kernel
theorem dX10_year_1 : decode cX10_year 1 = .ok (.i2l, 1) := by decide +kernel
theorem dX10_year_2 : decode cX10_year 2 = .ok (.lconst 0, 1) := by decide +kernel
theorem dX10_year_3 : decode cX10_year 3 = .ok (.ldc2_w 255, 3) := by decide +kernel
theorem dX10_year_6 : decode cX10_year 6 = .ok (.invokestatic 108, 3) := by decide +kernel
theorem dX10_year_9 : decode cX10_year 9 = .ok (.ifCond .eq 25, 3) := by decide +kernel
theorem dX10_year_12 : decode cX10_year 12 = .ok (.iload_n 2, 1) := by decide +kernel
theorem dX10_year_13 : decode cX10_year 13 = .ok (.i2l, 1) := by decide +kernel
theorem dX10_year_14 : decode cX10_year 14 = .ok (.lconst 1, 1) := by decide +kernel
theorem dX10_year_15 : decode cX10_year 15 = .ok (.ldc2_w 257, 3) := by decide +kernel
theorem dX10_year_18 : decode cX10_year 18 = .ok (.invokestatic 108, 3) := by decide +kernel
theorem dX10_year_21 : decode cX10_year 21 = .ok (.ifCond .eq 13, 3) := by decide +kernel
theorem dX10_year_24 : decode cX10_year 24 = .ok (.iload_n 3, 1) := by decide +kernel
theorem dX10_year_25 : decode cX10_year 25 = .ok (.i2l, 1) := by decide +kernel
theorem dX10_year_26 : decode cX10_year 26 = .ok (.lconst 0, 1) := by decide +kernel
theorem dX10_year_27 : decode cX10_year 27 = .ok (.lconst 1, 1) := by decide +kernel
theorem dX10_year_28 : decode cX10_year 28 = .ok (.invokestatic 108, 3) := by decide +kernel
theorem dX10_year_31 : decode cX10_year 31 = .ok (.ifCond .ne 5, 3) := by decide +kernel
theorem dX10_year_34 : decode cX10_year 34 = .ok (.iconst (-1), 1) := by decide +kernel
theorem dX10_year_35 : decode cX10_year 35 = .ok (.ireturn, 1) := by decide +kernel
theorem dX10_year_36 : decode cX10_year 36 = .ok (.aload_n 0, 1) := by decide +kernel
theorem dX10_year_37 : decode cX10_year 37 = .ok (.iconst 0, 1) := by decide +kernel
theorem dX10_year_38 : decode cX10_year 38 = .ok (.sipush 704, 3) := by decide +kernel
theorem dX10_year_41 : decode cX10_year 41 = .ok (.invokevirtual 105, 3) := by decide +kernel
theorem dX10_year_44 : decode cX10_year 44 = .ok (.iconst 0, 1) := by decide +kernel
theorem dX10_year_45 : decode cX10_year 45 = .ok (.istore 4, 2) := by decide +kernel
theorem dX10_year_47 : decode cX10_year 47 = .ok (.iload 4, 2) := by decide +kernel
theorem dX10_year_49 : decode cX10_year 49 = .ok (.iload_n 2, 1) := by decide +kernel
theorem dX10_year_50 : decode cX10_year 50 = .ok (.if_icmp .ge 52, 3) := by decide +kernel
theorem dX10_year_53 : decode cX10_year 53 = .ok (.ldc2_w 259, 3) := by decide +kernel
theorem dX10_year_56 : decode cX10_year 56 = .ok (.iload_n 1, 1) := by decide +kernel
theorem dX10_year_57 : decode cX10_year 57 = .ok (.i2l, 1) := by decide +kernel
theorem dX10_year_58 : decode cX10_year 58 = .ok (.lmul, 1) := by decide +kernel
theorem dX10_year_59 : decode cX10_year 59 = .ok (.ldc2_w 261, 3) := by decide +kernel
theorem dX10_year_62 : decode cX10_year 62 = .ok (.iload 4, 2) := by decide +kernel
theorem dX10_year_64 : decode cX10_year 64 = .ok (.i2l, 1) := by decide +kernel
theorem dX10_year_65 : decode cX10_year 65 = .ok (.lmul, 1) := by decide +kernel
theorem dX10_year_66 : decode cX10_year 66 = .ok (.ladd, 1) := by decide +kernel
theorem dX10_year_67 : decode cX10_year 67 = .ok (.lconst 1, 1) := by decide +kernel
theorem dX10_year_68 : decode cX10_year 68 = .ok (.ladd, 1) := by decide +kernel
theorem dX10_year_69 : decode cX10_year 69 = .ok (.lstore 5, 2) := by decide +kernel
theorem dX10_year_71 : decode cX10_year 71 = .ok (.aload_n 0, 1) := by decide +kernel
theorem dX10_year_72 : decode cX10_year 72 = .ok (.sipush 704, 3) := by decide +kernel
theorem dX10_year_75 : decode cX10_year 75 = .ok (.lload 5, 2) := by decide +kernel
theorem dX10_year_77 : decode cX10_year 77 = .ok (.lload 5, 2) := by decide +kernel
theorem dX10_year_79 : decode cX10_year 79 = .ok (.lmul, 1) := by decide +kernel
theorem dX10_year_80 : decode cX10_year 80 = .ok (.ldc2_w 263, 3) := by decide +kernel
theorem dX10_year_83 : decode cX10_year 83 = .ok (.lrem, 1) := by decide +kernel
theorem dX10_year_84 : decode cX10_year 84 = .ok (.l2i, 1) := by decide +kernel
theorem dX10_year_85 : decode cX10_year 85 = .ok (.invokevirtual 265, 3) := by decide +kernel
theorem dX10_year_88 : decode cX10_year 88 = .ok (.aload_n 0, 1) := by decide +kernel
theorem dX10_year_89 : decode cX10_year 89 = .ok (.sipush 704, 3) := by decide +kernel
theorem dX10_year_92 : decode cX10_year 92 = .ok (.iconst (-1), 1) := by decide +kernel
theorem dX10_year_93 : decode cX10_year 93 = .ok (.invokevirtual 225, 3) := by decide +kernel
theorem dX10_year_96 : decode cX10_year 96 = .ok (.iinc 4 1, 3) := by decide +kernel
theorem dX10_year_99 : decode cX10_year 99 = .ok (.goto (-52), 3) := by decide +kernel
theorem dX10_year_102 : decode cX10_year 102 = .ok (.iconst 0, 1) := by decide +kernel
theorem dX10_year_103 : decode cX10_year 103 = .ok (.istore 4, 2) := by decide +kernel
theorem dX10_year_105 : decode cX10_year 105 = .ok (.iconst 0, 1) := by decide +kernel
theorem dX10_year_106 : decode cX10_year 106 = .ok (.istore 5, 2) := by decide +kernel
theorem dX10_year_108 : decode cX10_year 108 = .ok (.iconst 0, 1) := by decide +kernel
theorem dX10_year_109 : decode cX10_year 109 = .ok (.istore 6, 2) := by decide +kernel
theorem dX10_year_111 : decode cX10_year 111 = .ok (.iload 6, 2) := by decide +kernel
theorem dX10_year_113 : decode cX10_year 113 = .ok (.aload_n 0, 1) := by decide +kernel
theorem dX10_year_114 : decode cX10_year 114 = .ok (.getfield 98, 3) := by decide +kernel
theorem dX10_year_117 : decode cX10_year 117 = .ok (.if_icmp .ge 69, 3) := by decide +kernel
theorem dX10_year_120 : decode cX10_year 120 = .ok (.aload_n 0, 1) := by decide +kernel
theorem dX10_year_121 : decode cX10_year 121 = .ok (.getfield 43, 3) := by decide +kernel
theorem dX10_year_124 : decode cX10_year 124 = .ok (.sipush 704, 3) := by decide +kernel
theorem dX10_year_127 : decode cX10_year 127 = .ok (.iload 6, 2) := by decide +kernel
theorem dX10_year_129 : decode cX10_year 129 = .ok (.iadd, 1) := by decide +kernel
theorem dX10_year_130 : decode cX10_year 130 = .ok (.iaload, 1) := by decide +kernel
theorem dX10_year_131 : decode cX10_year 131 = .ok (.iconst 2, 1) := by decide +kernel
theorem dX10_year_132 : decode cX10_year 132 = .ok (.if_icmp .ne 7, 3) := by decide +kernel
theorem dX10_year_135 : decode cX10_year 135 = .ok (.iconst 1, 1) := by decide +kernel
theorem dX10_year_136 : decode cX10_year 136 = .ok (.goto 4, 3) := by decide +kernel
theorem dX10_year_139 : decode cX10_year 139 = .ok (.iconst 0, 1) := by decide +kernel
theorem dX10_year_140 : decode cX10_year 140 = .ok (.istore 7, 2) := by decide +kernel
theorem dX10_year_142 : decode cX10_year 142 = .ok (.iload 4, 2) := by decide +kernel
theorem dX10_year_144 : decode cX10_year 144 = .ok (.iload 7, 2) := by decide +kernel
theorem dX10_year_146 : decode cX10_year 146 = .ok (.ifCond .eq 7, 3) := by decide +kernel
theorem dX10_year_149 : decode cX10_year 149 = .ok (.iconst 1, 1) := by decide +kernel
theorem dX10_year_150 : decode cX10_year 150 = .ok (.goto 4, 3) := by decide +kernel
theorem dX10_year_153 : decode cX10_year 153 = .ok (.iconst 0, 1) := by decide +kernel
theorem dX10_year_154 : decode cX10_year 154 = .ok (.iadd, 1) := by decide +kernel
theorem dX10_year_155 : decode cX10_year 155 = .ok (.istore 4, 2) := by decide +kernel
theorem dX10_year_157 : decode cX10_year 157 = .ok (.iload 5, 2) := by decide +kernel
theorem dX10_year_159 : decode cX10_year 159 = .ok (.iload 7, 2) := by decide +kernel
theorem dX10_year_161 : decode cX10_year 161 = .ok (.ifCond .eq 15, 3) := by decide +kernel
theorem dX10_year_164 : decode cX10_year 164 = .ok (.aload_n 0, 1) := by decide +kernel
theorem dX10_year_165 : decode cX10_year 165 = .ok (.sipush 704, 3) := by decide +kernel
theorem dX10_year_168 : decode cX10_year 168 = .ok (.iload 6, 2) := by decide +kernel
theorem dX10_year_170 : decode cX10_year 170 = .ok (.invokevirtual 228, 3) := by decide +kernel
theorem dX10_year_173 : decode cX10_year 173 = .ok (.goto 4, 3) := by decide +kernel
theorem dX10_year_176 : decode cX10_year 176 = .ok (.iconst 0, 1) := by decide +kernel
theorem dX10_year_177 : decode cX10_year 177 = .ok (.iadd, 1) := by decide +kernel
theorem dX10_year_178 : decode cX10_year 178 = .ok (.istore 5, 2) := by decide +kernel
theorem dX10_year_180 : decode cX10_year 180 = .ok (.iinc 6 1, 3) := by decide +kernel
theorem dX10_year_183 : decode cX10_year 183 = .ok (.goto (-72), 3) := by decide +kernel
theorem dX10_year_186 : decode cX10_year 186 = .ok (.iload_n 3, 1) := by decide +kernel
theorem dX10_year_187 : decode cX10_year 187 = .ok (.ifCond .ne 8, 3) := by decide +kernel
theorem dX10_year_190 : decode cX10_year 190 = .ok (.iload 4, 2) := by decide +kernel
theorem dX10_year_192 : decode cX10_year 192 = .ok (.goto 5, 3) := by decide +kernel
theorem dX10_year_195 : decode cX10_year 195 = .ok (.iload 5, 2) := by decide +kernel
theorem dX10_year_197 : decode cX10_year 197 = .ok (.ireturn, 1) := by decide +kernel
theorem dX10_keep_0 : decode cX10_keep 0 = .ok (.aload_n 0, 1) := by decide +kernel
theorem dX10_keep_1 : decode cX10_keep 1 = .ok (.getfield 163, 3) := by decide +kernel
theorem dX10_keep_4 : decode cX10_keep 4 = .ok (.iconst 2, 1) := by decide +kernel
theorem dX10_keep_5 : decode cX10_keep 5 = .ok (.if_icmp .ne 6, 3) := by decide +kernel
theorem dX10_keep_8 : decode cX10_keep 8 = .ok (.bipush (-3), 2) := by decide +kernel
theorem dX10_keep_10 : decode cX10_keep 10 = .ok (.ireturn, 1) := by decide +kernel
theorem dX10_keep_11 : decode cX10_keep 11 = .ok (.aload_n 0, 1) := by decide +kernel
theorem dX10_keep_12 : decode cX10_keep 12 = .ok (.iconst 0, 1) := by decide +kernel
theorem dX10_keep_13 : decode cX10_keep 13 = .ok (.bipush 9, 2) := by decide +kernel
theorem dX10_keep_15 : decode cX10_keep 15 = .ok (.aload_n 0, 1) := by decide +kernel
theorem dX10_keep_16 : decode cX10_keep 16 = .ok (.getfield 163, 3) := by decide +kernel
theorem dX10_keep_19 : decode cX10_keep 19 = .ok (.iadd, 1) := by decide +kernel
theorem dX10_keep_20 : decode cX10_keep 20 = .ok (.bipush 64, 2) := by decide +kernel
theorem dX10_keep_22 : decode cX10_keep 22 = .ok (.imul, 1) := by decide +kernel
theorem dX10_keep_23 : decode cX10_keep 23 = .ok (.invokevirtual 105, 3) := by decide +kernel
theorem dX10_keep_26 : decode cX10_keep 26 = .ok (.aload_n 0, 1) := by decide +kernel
theorem dX10_keep_27 : decode cX10_keep 27 = .ok (.dup, 1) := by decide +kernel
theorem dX10_keep_28 : decode cX10_keep 28 = .ok (.getfield 163, 3) := by decide +kernel
theorem dX10_keep_31 : decode cX10_keep 31 = .ok (.iconst 1, 1) := by decide +kernel
theorem dX10_keep_32 : decode cX10_keep 32 = .ok (.iadd, 1) := by decide +kernel
theorem dX10_keep_33 : decode cX10_keep 33 = .ok (.putfield 163, 3) := by decide +kernel
theorem dX10_keep_36 : decode cX10_keep 36 = .ok (.aload_n 0, 1) := by decide +kernel
theorem dX10_keep_37 : decode cX10_keep 37 = .ok (.getfield 163, 3) := by decide +kernel
theorem dX10_keep_40 : decode cX10_keep 40 = .ok (.ireturn, 1) := by decide +kernel
theorem dX10_back_0 : decode cX10_back 0 = .ok (.aload_n 0, 1) := by decide +kernel
theorem dX10_back_1 : decode cX10_back 1 = .ok (.getfield 163, 3) := by decide +kernel
theorem dX10_back_4 : decode cX10_back 4 = .ok (.ifCond .ne 6, 3) := by decide +kernel
theorem dX10_back_7 : decode cX10_back 7 = .ok (.bipush (-2), 2) := by decide +kernel
theorem dX10_back_9 : decode cX10_back 9 = .ok (.ireturn, 1) := by decide +kernel
theorem dX10_back_10 : decode cX10_back 10 = .ok (.aload_n 0, 1) := by decide +kernel
theorem dX10_back_11 : decode cX10_back 11 = .ok (.dup, 1) := by decide +kernel
theorem dX10_back_12 : decode cX10_back 12 = .ok (.getfield 163, 3) := by decide +kernel
theorem dX10_back_15 : decode cX10_back 15 = .ok (.iconst 1, 1) := by decide +kernel
theorem dX10_back_16 : decode cX10_back 16 = .ok (.isub, 1) := by decide +kernel
theorem dX10_back_17 : decode cX10_back 17 = .ok (.putfield 163, 3) := by decide +kernel
theorem dX10_back_20 : decode cX10_back 20 = .ok (.aload_n 0, 1) := by decide +kernel
theorem dX10_back_21 : decode cX10_back 21 = .ok (.bipush 9, 2) := by decide +kernel
theorem dX10_back_23 : decode cX10_back 23 = .ok (.aload_n 0, 1) := by decide +kernel
theorem dX10_back_24 : decode cX10_back 24 = .ok (.getfield 163, 3) := by decide +kernel
theorem dX10_back_27 : decode cX10_back 27 = .ok (.iadd, 1) := by decide +kernel
theorem dX10_back_28 : decode cX10_back 28 = .ok (.bipush 64, 2) := by decide +kernel
theorem dX10_back_30 : decode cX10_back 30 = .ok (.imul, 1) := by decide +kernel
theorem dX10_back_31 : decode cX10_back 31 = .ok (.iconst 0, 1) := by decide +kernel
theorem dX10_back_32 : decode cX10_back 32 = .ok (.invokevirtual 105, 3) := by decide +kernel
theorem dX10_back_35 : decode cX10_back 35 = .ok (.aload_n 0, 1) := by decide +kernel
theorem dX10_back_36 : decode cX10_back 36 = .ok (.iconst 0, 1) := by decide +kernel
theorem dX10_back_37 : decode cX10_back 37 = .ok (.putfield 160, 3) := by decide +kernel
theorem dX10_back_40 : decode cX10_back 40 = .ok (.aload_n 0, 1) := by decide +kernel
theorem dX10_back_41 : decode cX10_back 41 = .ok (.getfield 163, 3) := by decide +kernel
theorem dX10_back_44 : decode cX10_back 44 = .ok (.ireturn, 1) := by decide +kernel
theorem dX10_many_0 : decode cX10_many 0 = .ok (.iconst 0, 1) := by decide +kernel
theorem dX10_many_1 : decode cX10_many 1 = .ok (.istore_n 2, 1) := by decide +kernel
theorem dX10_many_2 : decode cX10_many 2 = .ok (.iconst 0, 1) := by decide +kernel
theorem dX10_many_3 : decode cX10_many 3 = .ok (.istore_n 3, 1) := by decide +kernel
theorem dX10_many_4 : decode cX10_many 4 = .ok (.iload_n 3, 1) := by decide +kernel
theorem dX10_many_5 : decode cX10_many 5 = .ok (.aload_n 0, 1) := by decide +kernel
theorem dX10_many_6 : decode cX10_many 6 = .ok (.getfield 98, 3) := by decide +kernel
theorem dX10_many_9 : decode cX10_many 9 = .ok (.if_icmp .ge 27, 3) := by decide +kernel
theorem dX10_many_12 : decode cX10_many 12 = .ok (.iload_n 2, 1) := by decide +kernel
theorem dX10_many_13 : decode cX10_many 13 = .ok (.aload_n 0, 1) := by decide +kernel
theorem dX10_many_14 : decode cX10_many 14 = .ok (.getfield 43, 3) := by decide +kernel
theorem dX10_many_17 : decode cX10_many 17 = .ok (.iload_n 3, 1) := by decide +kernel
theorem dX10_many_18 : decode cX10_many 18 = .ok (.iaload, 1) := by decide +kernel
theorem dX10_many_19 : decode cX10_many 19 = .ok (.iload_n 1, 1) := by decide +kernel
theorem dX10_many_20 : decode cX10_many 20 = .ok (.if_icmp .ne 7, 3) := by decide +kernel
theorem dX10_many_23 : decode cX10_many 23 = .ok (.iconst 1, 1) := by decide +kernel
theorem dX10_many_24 : decode cX10_many 24 = .ok (.goto 4, 3) := by decide +kernel
theorem dX10_many_27 : decode cX10_many 27 = .ok (.iconst 0, 1) := by decide +kernel
theorem dX10_many_28 : decode cX10_many 28 = .ok (.iadd, 1) := by decide +kernel
theorem dX10_many_29 : decode cX10_many 29 = .ok (.istore_n 2, 1) := by decide +kernel
theorem dX10_many_30 : decode cX10_many 30 = .ok (.iinc 3 1, 3) := by decide +kernel
theorem dX10_many_33 : decode cX10_many 33 = .ok (.goto (-29), 3) := by decide +kernel
theorem dX10_many_36 : decode cX10_many 36 = .ok (.iload_n 2, 1) := by decide +kernel
theorem dX10_many_37 : decode cX10_many 37 = .ok (.ireturn, 1) := by decide +kernel
theorem dX10_allWays_0 : decode cX10_allWays 0 = .ok (.iconst 0, 1) := by decide +kernel
theorem dX10_allWays_1 : decode cX10_allWays 1 = .ok (.istore_n 1, 1) := by decide +kernel
theorem dX10_allWays_2 : decode cX10_allWays 2 = .ok (.iconst 0, 1) := by decide +kernel
theorem dX10_allWays_3 : decode cX10_allWays 3 = .ok (.istore_n 2, 1) := by decide +kernel
theorem dX10_allWays_4 : decode cX10_allWays 4 = .ok (.iload_n 2, 1) := by decide +kernel
theorem dX10_allWays_5 : decode cX10_allWays 5 = .ok (.bipush 64, 2) := by decide +kernel
theorem dX10_allWays_7 : decode cX10_allWays 7 = .ok (.if_icmp .ge 37, 3) := by decide +kernel
theorem dX10_allWays_10 : decode cX10_allWays 10 = .ok (.iload_n 1, 1) := by decide +kernel
theorem dX10_allWays_11 : decode cX10_allWays 11 = .ok (.iload_n 2, 1) := by decide +kernel
theorem dX10_allWays_12 : decode cX10_allWays 12 = .ok (.bipush 8, 2) := by decide +kernel
theorem dX10_allWays_14 : decode cX10_allWays 14 = .ok (.idiv, 1) := by decide +kernel
theorem dX10_allWays_15 : decode cX10_allWays 15 = .ok (.iload_n 2, 1) := by decide +kernel
theorem dX10_allWays_16 : decode cX10_allWays 16 = .ok (.bipush 8, 2) := by decide +kernel
theorem dX10_allWays_18 : decode cX10_allWays 18 = .ok (.irem, 1) := by decide +kernel
theorem dX10_allWays_19 : decode cX10_allWays 19 = .ok (.if_icmp .ge 16, 3) := by decide +kernel
theorem dX10_allWays_22 : decode cX10_allWays 22 = .ok (.aload_n 0, 1) := by decide +kernel
theorem dX10_allWays_23 : decode cX10_allWays 23 = .ok (.getfield 7, 3) := by decide +kernel
theorem dX10_allWays_26 : decode cX10_allWays 26 = .ok (.iload_n 2, 1) := by decide +kernel
theorem dX10_allWays_27 : decode cX10_allWays 27 = .ok (.iaload, 1) := by decide +kernel
theorem dX10_allWays_28 : decode cX10_allWays 28 = .ok (.ifCond .le 7, 3) := by decide +kernel
theorem dX10_allWays_31 : decode cX10_allWays 31 = .ok (.iconst 1, 1) := by decide +kernel
theorem dX10_allWays_32 : decode cX10_allWays 32 = .ok (.goto 4, 3) := by decide +kernel
theorem dX10_allWays_35 : decode cX10_allWays 35 = .ok (.iconst 0, 1) := by decide +kernel
theorem dX10_allWays_36 : decode cX10_allWays 36 = .ok (.iadd, 1) := by decide +kernel
theorem dX10_allWays_37 : decode cX10_allWays 37 = .ok (.istore_n 1, 1) := by decide +kernel
theorem dX10_allWays_38 : decode cX10_allWays 38 = .ok (.iinc 2 1, 3) := by decide +kernel
theorem dX10_allWays_41 : decode cX10_allWays 41 = .ok (.goto (-37), 3) := by decide +kernel
theorem dX10_allWays_44 : decode cX10_allWays 44 = .ok (.iload_n 1, 1) := by decide +kernel
theorem dX10_allWays_45 : decode cX10_allWays 45 = .ok (.ireturn, 1) := by decide +kernel
theorem dX10_allCarrots_0 : decode cX10_allCarrots 0 = .ok (.iconst 0, 1) := by decide +kernel
theorem dX10_allCarrots_1 : decode cX10_allCarrots 1 = .ok (.istore_n 1, 1) := by decide +kernel
theorem dX10_allCarrots_2 : decode cX10_allCarrots 2 = .ok (.iconst 0, 1) := by decide +kernel
theorem dX10_allCarrots_3 : decode cX10_allCarrots 3 = .ok (.istore_n 2, 1) := by decide +kernel
theorem dX10_allCarrots_4 : decode cX10_allCarrots 4 = .ok (.iload_n 2, 1) := by decide +kernel
theorem dX10_allCarrots_5 : decode cX10_allCarrots 5 = .ok (.aload_n 0, 1) := by decide +kernel
theorem dX10_allCarrots_6 : decode cX10_allCarrots 6 = .ok (.getfield 89, 3) := by decide +kernel
theorem dX10_allCarrots_9 : decode cX10_allCarrots 9 = .ok (.if_icmp .ge 21, 3) := by decide +kernel
theorem dX10_allCarrots_12 : decode cX10_allCarrots 12 = .ok (.iload_n 1, 1) := by decide +kernel
theorem dX10_allCarrots_13 : decode cX10_allCarrots 13 = .ok (.aload_n 0, 1) := by decide +kernel
theorem dX10_allCarrots_14 : decode cX10_allCarrots 14 = .ok (.getfield 43, 3) := by decide +kernel
theorem dX10_allCarrots_17 : decode cX10_allCarrots 17 = .ok (.bipush 55, 2) := by decide +kernel
theorem dX10_allCarrots_19 : decode cX10_allCarrots 19 = .ok (.iload_n 2, 1) := by decide +kernel
theorem dX10_allCarrots_20 : decode cX10_allCarrots 20 = .ok (.iadd, 1) := by decide +kernel
theorem dX10_allCarrots_21 : decode cX10_allCarrots 21 = .ok (.iaload, 1) := by decide +kernel
theorem dX10_allCarrots_22 : decode cX10_allCarrots 22 = .ok (.iadd, 1) := by decide +kernel
theorem dX10_allCarrots_23 : decode cX10_allCarrots 23 = .ok (.istore_n 1, 1) := by decide +kernel
theorem dX10_allCarrots_24 : decode cX10_allCarrots 24 = .ok (.iinc 2 1, 3) := by decide +kernel
theorem dX10_allCarrots_27 : decode cX10_allCarrots 27 = .ok (.goto (-23), 3) := by decide +kernel
theorem dX10_allCarrots_30 : decode cX10_allCarrots 30 = .ok (.iload_n 1, 1) := by decide +kernel
theorem dX10_allCarrots_31 : decode cX10_allCarrots 31 = .ok (.ireturn, 1) := by decide +kernel
theorem dX10_count_0 : decode cX10_count 0 = .ok (.iload_n 1, 1) := by decide +kernel
theorem dX10_count_1 : decode cX10_count 1 = .ok (.ifCond .ne 10, 3) := by decide +kernel
theorem dX10_count_4 : decode cX10_count 4 = .ok (.aload_n 0, 1) := by decide +kernel
theorem dX10_count_5 : decode cX10_count 5 = .ok (.getfield 89, 3) := by decide +kernel
theorem dX10_count_8 : decode cX10_count 8 = .ok (.goto 131, 3) := by decide +kernel
theorem dX10_count_11 : decode cX10_count 11 = .ok (.iload_n 1, 1) := by decide +kernel
theorem dX10_count_12 : decode cX10_count 12 = .ok (.iconst 1, 1) := by decide +kernel
theorem dX10_count_13 : decode cX10_count 13 = .ok (.if_icmp .ne 10, 3) := by decide +kernel
theorem dX10_count_16 : decode cX10_count 16 = .ok (.aload_n 0, 1) := by decide +kernel
theorem dX10_count_17 : decode cX10_count 17 = .ok (.getfield 95, 3) := by decide +kernel
theorem dX10_count_20 : decode cX10_count 20 = .ok (.goto 119, 3) := by decide +kernel
theorem dX10_count_23 : decode cX10_count 23 = .ok (.iload_n 1, 1) := by decide +kernel
theorem dX10_count_24 : decode cX10_count 24 = .ok (.iconst 2, 1) := by decide +kernel
theorem dX10_count_25 : decode cX10_count 25 = .ok (.if_icmp .ne 10, 3) := by decide +kernel
theorem dX10_count_28 : decode cX10_count 28 = .ok (.aload_n 0, 1) := by decide +kernel
theorem dX10_count_29 : decode cX10_count 29 = .ok (.getfield 98, 3) := by decide +kernel
theorem dX10_count_32 : decode cX10_count 32 = .ok (.goto 107, 3) := by decide +kernel
theorem dX10_count_35 : decode cX10_count 35 = .ok (.iload_n 1, 1) := by decide +kernel
theorem dX10_count_36 : decode cX10_count 36 = .ok (.iconst 3, 1) := by decide +kernel
theorem dX10_count_37 : decode cX10_count 37 = .ok (.if_icmp .ne 10, 3) := by decide +kernel
theorem dX10_count_40 : decode cX10_count 40 = .ok (.aload_n 0, 1) := by decide +kernel
theorem dX10_count_41 : decode cX10_count 41 = .ok (.invokevirtual 268, 3) := by decide +kernel
theorem dX10_count_44 : decode cX10_count 44 = .ok (.goto 95, 3) := by decide +kernel
theorem dX10_count_47 : decode cX10_count 47 = .ok (.iload_n 1, 1) := by decide +kernel
theorem dX10_count_48 : decode cX10_count 48 = .ok (.iconst 4, 1) := by decide +kernel
theorem dX10_count_49 : decode cX10_count 49 = .ok (.if_icmp .ne 13, 3) := by decide +kernel
theorem dX10_count_52 : decode cX10_count 52 = .ok (.aload_n 0, 1) := by decide +kernel
theorem dX10_count_53 : decode cX10_count 53 = .ok (.getfield 43, 3) := by decide +kernel
theorem dX10_count_56 : decode cX10_count 56 = .ok (.bipush 63, 2) := by decide +kernel
theorem dX10_count_58 : decode cX10_count 58 = .ok (.iaload, 1) := by decide +kernel
theorem dX10_count_59 : decode cX10_count 59 = .ok (.goto 80, 3) := by decide +kernel
theorem dX10_count_62 : decode cX10_count 62 = .ok (.iload_n 1, 1) := by decide +kernel
theorem dX10_count_63 : decode cX10_count 63 = .ok (.i2l, 1) := by decide +kernel
theorem dX10_count_64 : decode cX10_count 64 = .ok (.ldc2_w 271, 3) := by decide +kernel
theorem dX10_count_67 : decode cX10_count 67 = .ok (.ldc2_w 251, 3) := by decide +kernel
theorem dX10_count_70 : decode cX10_count 70 = .ok (.invokestatic 108, 3) := by decide +kernel
theorem dX10_count_73 : decode cX10_count 73 = .ok (.ifCond .eq 13, 3) := by decide +kernel
theorem dX10_count_76 : decode cX10_count 76 = .ok (.aload_n 0, 1) := by decide +kernel
theorem dX10_count_77 : decode cX10_count 77 = .ok (.iload_n 1, 1) := by decide +kernel
theorem dX10_count_78 : decode cX10_count 78 = .ok (.iconst 5, 1) := by decide +kernel
theorem dX10_count_79 : decode cX10_count 79 = .ok (.isub, 1) := by decide +kernel
theorem dX10_count_80 : decode cX10_count 80 = .ok (.invokevirtual 273, 3) := by decide +kernel
theorem dX10_count_83 : decode cX10_count 83 = .ok (.goto 56, 3) := by decide +kernel
theorem dX10_count_86 : decode cX10_count 86 = .ok (.iload_n 1, 1) := by decide +kernel
theorem dX10_count_87 : decode cX10_count 87 = .ok (.bipush 9, 2) := by decide +kernel
theorem dX10_count_89 : decode cX10_count 89 = .ok (.if_icmp .ne 10, 3) := by decide +kernel
theorem dX10_count_92 : decode cX10_count 92 = .ok (.aload_n 0, 1) := by decide +kernel
theorem dX10_count_93 : decode cX10_count 93 = .ok (.invokevirtual 276, 3) := by decide +kernel
theorem dX10_count_96 : decode cX10_count 96 = .ok (.goto 43, 3) := by decide +kernel
theorem dX10_count_99 : decode cX10_count 99 = .ok (.iload_n 1, 1) := by decide +kernel
theorem dX10_count_100 : decode cX10_count 100 = .ok (.bipush 10, 2) := by decide +kernel
theorem dX10_count_102 : decode cX10_count 102 = .ok (.if_icmp .ne 10, 3) := by decide +kernel
theorem dX10_count_105 : decode cX10_count 105 = .ok (.aload_n 0, 1) := by decide +kernel
theorem dX10_count_106 : decode cX10_count 106 = .ok (.getfield 160, 3) := by decide +kernel
theorem dX10_count_109 : decode cX10_count 109 = .ok (.goto 30, 3) := by decide +kernel
theorem dX10_count_112 : decode cX10_count 112 = .ok (.iload_n 1, 1) := by decide +kernel
theorem dX10_count_113 : decode cX10_count 113 = .ok (.bipush 11, 2) := by decide +kernel
theorem dX10_count_115 : decode cX10_count 115 = .ok (.if_icmp .ne 10, 3) := by decide +kernel
theorem dX10_count_118 : decode cX10_count 118 = .ok (.aload_n 0, 1) := by decide +kernel
theorem dX10_count_119 : decode cX10_count 119 = .ok (.getfield 163, 3) := by decide +kernel
theorem dX10_count_122 : decode cX10_count 122 = .ok (.goto 17, 3) := by decide +kernel
theorem dX10_count_125 : decode cX10_count 125 = .ok (.iload_n 1, 1) := by decide +kernel
theorem dX10_count_126 : decode cX10_count 126 = .ok (.bipush 12, 2) := by decide +kernel
theorem dX10_count_128 : decode cX10_count 128 = .ok (.if_icmp .ne 10, 3) := by decide +kernel
theorem dX10_count_131 : decode cX10_count 131 = .ok (.aload_n 0, 1) := by decide +kernel
theorem dX10_count_132 : decode cX10_count 132 = .ok (.getfield 116, 3) := by decide +kernel
theorem dX10_count_135 : decode cX10_count 135 = .ok (.goto 4, 3) := by decide +kernel
theorem dX10_count_138 : decode cX10_count 138 = .ok (.iconst (-1), 1) := by decide +kernel
theorem dX10_count_139 : decode cX10_count 139 = .ok (.ireturn, 1) := by decide +kernel
theorem qX10_year : jYv yX10_year cX10_year 8 (some .int) 3 := ⟨tw_1252, tw_1253, tw_72, tw_1254, ⟨by decide +kernel, by decide +kernel, by decide +kernel⟩⟩
abbrev rX10_year : Room := { frames := 4, cells := 0, slots := 0, locals := 93 }
def uX10_year : jM := (cX10_year, 8, RX10, (some .int), rX10_year)
def pX10_year_47b (fu : Nat) (x1 : Int32) (x2 : Int32) (x3 : Int32) (x4 : Int32) (M : Mem) (c47 : Int32 → Int32 → Int32 → Int32 → Mem → Res) (c102 : Int32 → Mem → Res) : Res :=
  if x2 ≤ x4 then (
    c102 x3 M)
  else
  bV (pX10_does fu (704 : Int32) ((lrm (((((7919 : Int64) * (x1).toInt64) + ((6151 : Int64) * (x4).toInt64)) + (1 : Int64)) * ((((7919 : Int64) * (x1).toInt64) + ((6151 : Int64) * (x4).toInt64)) + (1 : Int64))) (65521 : Int64))).toInt32 M) fun M8 =>
  bV (pX10_hour fu (704 : Int32) (-1 : Int32) M8) fun M9 =>
  c47 x1 x2 x3 (x4 + (1 : Int32)) M9
set_option maxRecDepth 100000 in
theorem wX10_year_47b {E : jE} {X : jC} (hX : jOk X uX10_year (gM E)) (fu : Nat)  (x1 : Int32) (x2 : Int32) (x3 : Int32) (x4 : Int32) (M : Mem) (c47 : Int32 → Int32 → Int32 → Int32 → Mem → Res) (c102 : Int32 → Mem → Res) (hc47 : ∀ (x1 : Int32) (x2 : Int32) (x3 : Int32) (x4 : Int32) (M : Mem), J X uX10_year (gM E) 47 [(0, .ref (gad (gM E) 0)), (1, .int x1), (2, .int x2), (3, .int x3), (4, .int x4)] [] M (c47 x1 x2 x3 x4 M)) (hc102 : ∀ (x3 : Int32) (M : Mem), J X uX10_year (gM E) 102 [(0, .ref (gad (gM E) 0)), (3, .int x3)] [] M (c102 x3 M)) : J X uX10_year (gM E) 47 [(0, .ref (gad (gM E) 0)), (1, .int x1), (2, .int x2), (3, .int x3), (4, .int x4)] [] M (pX10_year_47b fu  x1 x2 x3 x4 M c47 c102) := by
  unfold pX10_year_47b
  refine j_iload (pc := 47) hX 4 dX10_year_47 rfl ?_
  refine j_iload_n (pc := 49) hX 2 dX10_year_49 rfl rfl ?_
  refine j_icmp_ge (pc := 50) hX 102 dX10_year_50 (by decide) ?_ ?_
  · exact j_sub [0, 3] rfl (hc102 x3 M)
  · refine j_ldc2 (pc := 53) (v := (7919 : Int64)) hX tw_1257 dX10_year_53 ?_
    refine j_iload_n (pc := 56) hX 1 dX10_year_56 rfl rfl ?_
    refine j_i2l (pc := 57) hX dX10_year_57 ?_
    refine j_lmul (pc := 58) hX dX10_year_58 ?_
    refine j_ldc2 (pc := 59) (v := (6151 : Int64)) hX tw_1258 dX10_year_59 ?_
    refine j_iload (pc := 62) hX 4 dX10_year_62 rfl ?_
    refine j_i2l (pc := 64) hX dX10_year_64 ?_
    refine j_lmul (pc := 65) hX dX10_year_65 ?_
    refine j_ladd (pc := 66) hX dX10_year_66 ?_
    refine j_lconst (pc := 67) (v := (1 : Int64)) hX dX10_year_67 rfl ?_
    refine j_ladd (pc := 68) hX dX10_year_68 ?_
    refine j_lstore (pc := 69) (lv' := [(5, .long ((((7919 : Int64) * (x1).toInt64) + ((6151 : Int64) * (x4).toInt64)) + (1 : Int64))), (0, .ref (gad (gM E) 0)), (1, .int x1), (2, .int x2), (3, .int x3), (4, .int x4)]) hX dX10_year_69 (jb rfl) rfl ?_
    refine j_aload_n (pc := 71) hX 1 dX10_year_71 rfl rfl ?_
    refine j_sipush (pc := 72) (v := (704 : Int32)) hX dX10_year_72 cs_704 ?_
    refine j_lload (pc := 75) hX 0 dX10_year_75 rfl ?_
    refine j_lload (pc := 77) hX 0 dX10_year_77 rfl ?_
    refine j_lmul (pc := 79) hX dX10_year_79 ?_
    refine j_ldc2 (pc := 80) (v := (65521 : Int64)) hX tw_1259 dX10_year_80 ?_
    refine j_lremC (pc := 83) hX dX10_year_83 (by decide) ?_
    refine j_l2i (pc := 84) hX dX10_year_84 ?_
    refine j_callVv (pc := 85) hX [.int (704 : Int32), .int ((lrm (((((7919 : Int64) * (x1).toInt64) + ((6151 : Int64) * (x4).toInt64)) + (1 : Int64)) * ((((7919 : Int64) * (x1).toInt64) + ((6151 : Int64) * (x4).toInt64)) + (1 : Int64))) (65521 : Int64))).toInt32] (mX10_does _ E hX.2.2.2.2.2.2.2.2.1 fu   (704 : Int32) ((lrm (((((7919 : Int64) * (x1).toInt64) + ((6151 : Int64) * (x4).toInt64)) + (1 : Int64)) * ((((7919 : Int64) * (x1).toInt64) + ((6151 : Int64) * (x4).toInt64)) + (1 : Int64))) (65521 : Int64))).toInt32 M) qX10_does tw_1260 (jb rfl) rfl (ci := 9) (T := TX10) (N := 30) rfl (jb rfl) rfl ⟨rfl, rfl⟩ ⟨(Nat.le_of_ble_eq_true rfl), (Nat.le_of_ble_eq_true rfl)⟩ (Nat.le_of_ble_eq_true rfl) dX10_year_85 rfl (fun M8 => ?_)
    refine j_aload_n (pc := 88) hX 1 dX10_year_88 rfl rfl ?_
    refine j_sipush (pc := 89) (v := (704 : Int32)) hX dX10_year_89 cs_704 ?_
    refine j_iconst (pc := 92) (v := (-1 : Int32)) hX dX10_year_92 ci_m1 ?_
    refine j_callVv (pc := 93) hX [.int (704 : Int32), .int (-1 : Int32)] (mX10_hour _ E hX.2.2.2.2.2.2.2.2.1 fu   (704 : Int32) (-1 : Int32) M8) qX10_hour tw_1136 (jb rfl) rfl (ci := 9) (T := TX10) (N := 30) rfl (jb rfl) rfl ⟨rfl, rfl⟩ ⟨(Nat.le_of_ble_eq_true rfl), (Nat.le_of_ble_eq_true rfl)⟩ (Nat.le_of_ble_eq_true rfl) dX10_year_93 rfl (fun M9 => ?_)
    refine j_iinc (pc := 96) (v := (x4 + (1 : Int32))) (lv' := [(4, .int (x4 + (1 : Int32))), (5, .long ((((7919 : Int64) * (x1).toInt64) + ((6151 : Int64) * (x4).toInt64)) + (1 : Int64))), (0, .ref (gad (gM E) 0)), (1, .int x1), (2, .int x2), (3, .int x3)]) hX 5 dX10_year_96 rfl (by rw [ci_1]) (jb rfl) rfl ?_
    refine j_goto (pc := 99) hX 47 dX10_year_99 (by decide) ?_
    exact j_sub [2, 3, 4, 5, 0] rfl (hc47 x1 x2 x3 (x4 + (1 : Int32)) M9)
def pX10_year_47 (fu : Nat) (c102 : Int32 → Mem → Res) : Nat → Int32 → Int32 → Int32 → Int32 → Mem → Res
  | 0, _, _, _, _, _ => none
  | n + 1, x1, x2, x3, x4, M => pX10_year_47b fu  x1 x2 x3 x4 M (pX10_year_47 fu  c102 n) c102
theorem wX10_year_47 {E : jE} {X : jC} (hX : jOk X uX10_year (gM E)) (fu : Nat)  (c102 : Int32 → Mem → Res) (hc102 : ∀ (x3 : Int32) (M : Mem), J X uX10_year (gM E) 102 [(0, .ref (gad (gM E) 0)), (3, .int x3)] [] M (c102 x3 M)) : ∀ (n : Nat) (x1 : Int32) (x2 : Int32) (x3 : Int32) (x4 : Int32) (M : Mem), J X uX10_year (gM E) 47 [(0, .ref (gad (gM E) 0)), (1, .int x1), (2, .int x2), (3, .int x3), (4, .int x4)] [] M (pX10_year_47 fu  c102 n x1 x2 x3 x4 M) := by
  intro n
  induction n with
  | zero => intro x1 x2 x3 x4 M; exact j_none
  | succ n ih => intro x1 x2 x3 x4 M; exact wX10_year_47b hX fu   x1 x2 x3 x4 M (pX10_year_47 fu  c102 n) c102 ih hc102
def pX10_year_177 (fu : Nat) (x3 : Int32) (x4 : Int32) (x6 : Int32) (s0 : Int32) (s1 : Int32) (M : Mem) (c111 : Int32 → Int32 → Int32 → Int32 → Mem → Res) : Res :=
  c111 x3 x4 (s1 + s0) (x6 + (1 : Int32)) M
set_option maxRecDepth 100000 in
theorem wX10_year_177 {E : jE} {X : jC} (hX : jOk X uX10_year (gM E)) (fu : Nat)  (x3 : Int32) (x4 : Int32) (x6 : Int32) (s0 : Int32) (s1 : Int32) (M : Mem) (c111 : Int32 → Int32 → Int32 → Int32 → Mem → Res) (hc111 : ∀ (x3 : Int32) (x4 : Int32) (x5 : Int32) (x6 : Int32) (M : Mem), J X uX10_year (gM E) 111 [(0, .ref (gad (gM E) 0)), (3, .int x3), (4, .int x4), (5, .int x5), (6, .int x6)] [] M (c111 x3 x4 x5 x6 M)) : J X uX10_year (gM E) 177 [(0, .ref (gad (gM E) 0)), (3, .int x3), (4, .int x4), (6, .int x6)] [.int s0, .int s1] M (pX10_year_177 fu  x3 x4 x6 s0 s1 M c111) := by
  unfold pX10_year_177
  refine j_iadd (pc := 177) hX dX10_year_177 ?_
  refine j_istore (pc := 178) (lv' := [(5, .int (s1 + s0)), (0, .ref (gad (gM E) 0)), (3, .int x3), (4, .int x4), (6, .int x6)]) hX dX10_year_178 (jb rfl) rfl ?_
  refine j_iinc (pc := 180) (v := (x6 + (1 : Int32))) (lv' := [(6, .int (x6 + (1 : Int32))), (5, .int (s1 + s0)), (0, .ref (gad (gM E) 0)), (3, .int x3), (4, .int x4)]) hX 4 dX10_year_180 rfl (by rw [ci_1]) (jb rfl) rfl ?_
  refine j_goto (pc := 183) hX 111 dX10_year_183 (by decide) ?_
  exact j_sub [2, 3, 4, 1, 0] rfl (hc111 x3 x4 (s1 + s0) (x6 + (1 : Int32)) M)
def pX10_year_154 (fu : Nat) (x3 : Int32) (x5 : Int32) (x6 : Int32) (x7 : Int32) (s0 : Int32) (s1 : Int32) (M : Mem) (c111 : Int32 → Int32 → Int32 → Int32 → Mem → Res) : Res :=
  if x7 = 0 then (
    pX10_year_177 fu  x3 (s1 + s0) x6 (0 : Int32) x5 M c111)
  else
  bI (pX10_read fu (704 : Int32) x6 M) fun r14 M13 =>
  pX10_year_177 fu  x3 (s1 + s0) x6 r14 x5 M13 c111
set_option maxRecDepth 100000 in
theorem wX10_year_154 {E : jE} {X : jC} (hX : jOk X uX10_year (gM E)) (fu : Nat)  (x3 : Int32) (x5 : Int32) (x6 : Int32) (x7 : Int32) (s0 : Int32) (s1 : Int32) (M : Mem) (c111 : Int32 → Int32 → Int32 → Int32 → Mem → Res) (hc111 : ∀ (x3 : Int32) (x4 : Int32) (x5 : Int32) (x6 : Int32) (M : Mem), J X uX10_year (gM E) 111 [(0, .ref (gad (gM E) 0)), (3, .int x3), (4, .int x4), (5, .int x5), (6, .int x6)] [] M (c111 x3 x4 x5 x6 M)) : J X uX10_year (gM E) 154 [(0, .ref (gad (gM E) 0)), (3, .int x3), (5, .int x5), (6, .int x6), (7, .int x7)] [.int s0, .int s1] M (pX10_year_154 fu  x3 x5 x6 x7 s0 s1 M c111) := by
  unfold pX10_year_154
  refine j_iadd (pc := 154) hX dX10_year_154 ?_
  refine j_istore (pc := 155) (lv' := [(4, .int (s1 + s0)), (0, .ref (gad (gM E) 0)), (3, .int x3), (5, .int x5), (6, .int x6), (7, .int x7)]) hX dX10_year_155 (jb rfl) rfl ?_
  refine j_iload (pc := 157) hX 3 dX10_year_157 rfl ?_
  refine j_iload (pc := 159) hX 5 dX10_year_159 rfl ?_
  refine j_if_eq (pc := 161) hX 176 dX10_year_161 (by decide) ?_ ?_
  · refine j_iconst (pc := 176) (v := (0 : Int32)) hX dX10_year_176 ci_0 ?_
    exact j_sub [1, 2, 0, 4] rfl (wX10_year_177 hX fu   x3 (s1 + s0) x6 (0 : Int32) x5 M c111 hc111)
  · refine j_aload_n (pc := 164) hX 1 dX10_year_164 rfl rfl ?_
    refine j_sipush (pc := 165) (v := (704 : Int32)) hX dX10_year_165 cs_704 ?_
    refine j_iload (pc := 168) hX 4 dX10_year_168 rfl ?_
    refine j_callV (pc := 170) hX [.int (704 : Int32), .int x6] (mX10_read _ E hX.2.2.2.2.2.2.2.2.1 fu   (704 : Int32) x6 M) qX10_read tw_1167 (jb rfl) rfl (ci := 9) (T := TX10) (N := 30) rfl (jb rfl) rfl ⟨rfl, rfl⟩ ⟨(Nat.le_of_ble_eq_true rfl), (Nat.le_of_ble_eq_true rfl)⟩ (Nat.le_of_ble_eq_true rfl) dX10_year_170 (fun _ => rfl) rfl (fun r14 M13 => ?_)
    refine j_goto (pc := 173) hX 177 dX10_year_173 (by decide) ?_
    exact j_sub [1, 2, 0, 4] rfl (wX10_year_177 hX fu   x3 (s1 + s0) x6 r14 x5 M13 c111 hc111)
def pX10_year_140 (fu : Nat) (x3 : Int32) (x4 : Int32) (x5 : Int32) (x6 : Int32) (s0 : Int32) (M : Mem) (c111 : Int32 → Int32 → Int32 → Int32 → Mem → Res) : Res :=
  if s0 = 0 then (
    pX10_year_154 fu  x3 x5 x6 s0 (0 : Int32) x4 M c111)
  else
  pX10_year_154 fu  x3 x5 x6 s0 (1 : Int32) x4 M c111
set_option maxRecDepth 100000 in
theorem wX10_year_140 {E : jE} {X : jC} (hX : jOk X uX10_year (gM E)) (fu : Nat)  (x3 : Int32) (x4 : Int32) (x5 : Int32) (x6 : Int32) (s0 : Int32) (M : Mem) (c111 : Int32 → Int32 → Int32 → Int32 → Mem → Res) (hc111 : ∀ (x3 : Int32) (x4 : Int32) (x5 : Int32) (x6 : Int32) (M : Mem), J X uX10_year (gM E) 111 [(0, .ref (gad (gM E) 0)), (3, .int x3), (4, .int x4), (5, .int x5), (6, .int x6)] [] M (c111 x3 x4 x5 x6 M)) : J X uX10_year (gM E) 140 [(0, .ref (gad (gM E) 0)), (3, .int x3), (4, .int x4), (5, .int x5), (6, .int x6)] [.int s0] M (pX10_year_140 fu  x3 x4 x5 x6 s0 M c111) := by
  unfold pX10_year_140
  refine j_istore (pc := 140) (lv' := [(7, .int s0), (0, .ref (gad (gM E) 0)), (3, .int x3), (4, .int x4), (5, .int x5), (6, .int x6)]) hX dX10_year_140 (jb rfl) rfl ?_
  refine j_iload (pc := 142) hX 3 dX10_year_142 rfl ?_
  refine j_iload (pc := 144) hX 0 dX10_year_144 rfl ?_
  refine j_if_eq (pc := 146) hX 153 dX10_year_146 (by decide) ?_ ?_
  · refine j_iconst (pc := 153) (v := (0 : Int32)) hX dX10_year_153 ci_0 ?_
    exact j_sub [1, 2, 4, 5, 0] rfl (wX10_year_154 hX fu   x3 x5 x6 s0 (0 : Int32) x4 M c111 hc111)
  · refine j_iconst (pc := 149) (v := (1 : Int32)) hX dX10_year_149 ci_1 ?_
    refine j_goto (pc := 150) hX 154 dX10_year_150 (by decide) ?_
    exact j_sub [1, 2, 4, 5, 0] rfl (wX10_year_154 hX fu   x3 x5 x6 s0 (1 : Int32) x4 M c111 hc111)
def pX10_year_111b (fu : Nat) (x3 : Int32) (x4 : Int32) (x5 : Int32) (x6 : Int32) (M : Mem) (c111 : Int32 → Int32 → Int32 → Int32 → Mem → Res) (c186 : Int32 → Int32 → Int32 → Mem → Res) : Res :=
  if (M 0 7) ≤ x6 then (
    c186 x3 x4 x5 M)
  else
  ld M 12 768 ((704 : Int32) + x6) fun v12 =>
  if v12 = (2 : Int32) then (
    pX10_year_140 fu  x3 x4 x5 x6 (1 : Int32) M c111)
  else
  pX10_year_140 fu  x3 x4 x5 x6 (0 : Int32) M c111
set_option maxRecDepth 100000 in
theorem wX10_year_111b {E : jE} {X : jC} (hX : jOk X uX10_year (gM E)) (fu : Nat)  (x3 : Int32) (x4 : Int32) (x5 : Int32) (x6 : Int32) (M : Mem) (c111 : Int32 → Int32 → Int32 → Int32 → Mem → Res) (c186 : Int32 → Int32 → Int32 → Mem → Res) (hc111 : ∀ (x3 : Int32) (x4 : Int32) (x5 : Int32) (x6 : Int32) (M : Mem), J X uX10_year (gM E) 111 [(0, .ref (gad (gM E) 0)), (3, .int x3), (4, .int x4), (5, .int x5), (6, .int x6)] [] M (c111 x3 x4 x5 x6 M)) (hc186 : ∀ (x3 : Int32) (x4 : Int32) (x5 : Int32) (M : Mem), J X uX10_year (gM E) 186 [(3, .int x3), (4, .int x4), (5, .int x5)] [] M (c186 x3 x4 x5 M)) : J X uX10_year (gM E) 111 [(0, .ref (gad (gM E) 0)), (3, .int x3), (4, .int x4), (5, .int x5), (6, .int x6)] [] M (pX10_year_111b fu  x3 x4 x5 x6 M c111 c186) := by
  unfold pX10_year_111b
  refine j_iload (pc := 111) hX 4 dX10_year_111 rfl ?_
  refine j_aload_n (pc := 113) hX 0 dX10_year_113 rfl rfl ?_
  refine j_getI (pc := 114) hX (jb rfl) rfl (ci := 9) (C := RX10) (T := TX10) (N := 30) rfl (jb rfl) inX10 (j := 7) (jb rfl) rfl tw_927 dX10_year_114 ?_
  refine j_icmp_ge (pc := 117) hX 186 dX10_year_117 (by decide) ?_ ?_
  · exact j_sub [1, 2, 3] rfl (hc186 x3 x4 x5 M)
  · refine j_aload_n (pc := 120) hX 0 dX10_year_120 rfl rfl ?_
    refine j_getR (pc := 121) (t := 12) hX (jb rfl) rfl (ci := 9) (C := RX10) (T := TX10) (N := 30) rfl (jb rfl) inX10 (j := 19) (jb rfl) rfl tw_939 dX10_year_121 ?_
    refine j_sipush (pc := 124) (v := (704 : Int32)) hX dX10_year_124 cs_704 ?_
    refine j_iload (pc := 127) hX 4 dX10_year_127 rfl ?_
    refine j_iadd (pc := 129) hX dX10_year_129 ?_
    refine j_iald (pc := 130) hX (jb rfl) rfl rfl dX10_year_130 (fun v12 => ?_)
    refine j_iconst (pc := 131) (v := (2 : Int32)) hX dX10_year_131 ci_2 ?_
    refine j_icmp_ne (pc := 132) hX 139 dX10_year_132 (by decide) ?_ ?_
    · refine j_iconst (pc := 139) (v := (0 : Int32)) hX dX10_year_139 ci_0 ?_
      exact j_sub [0, 1, 2, 3, 4] rfl (wX10_year_140 hX fu   x3 x4 x5 x6 (0 : Int32) M c111 hc111)
    · refine j_iconst (pc := 135) (v := (1 : Int32)) hX dX10_year_135 ci_1 ?_
      refine j_goto (pc := 136) hX 140 dX10_year_136 (by decide) ?_
      exact j_sub [0, 1, 2, 3, 4] rfl (wX10_year_140 hX fu   x3 x4 x5 x6 (1 : Int32) M c111 hc111)
def pX10_year_111 (fu : Nat) (c186 : Int32 → Int32 → Int32 → Mem → Res) : Nat → Int32 → Int32 → Int32 → Int32 → Mem → Res
  | 0, _, _, _, _, _ => none
  | n + 1, x3, x4, x5, x6, M => pX10_year_111b fu  x3 x4 x5 x6 M (pX10_year_111 fu  c186 n) c186
theorem wX10_year_111 {E : jE} {X : jC} (hX : jOk X uX10_year (gM E)) (fu : Nat)  (c186 : Int32 → Int32 → Int32 → Mem → Res) (hc186 : ∀ (x3 : Int32) (x4 : Int32) (x5 : Int32) (M : Mem), J X uX10_year (gM E) 186 [(3, .int x3), (4, .int x4), (5, .int x5)] [] M (c186 x3 x4 x5 M)) : ∀ (n : Nat) (x3 : Int32) (x4 : Int32) (x5 : Int32) (x6 : Int32) (M : Mem), J X uX10_year (gM E) 111 [(0, .ref (gad (gM E) 0)), (3, .int x3), (4, .int x4), (5, .int x5), (6, .int x6)] [] M (pX10_year_111 fu  c186 n x3 x4 x5 x6 M) := by
  intro n
  induction n with
  | zero => intro x3 x4 x5 x6 M; exact j_none
  | succ n ih => intro x3 x4 x5 x6 M; exact wX10_year_111b hX fu   x3 x4 x5 x6 M (pX10_year_111 fu  c186 n) c186 ih hc186
def pX10_year (fu : Nat) (x1 : Int32) (x2 : Int32) (x3 : Int32) (M : Mem) : Res :=
  bI (pX10_in fu (x1).toInt64 (0 : Int64) (9999 : Int64) M) fun r2 M1 =>
  if r2 = 0 then (
    some ((-1 : Int32), M1))
  else
  bI (pX10_in fu (x2).toInt64 (1 : Int64) (60 : Int64) M1) fun r4 M3 =>
  if r4 = 0 then (
    some ((-1 : Int32), M3))
  else
  bI (pX10_in fu (x3).toInt64 (0 : Int64) (1 : Int64) M3) fun r6 M5 =>
  if r6 = 0 then (
    some ((-1 : Int32), M5))
  else
  bV (pX10_copies fu (0 : Int32) (704 : Int32) M5) fun M7 =>
  pX10_year_47 fu
    (fun y10 M11 =>
      pX10_year_111 fu
        (fun y15 y16 y17 M18 =>
          if y15 = 0 then (
            some (y16, M18))
          else
          some (y17, M18))
        fu y10 (0 : Int32) (0 : Int32) (0 : Int32) M11)
    fu x1 x2 x3 (0 : Int32) M7
set_option maxRecDepth 100000 in
theorem wX10_year {E : jE} {X : jC} (hX : jOk X uX10_year (gM E)) (fu : Nat)  (x1 : Int32) (x2 : Int32) (x3 : Int32) (M : Mem) : J X uX10_year (gM E) 0 [(0, .ref (gad (gM E) 0)), (1, .int x1), (2, .int x2), (3, .int x3)] [] M (pX10_year fu  x1 x2 x3 M) := by
  unfold pX10_year
  refine j_iload_n (pc := 0) hX 1 dX10_year_0 rfl rfl ?_
  refine j_i2l (pc := 1) hX dX10_year_1 ?_
  refine j_lconst (pc := 2) (v := (0 : Int64)) hX dX10_year_2 rfl ?_
  refine j_ldc2 (pc := 3) (v := (9999 : Int64)) hX tw_1255 dX10_year_3 ?_
  refine j_callS (pc := 6) hX [.long (x1).toInt64, .long (0 : Int64), .long (9999 : Int64)] (mX10_in _ E hX.2.2.2.2.2.2.2.2.1 fu   (x1).toInt64 (0 : Int64) (9999 : Int64) M) qX10_in tw_1017 rfl ⟨rfl, rfl⟩ ⟨(Nat.le_of_ble_eq_true rfl), (Nat.le_of_ble_eq_true rfl)⟩ (Nat.le_of_ble_eq_true rfl) dX10_year_6 (fun _ => rfl) rfl (fun r2 M1 => ?_)
  refine j_if_eq (pc := 9) hX 34 dX10_year_9 (by decide) ?_ ?_
  · refine j_iconst (pc := 34) (v := (-1 : Int32)) hX dX10_year_34 ci_m1 ?_
    exact j_iret (pc := 35) hX rfl dX10_year_35
  · refine j_iload_n (pc := 12) hX 2 dX10_year_12 rfl rfl ?_
    refine j_i2l (pc := 13) hX dX10_year_13 ?_
    refine j_lconst (pc := 14) (v := (1 : Int64)) hX dX10_year_14 rfl ?_
    refine j_ldc2 (pc := 15) (v := (60 : Int64)) hX tw_1256 dX10_year_15 ?_
    refine j_callS (pc := 18) hX [.long (x2).toInt64, .long (1 : Int64), .long (60 : Int64)] (mX10_in _ E hX.2.2.2.2.2.2.2.2.1 fu   (x2).toInt64 (1 : Int64) (60 : Int64) M1) qX10_in tw_1017 rfl ⟨rfl, rfl⟩ ⟨(Nat.le_of_ble_eq_true rfl), (Nat.le_of_ble_eq_true rfl)⟩ (Nat.le_of_ble_eq_true rfl) dX10_year_18 (fun _ => rfl) rfl (fun r4 M3 => ?_)
    refine j_if_eq (pc := 21) hX 34 dX10_year_21 (by decide) ?_ ?_
    · refine j_iconst (pc := 34) (v := (-1 : Int32)) hX dX10_year_34 ci_m1 ?_
      exact j_iret (pc := 35) hX rfl dX10_year_35
    · refine j_iload_n (pc := 24) hX 3 dX10_year_24 rfl rfl ?_
      refine j_i2l (pc := 25) hX dX10_year_25 ?_
      refine j_lconst (pc := 26) (v := (0 : Int64)) hX dX10_year_26 rfl ?_
      refine j_lconst (pc := 27) (v := (1 : Int64)) hX dX10_year_27 rfl ?_
      refine j_callS (pc := 28) hX [.long (x3).toInt64, .long (0 : Int64), .long (1 : Int64)] (mX10_in _ E hX.2.2.2.2.2.2.2.2.1 fu   (x3).toInt64 (0 : Int64) (1 : Int64) M3) qX10_in tw_1017 rfl ⟨rfl, rfl⟩ ⟨(Nat.le_of_ble_eq_true rfl), (Nat.le_of_ble_eq_true rfl)⟩ (Nat.le_of_ble_eq_true rfl) dX10_year_28 (fun _ => rfl) rfl (fun r6 M5 => ?_)
      refine j_if_ne (pc := 31) hX 36 dX10_year_31 (by decide) ?_ ?_
      · refine j_aload_n (pc := 36) hX 0 dX10_year_36 rfl rfl ?_
        refine j_iconst (pc := 37) (v := (0 : Int32)) hX dX10_year_37 ci_0 ?_
        refine j_sipush (pc := 38) (v := (704 : Int32)) hX dX10_year_38 cs_704 ?_
        refine j_callVv (pc := 41) hX [.int (0 : Int32), .int (704 : Int32)] (mX10_copies _ E hX.2.2.2.2.2.2.2.2.1 fu   (0 : Int32) (704 : Int32) M5) qX10_copies tw_916 (jb rfl) rfl (ci := 9) (T := TX10) (N := 30) rfl (jb rfl) rfl ⟨rfl, rfl⟩ ⟨(Nat.le_of_ble_eq_true rfl), (Nat.le_of_ble_eq_true rfl)⟩ (Nat.le_of_ble_eq_true rfl) dX10_year_41 rfl (fun M7 => ?_)
        refine j_iconst (pc := 44) (v := (0 : Int32)) hX dX10_year_44 ci_0 ?_
        refine j_istore (pc := 45) (lv' := [(4, .int (0 : Int32)), (0, .ref (gad (gM E) 0)), (1, .int x1), (2, .int x2), (3, .int x3)]) hX dX10_year_45 (jb rfl) rfl ?_
        refine j_sub [1, 2, 3, 4, 0] rfl (wX10_year_47 hX fu   _ ?_ fu x1 x2 x3 (0 : Int32) M7)
        · intro y10 M11
          refine j_iconst (pc := 102) (v := (0 : Int32)) hX dX10_year_102 ci_0 ?_
          refine j_istore (pc := 103) (lv' := [(4, .int (0 : Int32)), (0, .ref (gad (gM E) 0)), (3, .int y10)]) hX dX10_year_103 (jb rfl) rfl ?_
          refine j_iconst (pc := 105) (v := (0 : Int32)) hX dX10_year_105 ci_0 ?_
          refine j_istore (pc := 106) (lv' := [(5, .int (0 : Int32)), (4, .int (0 : Int32)), (0, .ref (gad (gM E) 0)), (3, .int y10)]) hX dX10_year_106 (jb rfl) rfl ?_
          refine j_iconst (pc := 108) (v := (0 : Int32)) hX dX10_year_108 ci_0 ?_
          refine j_istore (pc := 109) (lv' := [(6, .int (0 : Int32)), (5, .int (0 : Int32)), (4, .int (0 : Int32)), (0, .ref (gad (gM E) 0)), (3, .int y10)]) hX dX10_year_109 (jb rfl) rfl ?_
          refine j_sub [3, 4, 2, 1, 0] rfl (wX10_year_111 hX fu   _ ?_ fu y10 (0 : Int32) (0 : Int32) (0 : Int32) M11)
          · intro y15 y16 y17 M18
            refine j_iload_n (pc := 186) hX 0 dX10_year_186 rfl rfl ?_
            refine j_if_ne (pc := 187) hX 195 dX10_year_187 (by decide) ?_ ?_
            · refine j_iload (pc := 195) hX 2 dX10_year_195 rfl ?_
              exact j_iret (pc := 197) hX rfl dX10_year_197
            · refine j_iload (pc := 190) hX 1 dX10_year_190 rfl ?_
              refine j_goto (pc := 192) hX 197 dX10_year_192 (by decide) ?_
              exact j_iret (pc := 197) hX rfl dX10_year_197
      · refine j_iconst (pc := 34) (v := (-1 : Int32)) hX dX10_year_34 ci_m1 ?_
        exact j_iret (pc := 35) hX rfl dX10_year_35
theorem mX10_year (l : Launch) (E : jE) (hI : jInj (gM E)) (fu : Nat)  (x1 : Int32) (x2 : Int32) (x3 : Int32) (M : Mem) : jMet l (gM E) yX10_year cX10_year 8 (some .int) rX10_year [.ref (gad (gM E) 0), .int x1, .int x2, .int x3] M (pX10_year fu  x1 x2 x3 M) :=
  j_entry hI (by decide +kernel) (Nat.le_of_ble_eq_true rfl) rfl (fun X _ hX => wX10_year hX fu   x1 x2 x3 M)
theorem qX10_keep : jYv yX10_keep cX10_keep 1 (some .int) 0 := ⟨tw_1265, tw_1266, tw_72, tw_1267, ⟨by decide +kernel, by decide +kernel, by decide +kernel⟩⟩
abbrev rX10_keep : Room := { frames := 1, cells := 0, slots := 0, locals := 23 }
def uX10_keep : jM := (cX10_keep, 1, RX10, (some .int), rX10_keep)
def pX10_keep (fu : Nat)  (M : Mem) : Res :=
  if (M 0 21) = (2 : Int32) then (
    some ((-3 : Int32), M))
  else
  bV (pX10_copies fu (0 : Int32) (((9 : Int32) + (M 0 21)) * (64 : Int32)) M) fun M1 =>
  fpt M1 0 21 ((M1 0 21) + (1 : Int32)) fun M2 =>
  some ((M2 0 21), M2)
set_option maxRecDepth 100000 in
theorem wX10_keep {E : jE} {X : jC} (hX : jOk X uX10_keep (gM E)) (fu : Nat)   (M : Mem) : J X uX10_keep (gM E) 0 [(0, .ref (gad (gM E) 0))] [] M (pX10_keep fu   M) := by
  unfold pX10_keep
  refine j_aload_n (pc := 0) hX 0 dX10_keep_0 rfl rfl ?_
  refine j_getI (pc := 1) hX (jb rfl) rfl (ci := 9) (C := RX10) (T := TX10) (N := 30) rfl (jb rfl) inX10 (j := 21) (jb rfl) rfl tw_941 dX10_keep_1 ?_
  refine j_iconst (pc := 4) (v := (2 : Int32)) hX dX10_keep_4 ci_2 ?_
  refine j_icmp_ne (pc := 5) hX 11 dX10_keep_5 (by decide) ?_ ?_
  · refine j_aload_n (pc := 11) hX 0 dX10_keep_11 rfl rfl ?_
    refine j_iconst (pc := 12) (v := (0 : Int32)) hX dX10_keep_12 ci_0 ?_
    refine j_bipush (pc := 13) (v := (9 : Int32)) hX dX10_keep_13 cb_9 ?_
    refine j_aload_n (pc := 15) hX 0 dX10_keep_15 rfl rfl ?_
    refine j_getI (pc := 16) hX (jb rfl) rfl (ci := 9) (C := RX10) (T := TX10) (N := 30) rfl (jb rfl) inX10 (j := 21) (jb rfl) rfl tw_941 dX10_keep_16 ?_
    refine j_iadd (pc := 19) hX dX10_keep_19 ?_
    refine j_bipush (pc := 20) (v := (64 : Int32)) hX dX10_keep_20 cb_64 ?_
    refine j_imul (pc := 22) hX dX10_keep_22 ?_
    refine j_callVv (pc := 23) hX [.int (0 : Int32), .int (((9 : Int32) + (M 0 21)) * (64 : Int32))] (mX10_copies _ E hX.2.2.2.2.2.2.2.2.1 fu   (0 : Int32) (((9 : Int32) + (M 0 21)) * (64 : Int32)) M) qX10_copies tw_916 (jb rfl) rfl (ci := 9) (T := TX10) (N := 30) rfl (jb rfl) rfl ⟨rfl, rfl⟩ ⟨(Nat.le_of_ble_eq_true rfl), (Nat.le_of_ble_eq_true rfl)⟩ (Nat.le_of_ble_eq_true rfl) dX10_keep_23 rfl (fun M1 => ?_)
    refine j_aload_n (pc := 26) hX 0 dX10_keep_26 rfl rfl ?_
    refine j_dup (pc := 27) hX dX10_keep_27 rfl ?_
    refine j_getI (pc := 28) hX (jb rfl) rfl (ci := 9) (C := RX10) (T := TX10) (N := 30) rfl (jb rfl) inX10 (j := 21) (jb rfl) rfl tw_941 dX10_keep_28 ?_
    refine j_iconst (pc := 31) (v := (1 : Int32)) hX dX10_keep_31 ci_1 ?_
    refine j_iadd (pc := 32) hX dX10_keep_32 ?_
    refine j_putI (pc := 33) hX (jb rfl) rfl (ci := 9) (C := RX10) (T := TX10) (N := 30) rfl (jb rfl) inX10 tyX10 tyX10_ok nmX10 (j := 21) (jb rfl) rfl tw_941 rfl (tyX10_ok 21 (jb rfl)) dX10_keep_33 (fun M2 => ?_)
    refine j_aload_n (pc := 36) hX 0 dX10_keep_36 rfl rfl ?_
    refine j_getI (pc := 37) hX (jb rfl) rfl (ci := 9) (C := RX10) (T := TX10) (N := 30) rfl (jb rfl) inX10 (j := 21) (jb rfl) rfl tw_941 dX10_keep_37 ?_
    exact j_iret (pc := 40) hX rfl dX10_keep_40
  · refine j_bipush (pc := 8) (v := (-3 : Int32)) hX dX10_keep_8 cb_m3 ?_
    exact j_iret (pc := 10) hX rfl dX10_keep_10
theorem mX10_keep (l : Launch) (E : jE) (hI : jInj (gM E)) (fu : Nat)   (M : Mem) : jMet l (gM E) yX10_keep cX10_keep 1 (some .int) rX10_keep [.ref (gad (gM E) 0)] M (pX10_keep fu   M) :=
  j_entry hI (by decide +kernel) (Nat.le_of_ble_eq_true rfl) rfl (fun X _ hX => wX10_keep hX fu    M)
theorem qX10_back : jYv yX10_back cX10_back 1 (some .int) 0 := ⟨tw_1269, tw_1270, tw_72, tw_1271, ⟨by decide +kernel, by decide +kernel, by decide +kernel⟩⟩
abbrev rX10_back : Room := { frames := 1, cells := 0, slots := 0, locals := 23 }
def uX10_back : jM := (cX10_back, 1, RX10, (some .int), rX10_back)
def pX10_back (fu : Nat)  (M : Mem) : Res :=
  if (M 0 21) = 0 then (
    some ((-2 : Int32), M))
  else
  fpt M 0 21 ((M 0 21) - (1 : Int32)) fun M1 =>
  bV (pX10_copies fu (((9 : Int32) + (M1 0 21)) * (64 : Int32)) (0 : Int32) M1) fun M2 =>
  fpt M2 0 20 (0 : Int32) fun M3 =>
  some ((M3 0 21), M3)
set_option maxRecDepth 100000 in
theorem wX10_back {E : jE} {X : jC} (hX : jOk X uX10_back (gM E)) (fu : Nat)   (M : Mem) : J X uX10_back (gM E) 0 [(0, .ref (gad (gM E) 0))] [] M (pX10_back fu   M) := by
  unfold pX10_back
  refine j_aload_n (pc := 0) hX 0 dX10_back_0 rfl rfl ?_
  refine j_getI (pc := 1) hX (jb rfl) rfl (ci := 9) (C := RX10) (T := TX10) (N := 30) rfl (jb rfl) inX10 (j := 21) (jb rfl) rfl tw_941 dX10_back_1 ?_
  refine j_if_ne (pc := 4) hX 10 dX10_back_4 (by decide) ?_ ?_
  · refine j_aload_n (pc := 10) hX 0 dX10_back_10 rfl rfl ?_
    refine j_dup (pc := 11) hX dX10_back_11 rfl ?_
    refine j_getI (pc := 12) hX (jb rfl) rfl (ci := 9) (C := RX10) (T := TX10) (N := 30) rfl (jb rfl) inX10 (j := 21) (jb rfl) rfl tw_941 dX10_back_12 ?_
    refine j_iconst (pc := 15) (v := (1 : Int32)) hX dX10_back_15 ci_1 ?_
    refine j_isub (pc := 16) hX dX10_back_16 ?_
    refine j_putI (pc := 17) hX (jb rfl) rfl (ci := 9) (C := RX10) (T := TX10) (N := 30) rfl (jb rfl) inX10 tyX10 tyX10_ok nmX10 (j := 21) (jb rfl) rfl tw_941 rfl (tyX10_ok 21 (jb rfl)) dX10_back_17 (fun M1 => ?_)
    refine j_aload_n (pc := 20) hX 0 dX10_back_20 rfl rfl ?_
    refine j_bipush (pc := 21) (v := (9 : Int32)) hX dX10_back_21 cb_9 ?_
    refine j_aload_n (pc := 23) hX 0 dX10_back_23 rfl rfl ?_
    refine j_getI (pc := 24) hX (jb rfl) rfl (ci := 9) (C := RX10) (T := TX10) (N := 30) rfl (jb rfl) inX10 (j := 21) (jb rfl) rfl tw_941 dX10_back_24 ?_
    refine j_iadd (pc := 27) hX dX10_back_27 ?_
    refine j_bipush (pc := 28) (v := (64 : Int32)) hX dX10_back_28 cb_64 ?_
    refine j_imul (pc := 30) hX dX10_back_30 ?_
    refine j_iconst (pc := 31) (v := (0 : Int32)) hX dX10_back_31 ci_0 ?_
    refine j_callVv (pc := 32) hX [.int (((9 : Int32) + (M1 0 21)) * (64 : Int32)), .int (0 : Int32)] (mX10_copies _ E hX.2.2.2.2.2.2.2.2.1 fu   (((9 : Int32) + (M1 0 21)) * (64 : Int32)) (0 : Int32) M1) qX10_copies tw_916 (jb rfl) rfl (ci := 9) (T := TX10) (N := 30) rfl (jb rfl) rfl ⟨rfl, rfl⟩ ⟨(Nat.le_of_ble_eq_true rfl), (Nat.le_of_ble_eq_true rfl)⟩ (Nat.le_of_ble_eq_true rfl) dX10_back_32 rfl (fun M2 => ?_)
    refine j_aload_n (pc := 35) hX 0 dX10_back_35 rfl rfl ?_
    refine j_iconst (pc := 36) (v := (0 : Int32)) hX dX10_back_36 ci_0 ?_
    refine j_putI (pc := 37) hX (jb rfl) rfl (ci := 9) (C := RX10) (T := TX10) (N := 30) rfl (jb rfl) inX10 tyX10 tyX10_ok nmX10 (j := 20) (jb rfl) rfl tw_940 rfl (tyX10_ok 20 (jb rfl)) dX10_back_37 (fun M3 => ?_)
    refine j_aload_n (pc := 40) hX 0 dX10_back_40 rfl rfl ?_
    refine j_getI (pc := 41) hX (jb rfl) rfl (ci := 9) (C := RX10) (T := TX10) (N := 30) rfl (jb rfl) inX10 (j := 21) (jb rfl) rfl tw_941 dX10_back_41 ?_
    exact j_iret (pc := 44) hX rfl dX10_back_44
  · refine j_bipush (pc := 7) (v := (-2 : Int32)) hX dX10_back_7 cb_m2 ?_
    exact j_iret (pc := 9) hX rfl dX10_back_9
theorem mX10_back (l : Launch) (E : jE) (hI : jInj (gM E)) (fu : Nat)   (M : Mem) : jMet l (gM E) yX10_back cX10_back 1 (some .int) rX10_back [.ref (gad (gM E) 0)] M (pX10_back fu   M) :=
  j_entry hI (by decide +kernel) (Nat.le_of_ble_eq_true rfl) rfl (fun X _ hX => wX10_back hX fu    M)
theorem qX10_many : jYv yX10_many cX10_many 4 (some .int) 1 := ⟨tw_1283, tw_54, tw_72, tw_1284, ⟨by decide +kernel, by decide +kernel, by decide +kernel⟩⟩
abbrev rX10_many : Room := { frames := 0, cells := 0, slots := 0, locals := 0 }
def uX10_many : jM := (cX10_many, 4, RX10, (some .int), rX10_many)
def pX10_many_28 (fu : Nat) (x1 : Int32) (x3 : Int32) (s0 : Int32) (s1 : Int32) (M : Mem) (c4 : Int32 → Int32 → Int32 → Mem → Res) : Res :=
  c4 x1 (s1 + s0) (x3 + (1 : Int32)) M
set_option maxRecDepth 100000 in
theorem wX10_many_28 {E : jE} {X : jC} (hX : jOk X uX10_many (gM E)) (fu : Nat)  (x1 : Int32) (x3 : Int32) (s0 : Int32) (s1 : Int32) (M : Mem) (c4 : Int32 → Int32 → Int32 → Mem → Res) (hc4 : ∀ (x1 : Int32) (x2 : Int32) (x3 : Int32) (M : Mem), J X uX10_many (gM E) 4 [(0, .ref (gad (gM E) 0)), (1, .int x1), (2, .int x2), (3, .int x3)] [] M (c4 x1 x2 x3 M)) : J X uX10_many (gM E) 28 [(0, .ref (gad (gM E) 0)), (1, .int x1), (3, .int x3)] [.int s0, .int s1] M (pX10_many_28 fu  x1 x3 s0 s1 M c4) := by
  unfold pX10_many_28
  refine j_iadd (pc := 28) hX dX10_many_28 ?_
  refine j_istore_n (pc := 29) (lv' := [(2, .int (s1 + s0)), (0, .ref (gad (gM E) 0)), (1, .int x1), (3, .int x3)]) hX dX10_many_29 rfl (jb rfl) rfl ?_
  refine j_iinc (pc := 30) (v := (x3 + (1 : Int32))) (lv' := [(3, .int (x3 + (1 : Int32))), (2, .int (s1 + s0)), (0, .ref (gad (gM E) 0)), (1, .int x1)]) hX 3 dX10_many_30 rfl (by rw [ci_1]) (jb rfl) rfl ?_
  refine j_goto (pc := 33) hX 4 dX10_many_33 (by decide) ?_
  exact j_sub [2, 3, 1, 0] rfl (hc4 x1 (s1 + s0) (x3 + (1 : Int32)) M)
def pX10_many_4b (fu : Nat) (x1 : Int32) (x2 : Int32) (x3 : Int32) (M : Mem) (c4 : Int32 → Int32 → Int32 → Mem → Res) : Res :=
  if (M 0 7) ≤ x3 then (
    some (x2, M))
  else
  ld M 12 768 x3 fun v1 =>
  if v1 = x1 then (
    pX10_many_28 fu  x1 x3 (1 : Int32) x2 M c4)
  else
  pX10_many_28 fu  x1 x3 (0 : Int32) x2 M c4
set_option maxRecDepth 100000 in
theorem wX10_many_4b {E : jE} {X : jC} (hX : jOk X uX10_many (gM E)) (fu : Nat)  (x1 : Int32) (x2 : Int32) (x3 : Int32) (M : Mem) (c4 : Int32 → Int32 → Int32 → Mem → Res) (hc4 : ∀ (x1 : Int32) (x2 : Int32) (x3 : Int32) (M : Mem), J X uX10_many (gM E) 4 [(0, .ref (gad (gM E) 0)), (1, .int x1), (2, .int x2), (3, .int x3)] [] M (c4 x1 x2 x3 M)) : J X uX10_many (gM E) 4 [(0, .ref (gad (gM E) 0)), (1, .int x1), (2, .int x2), (3, .int x3)] [] M (pX10_many_4b fu  x1 x2 x3 M c4) := by
  unfold pX10_many_4b
  refine j_iload_n (pc := 4) hX 3 dX10_many_4 rfl rfl ?_
  refine j_aload_n (pc := 5) hX 0 dX10_many_5 rfl rfl ?_
  refine j_getI (pc := 6) hX (jb rfl) rfl (ci := 9) (C := RX10) (T := TX10) (N := 30) rfl (jb rfl) inX10 (j := 7) (jb rfl) rfl tw_927 dX10_many_6 ?_
  refine j_icmp_ge (pc := 9) hX 36 dX10_many_9 (by decide) ?_ ?_
  · refine j_iload_n (pc := 36) hX 2 dX10_many_36 rfl rfl ?_
    exact j_iret (pc := 37) hX rfl dX10_many_37
  · refine j_iload_n (pc := 12) hX 2 dX10_many_12 rfl rfl ?_
    refine j_aload_n (pc := 13) hX 0 dX10_many_13 rfl rfl ?_
    refine j_getR (pc := 14) (t := 12) hX (jb rfl) rfl (ci := 9) (C := RX10) (T := TX10) (N := 30) rfl (jb rfl) inX10 (j := 19) (jb rfl) rfl tw_939 dX10_many_14 ?_
    refine j_iload_n (pc := 17) hX 3 dX10_many_17 rfl rfl ?_
    refine j_iald (pc := 18) hX (jb rfl) rfl rfl dX10_many_18 (fun v1 => ?_)
    refine j_iload_n (pc := 19) hX 1 dX10_many_19 rfl rfl ?_
    refine j_icmp_ne (pc := 20) hX 27 dX10_many_20 (by decide) ?_ ?_
    · refine j_iconst (pc := 27) (v := (0 : Int32)) hX dX10_many_27 ci_0 ?_
      exact j_sub [0, 1, 3] rfl (wX10_many_28 hX fu   x1 x3 (0 : Int32) x2 M c4 hc4)
    · refine j_iconst (pc := 23) (v := (1 : Int32)) hX dX10_many_23 ci_1 ?_
      refine j_goto (pc := 24) hX 28 dX10_many_24 (by decide) ?_
      exact j_sub [0, 1, 3] rfl (wX10_many_28 hX fu   x1 x3 (1 : Int32) x2 M c4 hc4)
def pX10_many_4 (fu : Nat)  : Nat → Int32 → Int32 → Int32 → Mem → Res
  | 0, _, _, _, _ => none
  | n + 1, x1, x2, x3, M => pX10_many_4b fu  x1 x2 x3 M (pX10_many_4 fu   n)
theorem wX10_many_4 {E : jE} {X : jC} (hX : jOk X uX10_many (gM E)) (fu : Nat)    : ∀ (n : Nat) (x1 : Int32) (x2 : Int32) (x3 : Int32) (M : Mem), J X uX10_many (gM E) 4 [(0, .ref (gad (gM E) 0)), (1, .int x1), (2, .int x2), (3, .int x3)] [] M (pX10_many_4 fu   n x1 x2 x3 M) := by
  intro n
  induction n with
  | zero => intro x1 x2 x3 M; exact j_none
  | succ n ih => intro x1 x2 x3 M; exact wX10_many_4b hX fu   x1 x2 x3 M (pX10_many_4 fu   n) ih
def pX10_many (fu : Nat) (x1 : Int32) (M : Mem) : Res :=
  pX10_many_4 fu
    fu x1 (0 : Int32) (0 : Int32) M
set_option maxRecDepth 100000 in
theorem wX10_many {E : jE} {X : jC} (hX : jOk X uX10_many (gM E)) (fu : Nat)  (x1 : Int32) (M : Mem) : J X uX10_many (gM E) 0 [(0, .ref (gad (gM E) 0)), (1, .int x1)] [] M (pX10_many fu  x1 M) := by
  unfold pX10_many
  refine j_iconst (pc := 0) (v := (0 : Int32)) hX dX10_many_0 ci_0 ?_
  refine j_istore_n (pc := 1) (lv' := [(2, .int (0 : Int32)), (0, .ref (gad (gM E) 0)), (1, .int x1)]) hX dX10_many_1 rfl (jb rfl) rfl ?_
  refine j_iconst (pc := 2) (v := (0 : Int32)) hX dX10_many_2 ci_0 ?_
  refine j_istore_n (pc := 3) (lv' := [(3, .int (0 : Int32)), (2, .int (0 : Int32)), (0, .ref (gad (gM E) 0)), (1, .int x1)]) hX dX10_many_3 rfl (jb rfl) rfl ?_
  refine j_sub [2, 3, 1, 0] rfl (wX10_many_4 hX fu     fu x1 (0 : Int32) (0 : Int32) M)
theorem mX10_many (l : Launch) (E : jE) (hI : jInj (gM E)) (fu : Nat)  (x1 : Int32) (M : Mem) : jMet l (gM E) yX10_many cX10_many 4 (some .int) rX10_many [.ref (gad (gM E) 0), .int x1] M (pX10_many fu  x1 M) :=
  j_entry hI (by decide +kernel) (Nat.le_of_ble_eq_true rfl) rfl (fun X _ hX => wX10_many hX fu   x1 M)
theorem qX10_allWays : jYv yX10_allWays cX10_allWays 3 (some .int) 0 := ⟨tw_1278, tw_53, tw_72, tw_1279, ⟨by decide +kernel, by decide +kernel, by decide +kernel⟩⟩
abbrev rX10_allWays : Room := { frames := 0, cells := 0, slots := 0, locals := 0 }
def uX10_allWays : jM := (cX10_allWays, 3, RX10, (some .int), rX10_allWays)
def pX10_allWays_36 (fu : Nat) (x2 : Int32) (s0 : Int32) (s1 : Int32) (M : Mem) (c4 : Int32 → Int32 → Mem → Res) : Res :=
  c4 (s1 + s0) (x2 + (1 : Int32)) M
set_option maxRecDepth 100000 in
theorem wX10_allWays_36 {E : jE} {X : jC} (hX : jOk X uX10_allWays (gM E)) (fu : Nat)  (x2 : Int32) (s0 : Int32) (s1 : Int32) (M : Mem) (c4 : Int32 → Int32 → Mem → Res) (hc4 : ∀ (x1 : Int32) (x2 : Int32) (M : Mem), J X uX10_allWays (gM E) 4 [(0, .ref (gad (gM E) 0)), (1, .int x1), (2, .int x2)] [] M (c4 x1 x2 M)) : J X uX10_allWays (gM E) 36 [(0, .ref (gad (gM E) 0)), (2, .int x2)] [.int s0, .int s1] M (pX10_allWays_36 fu  x2 s0 s1 M c4) := by
  unfold pX10_allWays_36
  refine j_iadd (pc := 36) hX dX10_allWays_36 ?_
  refine j_istore_n (pc := 37) (lv' := [(1, .int (s1 + s0)), (0, .ref (gad (gM E) 0)), (2, .int x2)]) hX dX10_allWays_37 rfl (jb rfl) rfl ?_
  refine j_iinc (pc := 38) (v := (x2 + (1 : Int32))) (lv' := [(2, .int (x2 + (1 : Int32))), (1, .int (s1 + s0)), (0, .ref (gad (gM E) 0))]) hX 2 dX10_allWays_38 rfl (by rw [ci_1]) (jb rfl) rfl ?_
  refine j_goto (pc := 41) hX 4 dX10_allWays_41 (by decide) ?_
  exact j_sub [2, 1, 0] rfl (hc4 (s1 + s0) (x2 + (1 : Int32)) M)
def pX10_allWays_35 (fu : Nat) (x2 : Int32) (s0 : Int32) (M : Mem) (c4 : Int32 → Int32 → Mem → Res) : Res :=
  pX10_allWays_36 fu  x2 (0 : Int32) s0 M c4
set_option maxRecDepth 100000 in
theorem wX10_allWays_35 {E : jE} {X : jC} (hX : jOk X uX10_allWays (gM E)) (fu : Nat)  (x2 : Int32) (s0 : Int32) (M : Mem) (c4 : Int32 → Int32 → Mem → Res) (hc4 : ∀ (x1 : Int32) (x2 : Int32) (M : Mem), J X uX10_allWays (gM E) 4 [(0, .ref (gad (gM E) 0)), (1, .int x1), (2, .int x2)] [] M (c4 x1 x2 M)) : J X uX10_allWays (gM E) 35 [(0, .ref (gad (gM E) 0)), (2, .int x2)] [.int s0] M (pX10_allWays_35 fu  x2 s0 M c4) := by
  unfold pX10_allWays_35
  refine j_iconst (pc := 35) (v := (0 : Int32)) hX dX10_allWays_35 ci_0 ?_
  exact j_sub [0, 1] rfl (wX10_allWays_36 hX fu   x2 (0 : Int32) s0 M c4 hc4)
def pX10_allWays_4b (fu : Nat) (x1 : Int32) (x2 : Int32) (M : Mem) (c4 : Int32 → Int32 → Mem → Res) : Res :=
  if (64 : Int32) ≤ x2 then (
    some (x1, M))
  else
  if (irm x2 (8 : Int32)) ≤ (x2 / (8 : Int32)) then (
    pX10_allWays_35 fu  x2 x1 M c4)
  else
  ld M 1 64 x2 fun v1 =>
  if v1 ≤ 0 then (
    pX10_allWays_35 fu  x2 x1 M c4)
  else
  pX10_allWays_36 fu  x2 (1 : Int32) x1 M c4
set_option maxRecDepth 100000 in
theorem wX10_allWays_4b {E : jE} {X : jC} (hX : jOk X uX10_allWays (gM E)) (fu : Nat)  (x1 : Int32) (x2 : Int32) (M : Mem) (c4 : Int32 → Int32 → Mem → Res) (hc4 : ∀ (x1 : Int32) (x2 : Int32) (M : Mem), J X uX10_allWays (gM E) 4 [(0, .ref (gad (gM E) 0)), (1, .int x1), (2, .int x2)] [] M (c4 x1 x2 M)) : J X uX10_allWays (gM E) 4 [(0, .ref (gad (gM E) 0)), (1, .int x1), (2, .int x2)] [] M (pX10_allWays_4b fu  x1 x2 M c4) := by
  unfold pX10_allWays_4b
  refine j_iload_n (pc := 4) hX 2 dX10_allWays_4 rfl rfl ?_
  refine j_bipush (pc := 5) (v := (64 : Int32)) hX dX10_allWays_5 cb_64 ?_
  refine j_icmp_ge (pc := 7) hX 44 dX10_allWays_7 (by decide) ?_ ?_
  · refine j_iload_n (pc := 44) hX 1 dX10_allWays_44 rfl rfl ?_
    exact j_iret (pc := 45) hX rfl dX10_allWays_45
  · refine j_iload_n (pc := 10) hX 1 dX10_allWays_10 rfl rfl ?_
    refine j_iload_n (pc := 11) hX 2 dX10_allWays_11 rfl rfl ?_
    refine j_bipush (pc := 12) (v := (8 : Int32)) hX dX10_allWays_12 cb_8 ?_
    refine j_idivC (pc := 14) hX dX10_allWays_14 (by decide) ?_
    refine j_iload_n (pc := 15) hX 2 dX10_allWays_15 rfl rfl ?_
    refine j_bipush (pc := 16) (v := (8 : Int32)) hX dX10_allWays_16 cb_8 ?_
    refine j_iremC (pc := 18) hX dX10_allWays_18 (by decide) ?_
    refine j_icmp_ge (pc := 19) hX 35 dX10_allWays_19 (by decide) ?_ ?_
    · exact j_sub [0, 2] rfl (wX10_allWays_35 hX fu   x2 x1 M c4 hc4)
    · refine j_aload_n (pc := 22) hX 0 dX10_allWays_22 rfl rfl ?_
      refine j_getR (pc := 23) (t := 1) hX (jb rfl) rfl (ci := 9) (C := RX10) (T := TX10) (N := 30) rfl (jb rfl) inX10 (j := 1) (jb rfl) rfl tw_921 dX10_allWays_23 ?_
      refine j_iload_n (pc := 26) hX 2 dX10_allWays_26 rfl rfl ?_
      refine j_iald (pc := 27) hX (jb rfl) rfl rfl dX10_allWays_27 (fun v1 => ?_)
      refine j_if_le (pc := 28) hX 35 dX10_allWays_28 (by decide) ?_ ?_
      · exact j_sub [0, 2] rfl (wX10_allWays_35 hX fu   x2 x1 M c4 hc4)
      · refine j_iconst (pc := 31) (v := (1 : Int32)) hX dX10_allWays_31 ci_1 ?_
        refine j_goto (pc := 32) hX 36 dX10_allWays_32 (by decide) ?_
        exact j_sub [0, 2] rfl (wX10_allWays_36 hX fu   x2 (1 : Int32) x1 M c4 hc4)
def pX10_allWays_4 (fu : Nat)  : Nat → Int32 → Int32 → Mem → Res
  | 0, _, _, _ => none
  | n + 1, x1, x2, M => pX10_allWays_4b fu  x1 x2 M (pX10_allWays_4 fu   n)
theorem wX10_allWays_4 {E : jE} {X : jC} (hX : jOk X uX10_allWays (gM E)) (fu : Nat)    : ∀ (n : Nat) (x1 : Int32) (x2 : Int32) (M : Mem), J X uX10_allWays (gM E) 4 [(0, .ref (gad (gM E) 0)), (1, .int x1), (2, .int x2)] [] M (pX10_allWays_4 fu   n x1 x2 M) := by
  intro n
  induction n with
  | zero => intro x1 x2 M; exact j_none
  | succ n ih => intro x1 x2 M; exact wX10_allWays_4b hX fu   x1 x2 M (pX10_allWays_4 fu   n) ih
def pX10_allWays (fu : Nat)  (M : Mem) : Res :=
  pX10_allWays_4 fu
    fu (0 : Int32) (0 : Int32) M
set_option maxRecDepth 100000 in
theorem wX10_allWays {E : jE} {X : jC} (hX : jOk X uX10_allWays (gM E)) (fu : Nat)   (M : Mem) : J X uX10_allWays (gM E) 0 [(0, .ref (gad (gM E) 0))] [] M (pX10_allWays fu   M) := by
  unfold pX10_allWays
  refine j_iconst (pc := 0) (v := (0 : Int32)) hX dX10_allWays_0 ci_0 ?_
  refine j_istore_n (pc := 1) (lv' := [(1, .int (0 : Int32)), (0, .ref (gad (gM E) 0))]) hX dX10_allWays_1 rfl (jb rfl) rfl ?_
  refine j_iconst (pc := 2) (v := (0 : Int32)) hX dX10_allWays_2 ci_0 ?_
  refine j_istore_n (pc := 3) (lv' := [(2, .int (0 : Int32)), (1, .int (0 : Int32)), (0, .ref (gad (gM E) 0))]) hX dX10_allWays_3 rfl (jb rfl) rfl ?_
  refine j_sub [2, 1, 0] rfl (wX10_allWays_4 hX fu     fu (0 : Int32) (0 : Int32) M)
theorem mX10_allWays (l : Launch) (E : jE) (hI : jInj (gM E)) (fu : Nat)   (M : Mem) : jMet l (gM E) yX10_allWays cX10_allWays 3 (some .int) rX10_allWays [.ref (gad (gM E) 0)] M (pX10_allWays fu   M) :=
  j_entry hI (by decide +kernel) (Nat.le_of_ble_eq_true rfl) rfl (fun X _ hX => wX10_allWays hX fu    M)
theorem qX10_allCarrots : jYv yX10_allCarrots cX10_allCarrots 3 (some .int) 0 := ⟨tw_1287, tw_55, tw_72, tw_1288, ⟨by decide +kernel, by decide +kernel, by decide +kernel⟩⟩
abbrev rX10_allCarrots : Room := { frames := 0, cells := 0, slots := 0, locals := 0 }
def uX10_allCarrots : jM := (cX10_allCarrots, 3, RX10, (some .int), rX10_allCarrots)
def pX10_allCarrots_4b (fu : Nat) (x1 : Int32) (x2 : Int32) (M : Mem) (c4 : Int32 → Int32 → Mem → Res) : Res :=
  if (M 0 0) ≤ x2 then (
    some (x1, M))
  else
  ld M 12 768 ((55 : Int32) + x2) fun v1 =>
  c4 (x1 + v1) (x2 + (1 : Int32)) M
set_option maxRecDepth 100000 in
theorem wX10_allCarrots_4b {E : jE} {X : jC} (hX : jOk X uX10_allCarrots (gM E)) (fu : Nat)  (x1 : Int32) (x2 : Int32) (M : Mem) (c4 : Int32 → Int32 → Mem → Res) (hc4 : ∀ (x1 : Int32) (x2 : Int32) (M : Mem), J X uX10_allCarrots (gM E) 4 [(0, .ref (gad (gM E) 0)), (1, .int x1), (2, .int x2)] [] M (c4 x1 x2 M)) : J X uX10_allCarrots (gM E) 4 [(0, .ref (gad (gM E) 0)), (1, .int x1), (2, .int x2)] [] M (pX10_allCarrots_4b fu  x1 x2 M c4) := by
  unfold pX10_allCarrots_4b
  refine j_iload_n (pc := 4) hX 2 dX10_allCarrots_4 rfl rfl ?_
  refine j_aload_n (pc := 5) hX 0 dX10_allCarrots_5 rfl rfl ?_
  refine j_getI (pc := 6) hX (jb rfl) rfl (ci := 9) (C := RX10) (T := TX10) (N := 30) rfl (jb rfl) inX10 (j := 0) (jb rfl) rfl tw_920 dX10_allCarrots_6 ?_
  refine j_icmp_ge (pc := 9) hX 30 dX10_allCarrots_9 (by decide) ?_ ?_
  · refine j_iload_n (pc := 30) hX 1 dX10_allCarrots_30 rfl rfl ?_
    exact j_iret (pc := 31) hX rfl dX10_allCarrots_31
  · refine j_iload_n (pc := 12) hX 1 dX10_allCarrots_12 rfl rfl ?_
    refine j_aload_n (pc := 13) hX 0 dX10_allCarrots_13 rfl rfl ?_
    refine j_getR (pc := 14) (t := 12) hX (jb rfl) rfl (ci := 9) (C := RX10) (T := TX10) (N := 30) rfl (jb rfl) inX10 (j := 19) (jb rfl) rfl tw_939 dX10_allCarrots_14 ?_
    refine j_bipush (pc := 17) (v := (55 : Int32)) hX dX10_allCarrots_17 cb_55 ?_
    refine j_iload_n (pc := 19) hX 2 dX10_allCarrots_19 rfl rfl ?_
    refine j_iadd (pc := 20) hX dX10_allCarrots_20 ?_
    refine j_iald (pc := 21) hX (jb rfl) rfl rfl dX10_allCarrots_21 (fun v1 => ?_)
    refine j_iadd (pc := 22) hX dX10_allCarrots_22 ?_
    refine j_istore_n (pc := 23) (lv' := [(1, .int (x1 + v1)), (0, .ref (gad (gM E) 0)), (2, .int x2)]) hX dX10_allCarrots_23 rfl (jb rfl) rfl ?_
    refine j_iinc (pc := 24) (v := (x2 + (1 : Int32))) (lv' := [(2, .int (x2 + (1 : Int32))), (1, .int (x1 + v1)), (0, .ref (gad (gM E) 0))]) hX 2 dX10_allCarrots_24 rfl (by rw [ci_1]) (jb rfl) rfl ?_
    refine j_goto (pc := 27) hX 4 dX10_allCarrots_27 (by decide) ?_
    exact j_sub [2, 1, 0] rfl (hc4 (x1 + v1) (x2 + (1 : Int32)) M)
def pX10_allCarrots_4 (fu : Nat)  : Nat → Int32 → Int32 → Mem → Res
  | 0, _, _, _ => none
  | n + 1, x1, x2, M => pX10_allCarrots_4b fu  x1 x2 M (pX10_allCarrots_4 fu   n)
theorem wX10_allCarrots_4 {E : jE} {X : jC} (hX : jOk X uX10_allCarrots (gM E)) (fu : Nat)    : ∀ (n : Nat) (x1 : Int32) (x2 : Int32) (M : Mem), J X uX10_allCarrots (gM E) 4 [(0, .ref (gad (gM E) 0)), (1, .int x1), (2, .int x2)] [] M (pX10_allCarrots_4 fu   n x1 x2 M) := by
  intro n
  induction n with
  | zero => intro x1 x2 M; exact j_none
  | succ n ih => intro x1 x2 M; exact wX10_allCarrots_4b hX fu   x1 x2 M (pX10_allCarrots_4 fu   n) ih
def pX10_allCarrots (fu : Nat)  (M : Mem) : Res :=
  pX10_allCarrots_4 fu
    fu (0 : Int32) (0 : Int32) M
set_option maxRecDepth 100000 in
theorem wX10_allCarrots {E : jE} {X : jC} (hX : jOk X uX10_allCarrots (gM E)) (fu : Nat)   (M : Mem) : J X uX10_allCarrots (gM E) 0 [(0, .ref (gad (gM E) 0))] [] M (pX10_allCarrots fu   M) := by
  unfold pX10_allCarrots
  refine j_iconst (pc := 0) (v := (0 : Int32)) hX dX10_allCarrots_0 ci_0 ?_
  refine j_istore_n (pc := 1) (lv' := [(1, .int (0 : Int32)), (0, .ref (gad (gM E) 0))]) hX dX10_allCarrots_1 rfl (jb rfl) rfl ?_
  refine j_iconst (pc := 2) (v := (0 : Int32)) hX dX10_allCarrots_2 ci_0 ?_
  refine j_istore_n (pc := 3) (lv' := [(2, .int (0 : Int32)), (1, .int (0 : Int32)), (0, .ref (gad (gM E) 0))]) hX dX10_allCarrots_3 rfl (jb rfl) rfl ?_
  refine j_sub [2, 1, 0] rfl (wX10_allCarrots_4 hX fu     fu (0 : Int32) (0 : Int32) M)
theorem mX10_allCarrots (l : Launch) (E : jE) (hI : jInj (gM E)) (fu : Nat)   (M : Mem) : jMet l (gM E) yX10_allCarrots cX10_allCarrots 3 (some .int) rX10_allCarrots [.ref (gad (gM E) 0)] M (pX10_allCarrots fu   M) :=
  j_entry hI (by decide +kernel) (Nat.le_of_ble_eq_true rfl) rfl (fun X _ hX => wX10_allCarrots hX fu    M)
theorem qX10_count : jYv yX10_count cX10_count 2 (some .int) 1 := ⟨tw_1273, tw_1274, tw_72, tw_1275, ⟨by decide +kernel, by decide +kernel, by decide +kernel⟩⟩
abbrev rX10_count : Room := { frames := 1, cells := 0, slots := 0, locals := 25 }
def uX10_count : jM := (cX10_count, 2, RX10, (some .int), rX10_count)
def pX10_count (fu : Nat) (x1 : Int32) (M : Mem) : Res :=
  if x1 = 0 then (
    some ((M 0 0), M))
  else
  if x1 = (1 : Int32) then (
    some ((M 0 4), M))
  else
  if x1 = (2 : Int32) then (
    some ((M 0 7), M))
  else
  if x1 = (3 : Int32) then (
    bI (pX10_allWays fu  M) fun r9 M8 =>
    some (r9, M8))
  else
  if x1 = (4 : Int32) then (
    ld M 12 768 (63 : Int32) fun v7 =>
    some (v7, M))
  else
  bI (pX10_in fu (x1).toInt64 (5 : Int64) (8 : Int64) M) fun r2 M1 =>
  if r2 = 0 then (
    if x1 = (9 : Int32) then (
      bI (pX10_allCarrots fu  M1) fun r4 M3 =>
      some (r4, M3))
    else
    if x1 = (10 : Int32) then (
      some ((M1 0 20), M1))
    else
    if x1 = (11 : Int32) then (
      some ((M1 0 21), M1))
    else
    if x1 = (12 : Int32) then (
      some ((M1 0 22), M1))
    else
    some ((-1 : Int32), M1))
  else
  bI (pX10_many fu (x1 - (5 : Int32)) M1) fun r6 M5 =>
  some (r6, M5)
set_option maxRecDepth 100000 in
theorem wX10_count {E : jE} {X : jC} (hX : jOk X uX10_count (gM E)) (fu : Nat)  (x1 : Int32) (M : Mem) : J X uX10_count (gM E) 0 [(0, .ref (gad (gM E) 0)), (1, .int x1)] [] M (pX10_count fu  x1 M) := by
  unfold pX10_count
  refine j_iload_n (pc := 0) hX 1 dX10_count_0 rfl rfl ?_
  refine j_if_ne (pc := 1) hX 11 dX10_count_1 (by decide) ?_ ?_
  · refine j_iload_n (pc := 11) hX 1 dX10_count_11 rfl rfl ?_
    refine j_iconst (pc := 12) (v := (1 : Int32)) hX dX10_count_12 ci_1 ?_
    refine j_icmp_ne (pc := 13) hX 23 dX10_count_13 (by decide) ?_ ?_
    · refine j_iload_n (pc := 23) hX 1 dX10_count_23 rfl rfl ?_
      refine j_iconst (pc := 24) (v := (2 : Int32)) hX dX10_count_24 ci_2 ?_
      refine j_icmp_ne (pc := 25) hX 35 dX10_count_25 (by decide) ?_ ?_
      · refine j_iload_n (pc := 35) hX 1 dX10_count_35 rfl rfl ?_
        refine j_iconst (pc := 36) (v := (3 : Int32)) hX dX10_count_36 ci_3 ?_
        refine j_icmp_ne (pc := 37) hX 47 dX10_count_37 (by decide) ?_ ?_
        · refine j_iload_n (pc := 47) hX 1 dX10_count_47 rfl rfl ?_
          refine j_iconst (pc := 48) (v := (4 : Int32)) hX dX10_count_48 ci_4 ?_
          refine j_icmp_ne (pc := 49) hX 62 dX10_count_49 (by decide) ?_ ?_
          · refine j_iload_n (pc := 62) hX 1 dX10_count_62 rfl rfl ?_
            refine j_i2l (pc := 63) hX dX10_count_63 ?_
            refine j_ldc2 (pc := 64) (v := (5 : Int64)) hX tw_1280 dX10_count_64 ?_
            refine j_ldc2 (pc := 67) (v := (8 : Int64)) hX tw_1249 dX10_count_67 ?_
            refine j_callS (pc := 70) hX [.long (x1).toInt64, .long (5 : Int64), .long (8 : Int64)] (mX10_in _ E hX.2.2.2.2.2.2.2.2.1 fu   (x1).toInt64 (5 : Int64) (8 : Int64) M) qX10_in tw_1017 rfl ⟨rfl, rfl⟩ ⟨(Nat.le_of_ble_eq_true rfl), (Nat.le_of_ble_eq_true rfl)⟩ (Nat.le_of_ble_eq_true rfl) dX10_count_70 (fun _ => rfl) rfl (fun r2 M1 => ?_)
            refine j_if_eq (pc := 73) hX 86 dX10_count_73 (by decide) ?_ ?_
            · refine j_iload_n (pc := 86) hX 1 dX10_count_86 rfl rfl ?_
              refine j_bipush (pc := 87) (v := (9 : Int32)) hX dX10_count_87 cb_9 ?_
              refine j_icmp_ne (pc := 89) hX 99 dX10_count_89 (by decide) ?_ ?_
              · refine j_iload_n (pc := 99) hX 1 dX10_count_99 rfl rfl ?_
                refine j_bipush (pc := 100) (v := (10 : Int32)) hX dX10_count_100 cb_10 ?_
                refine j_icmp_ne (pc := 102) hX 112 dX10_count_102 (by decide) ?_ ?_
                · refine j_iload_n (pc := 112) hX 1 dX10_count_112 rfl rfl ?_
                  refine j_bipush (pc := 113) (v := (11 : Int32)) hX dX10_count_113 cb_11 ?_
                  refine j_icmp_ne (pc := 115) hX 125 dX10_count_115 (by decide) ?_ ?_
                  · refine j_iload_n (pc := 125) hX 1 dX10_count_125 rfl rfl ?_
                    refine j_bipush (pc := 126) (v := (12 : Int32)) hX dX10_count_126 cb_12 ?_
                    refine j_icmp_ne (pc := 128) hX 138 dX10_count_128 (by decide) ?_ ?_
                    · refine j_iconst (pc := 138) (v := (-1 : Int32)) hX dX10_count_138 ci_m1 ?_
                      exact j_iret (pc := 139) hX rfl dX10_count_139
                    · refine j_aload_n (pc := 131) hX 0 dX10_count_131 rfl rfl ?_
                      refine j_getI (pc := 132) hX (jb rfl) rfl (ci := 9) (C := RX10) (T := TX10) (N := 30) rfl (jb rfl) inX10 (j := 22) (jb rfl) rfl tw_942 dX10_count_132 ?_
                      refine j_goto (pc := 135) hX 139 dX10_count_135 (by decide) ?_
                      exact j_iret (pc := 139) hX rfl dX10_count_139
                  · refine j_aload_n (pc := 118) hX 0 dX10_count_118 rfl rfl ?_
                    refine j_getI (pc := 119) hX (jb rfl) rfl (ci := 9) (C := RX10) (T := TX10) (N := 30) rfl (jb rfl) inX10 (j := 21) (jb rfl) rfl tw_941 dX10_count_119 ?_
                    refine j_goto (pc := 122) hX 139 dX10_count_122 (by decide) ?_
                    exact j_iret (pc := 139) hX rfl dX10_count_139
                · refine j_aload_n (pc := 105) hX 0 dX10_count_105 rfl rfl ?_
                  refine j_getI (pc := 106) hX (jb rfl) rfl (ci := 9) (C := RX10) (T := TX10) (N := 30) rfl (jb rfl) inX10 (j := 20) (jb rfl) rfl tw_940 dX10_count_106 ?_
                  refine j_goto (pc := 109) hX 139 dX10_count_109 (by decide) ?_
                  exact j_iret (pc := 139) hX rfl dX10_count_139
              · refine j_aload_n (pc := 92) hX 0 dX10_count_92 rfl rfl ?_
                refine j_callV (pc := 93) hX [] (mX10_allCarrots _ E hX.2.2.2.2.2.2.2.2.1 fu    M1) qX10_allCarrots tw_1285 (jb rfl) rfl (ci := 9) (T := TX10) (N := 30) rfl (jb rfl) rfl ⟨rfl, rfl⟩ ⟨(Nat.le_of_ble_eq_true rfl), (Nat.le_of_ble_eq_true rfl)⟩ (Nat.le_of_ble_eq_true rfl) dX10_count_93 (fun _ => rfl) rfl (fun r4 M3 => ?_)
                refine j_goto (pc := 96) hX 139 dX10_count_96 (by decide) ?_
                exact j_iret (pc := 139) hX rfl dX10_count_139
            · refine j_aload_n (pc := 76) hX 0 dX10_count_76 rfl rfl ?_
              refine j_iload_n (pc := 77) hX 1 dX10_count_77 rfl rfl ?_
              refine j_iconst (pc := 78) (v := (5 : Int32)) hX dX10_count_78 ci_5 ?_
              refine j_isub (pc := 79) hX dX10_count_79 ?_
              refine j_callV (pc := 80) hX [.int (x1 - (5 : Int32))] (mX10_many _ E hX.2.2.2.2.2.2.2.2.1 fu   (x1 - (5 : Int32)) M1) qX10_many tw_1281 (jb rfl) rfl (ci := 9) (T := TX10) (N := 30) rfl (jb rfl) rfl ⟨rfl, rfl⟩ ⟨(Nat.le_of_ble_eq_true rfl), (Nat.le_of_ble_eq_true rfl)⟩ (Nat.le_of_ble_eq_true rfl) dX10_count_80 (fun _ => rfl) rfl (fun r6 M5 => ?_)
              refine j_goto (pc := 83) hX 139 dX10_count_83 (by decide) ?_
              exact j_iret (pc := 139) hX rfl dX10_count_139
          · refine j_aload_n (pc := 52) hX 0 dX10_count_52 rfl rfl ?_
            refine j_getR (pc := 53) (t := 12) hX (jb rfl) rfl (ci := 9) (C := RX10) (T := TX10) (N := 30) rfl (jb rfl) inX10 (j := 19) (jb rfl) rfl tw_939 dX10_count_53 ?_
            refine j_bipush (pc := 56) (v := (63 : Int32)) hX dX10_count_56 cb_63 ?_
            refine j_iald (pc := 58) hX (jb rfl) rfl rfl dX10_count_58 (fun v7 => ?_)
            refine j_goto (pc := 59) hX 139 dX10_count_59 (by decide) ?_
            exact j_iret (pc := 139) hX rfl dX10_count_139
        · refine j_aload_n (pc := 40) hX 0 dX10_count_40 rfl rfl ?_
          refine j_callV (pc := 41) hX [] (mX10_allWays _ E hX.2.2.2.2.2.2.2.2.1 fu    M) qX10_allWays tw_1276 (jb rfl) rfl (ci := 9) (T := TX10) (N := 30) rfl (jb rfl) rfl ⟨rfl, rfl⟩ ⟨(Nat.le_of_ble_eq_true rfl), (Nat.le_of_ble_eq_true rfl)⟩ (Nat.le_of_ble_eq_true rfl) dX10_count_41 (fun _ => rfl) rfl (fun r9 M8 => ?_)
          refine j_goto (pc := 44) hX 139 dX10_count_44 (by decide) ?_
          exact j_iret (pc := 139) hX rfl dX10_count_139
      · refine j_aload_n (pc := 28) hX 0 dX10_count_28 rfl rfl ?_
        refine j_getI (pc := 29) hX (jb rfl) rfl (ci := 9) (C := RX10) (T := TX10) (N := 30) rfl (jb rfl) inX10 (j := 7) (jb rfl) rfl tw_927 dX10_count_29 ?_
        refine j_goto (pc := 32) hX 139 dX10_count_32 (by decide) ?_
        exact j_iret (pc := 139) hX rfl dX10_count_139
    · refine j_aload_n (pc := 16) hX 0 dX10_count_16 rfl rfl ?_
      refine j_getI (pc := 17) hX (jb rfl) rfl (ci := 9) (C := RX10) (T := TX10) (N := 30) rfl (jb rfl) inX10 (j := 4) (jb rfl) rfl tw_924 dX10_count_17 ?_
      refine j_goto (pc := 20) hX 139 dX10_count_20 (by decide) ?_
      exact j_iret (pc := 139) hX rfl dX10_count_139
  · refine j_aload_n (pc := 4) hX 0 dX10_count_4 rfl rfl ?_
    refine j_getI (pc := 5) hX (jb rfl) rfl (ci := 9) (C := RX10) (T := TX10) (N := 30) rfl (jb rfl) inX10 (j := 0) (jb rfl) rfl tw_920 dX10_count_5 ?_
    refine j_goto (pc := 8) hX 139 dX10_count_8 (by decide) ?_
    exact j_iret (pc := 139) hX rfl dX10_count_139
theorem mX10_count (l : Launch) (E : jE) (hI : jInj (gM E)) (fu : Nat)  (x1 : Int32) (M : Mem) : jMet l (gM E) yX10_count cX10_count 2 (some .int) rX10_count [.ref (gad (gM E) 0), .int x1] M (pX10_count fu  x1 M) :=
  j_entry hI (by decide +kernel) (Nat.le_of_ble_eq_true rfl) rfl (fun X _ hX => wX10_count hX fu   x1 M)
