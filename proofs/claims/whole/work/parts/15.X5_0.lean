theorem dX5_add_0 : decode cX5_add 0 = .ok (.aload_n 0, 1) := by decide +kernel
theorem dX5_add_1 : decode cX5_add 1 = .ok (.getfield 15, 3) := by decide +kernel
theorem dX5_add_4 : decode cX5_add 4 = .ok (.ifCond .lt 15, 3) := by decide +kernel
theorem dX5_add_7 : decode cX5_add 7 = .ok (.aload_n 0, 1) := by decide +kernel
theorem dX5_add_8 : decode cX5_add 8 = .ok (.getfield 15, 3) := by decide +kernel
theorem dX5_add_11 : decode cX5_add 11 = .ok (.aload_n 0, 1) := by decide +kernel
theorem dX5_add_12 : decode cX5_add 12 = .ok (.getfield 9, 3) := by decide +kernel
theorem dX5_add_15 : decode cX5_add 15 = .ok (.arraylength, 1) := by decide +kernel
theorem dX5_add_16 : decode cX5_add 16 = .ok (.if_icmp .lt 5, 3) := by decide +kernel
theorem dX5_add_19 : decode cX5_add 19 = .ok (.iconst 0, 1) := by decide +kernel
theorem dX5_add_20 : decode cX5_add 20 = .ok (.ireturn, 1) := by decide +kernel
theorem dX5_add_21 : decode cX5_add 21 = .ok (.aload_n 0, 1) := by decide +kernel
theorem dX5_add_22 : decode cX5_add 22 = .ok (.getfield 9, 3) := by decide +kernel
theorem dX5_add_25 : decode cX5_add 25 = .ok (.aload_n 0, 1) := by decide +kernel
theorem dX5_add_26 : decode cX5_add 26 = .ok (.getfield 15, 3) := by decide +kernel
theorem dX5_add_29 : decode cX5_add 29 = .ok (.iload_n 1, 1) := by decide +kernel
theorem dX5_add_30 : decode cX5_add 30 = .ok (.castore, 1) := by decide +kernel
theorem dX5_add_31 : decode cX5_add 31 = .ok (.aload_n 0, 1) := by decide +kernel
theorem dX5_add_32 : decode cX5_add 32 = .ok (.dup, 1) := by decide +kernel
theorem dX5_add_33 : decode cX5_add 33 = .ok (.getfield 15, 3) := by decide +kernel
theorem dX5_add_36 : decode cX5_add 36 = .ok (.iconst 1, 1) := by decide +kernel
theorem dX5_add_37 : decode cX5_add 37 = .ok (.iadd, 1) := by decide +kernel
theorem dX5_add_38 : decode cX5_add 38 = .ok (.putfield 15, 3) := by decide +kernel
theorem dX5_add_41 : decode cX5_add 41 = .ok (.iconst 1, 1) := by decide +kernel
theorem dX5_add_42 : decode cX5_add 42 = .ok (.ireturn, 1) := by decide +kernel
theorem dX5_at_0 : decode cX5_at 0 = .ok (.iload_n 1, 1) := by decide +kernel
theorem dX5_at_1 : decode cX5_at 1 = .ok (.ifCond .lt 29, 3) := by decide +kernel
theorem dX5_at_4 : decode cX5_at 4 = .ok (.iload_n 1, 1) := by decide +kernel
theorem dX5_at_5 : decode cX5_at 5 = .ok (.aload_n 0, 1) := by decide +kernel
theorem dX5_at_6 : decode cX5_at 6 = .ok (.getfield 15, 3) := by decide +kernel
theorem dX5_at_9 : decode cX5_at 9 = .ok (.if_icmp .ge 21, 3) := by decide +kernel
theorem dX5_at_12 : decode cX5_at 12 = .ok (.iload_n 1, 1) := by decide +kernel
theorem dX5_at_13 : decode cX5_at 13 = .ok (.aload_n 0, 1) := by decide +kernel
theorem dX5_at_14 : decode cX5_at 14 = .ok (.getfield 9, 3) := by decide +kernel
theorem dX5_at_17 : decode cX5_at 17 = .ok (.arraylength, 1) := by decide +kernel
theorem dX5_at_18 : decode cX5_at 18 = .ok (.if_icmp .ge 12, 3) := by decide +kernel
theorem dX5_at_21 : decode cX5_at 21 = .ok (.aload_n 0, 1) := by decide +kernel
theorem dX5_at_22 : decode cX5_at 22 = .ok (.getfield 9, 3) := by decide +kernel
theorem dX5_at_25 : decode cX5_at 25 = .ok (.iload_n 1, 1) := by decide +kernel
theorem dX5_at_26 : decode cX5_at 26 = .ok (.caload, 1) := by decide +kernel
theorem dX5_at_27 : decode cX5_at 27 = .ok (.goto 5, 3) := by decide +kernel
theorem dX5_at_30 : decode cX5_at 30 = .ok (.bipush 32, 2) := by decide +kernel
theorem dX5_at_32 : decode cX5_at 32 = .ok (.ireturn, 1) := by decide +kernel
theorem dX5_length_0 : decode cX5_length 0 = .ok (.aload_n 0, 1) := by decide +kernel
theorem dX5_length_1 : decode cX5_length 1 = .ok (.getfield 15, 3) := by decide +kernel
theorem dX5_length_4 : decode cX5_length 4 = .ok (.ireturn, 1) := by decide +kernel
theorem dX5_clear_0 : decode cX5_clear 0 = .ok (.aload_n 0, 1) := by decide +kernel
theorem dX5_clear_1 : decode cX5_clear 1 = .ok (.iconst 0, 1) := by decide +kernel
theorem dX5_clear_2 : decode cX5_clear 2 = .ok (.putfield 15, 3) := by decide +kernel
theorem dX5_clear_5 : decode cX5_clear 5 = .ok (.return_, 1) := by decide +kernel
theorem dX7_split_0 : decode cX7_split 0 = .ok (.aload_n 0, 1) := by decide +kernel
theorem dX7_split_1 : decode cX7_split 1 = .ok (.iconst 0, 1) := by decide +kernel
theorem dX7_split_2 : decode cX7_split 2 = .ok (.putfield 15, 3) := by decide +kernel
theorem dX7_split_5 : decode cX7_split 5 = .ok (.iconst 0, 1) := by decide +kernel
theorem dX7_split_6 : decode cX7_split 6 = .ok (.istore_n 3, 1) := by decide +kernel
theorem dX7_split_7 : decode cX7_split 7 = .ok (.iconst 0, 1) := by decide +kernel
theorem dX7_split_8 : decode cX7_split 8 = .ok (.istore 4, 2) := by decide +kernel
theorem dX7_split_10 : decode cX7_split 10 = .ok (.iload_n 2, 1) := by decide +kernel
theorem dX7_split_11 : decode cX7_split 11 = .ok (.iconst 1, 1) := by decide +kernel
theorem dX7_split_12 : decode cX7_split 12 = .ok (.iadd, 1) := by decide +kernel
theorem dX7_split_13 : decode cX7_split 13 = .ok (.istore 5, 2) := by decide +kernel
theorem dX7_split_15 : decode cX7_split 15 = .ok (.iload 5, 2) := by decide +kernel
theorem dX7_split_17 : decode cX7_split 17 = .ok (.aload_n 1, 1) := by decide +kernel
theorem dX7_split_18 : decode cX7_split 18 = .ok (.invokevirtual 27, 3) := by decide +kernel
theorem dX7_split_21 : decode cX7_split 21 = .ok (.if_icmp .ge 127, 3) := by decide +kernel
theorem dX7_split_24 : decode cX7_split 24 = .ok (.aload_n 1, 1) := by decide +kernel
theorem dX7_split_25 : decode cX7_split 25 = .ok (.iload 5, 2) := by decide +kernel
theorem dX7_split_27 : decode cX7_split 27 = .ok (.invokevirtual 33, 3) := by decide +kernel
theorem dX7_split_30 : decode cX7_split 30 = .ok (.istore 6, 2) := by decide +kernel
theorem dX7_split_32 : decode cX7_split 32 = .ok (.iload 6, 2) := by decide +kernel
theorem dX7_split_34 : decode cX7_split 34 = .ok (.bipush 48, 2) := by decide +kernel
theorem dX7_split_36 : decode cX7_split 36 = .ok (.if_icmp .lt 33, 3) := by decide +kernel
theorem dX7_split_39 : decode cX7_split 39 = .ok (.iload 6, 2) := by decide +kernel
theorem dX7_split_41 : decode cX7_split 41 = .ok (.bipush 57, 2) := by decide +kernel
theorem dX7_split_43 : decode cX7_split 43 = .ok (.if_icmp .gt 26, 3) := by decide +kernel
theorem dX7_split_46 : decode cX7_split 46 = .ok (.iload 4, 2) := by decide +kernel
theorem dX7_split_48 : decode cX7_split 48 = .ok (.iconst 2, 1) := by decide +kernel
theorem dX7_split_49 : decode cX7_split 49 = .ok (.if_icmp .ge 20, 3) := by decide +kernel
theorem dX7_split_52 : decode cX7_split 52 = .ok (.iload_n 3, 1) := by decide +kernel
theorem dX7_split_53 : decode cX7_split 53 = .ok (.bipush 10, 2) := by decide +kernel
theorem dX7_split_55 : decode cX7_split 55 = .ok (.imul, 1) := by decide +kernel
theorem dX7_split_56 : decode cX7_split 56 = .ok (.iload 6, 2) := by decide +kernel
theorem dX7_split_58 : decode cX7_split 58 = .ok (.bipush 48, 2) := by decide +kernel
theorem dX7_split_60 : decode cX7_split 60 = .ok (.isub, 1) := by decide +kernel
theorem dX7_split_61 : decode cX7_split 61 = .ok (.iadd, 1) := by decide +kernel
theorem dX7_split_62 : decode cX7_split 62 = .ok (.istore_n 3, 1) := by decide +kernel
theorem dX7_split_63 : decode cX7_split 63 = .ok (.iinc 4 1, 3) := by decide +kernel
theorem dX7_split_66 : decode cX7_split 66 = .ok (.goto 76, 3) := by decide +kernel
theorem dX7_split_69 : decode cX7_split 69 = .ok (.iload 6, 2) := by decide +kernel
theorem dX7_split_71 : decode cX7_split 71 = .ok (.bipush 44, 2) := by decide +kernel
theorem dX7_split_73 : decode cX7_split 73 = .ok (.if_icmp .eq 10, 3) := by decide +kernel
theorem dX7_split_76 : decode cX7_split 76 = .ok (.iload 6, 2) := by decide +kernel
theorem dX7_split_78 : decode cX7_split 78 = .ok (.bipush 59, 2) := by decide +kernel
theorem dX7_split_80 : decode cX7_split 80 = .ok (.if_icmp .ne 60, 3) := by decide +kernel
theorem dX7_split_83 : decode cX7_split 83 = .ok (.iload 4, 2) := by decide +kernel
theorem dX7_split_85 : decode cX7_split 85 = .ok (.ifCond .le 55, 3) := by decide +kernel
theorem dX7_split_88 : decode cX7_split 88 = .ok (.aload_n 0, 1) := by decide +kernel
theorem dX7_split_89 : decode cX7_split 89 = .ok (.getfield 15, 3) := by decide +kernel
theorem dX7_split_92 : decode cX7_split 92 = .ok (.iconst 3, 1) := by decide +kernel
theorem dX7_split_93 : decode cX7_split 93 = .ok (.if_icmp .ge 47, 3) := by decide +kernel
theorem dX7_split_96 : decode cX7_split 96 = .ok (.aload_n 0, 1) := by decide +kernel
theorem dX7_split_97 : decode cX7_split 97 = .ok (.getfield 11, 3) := by decide +kernel
theorem dX7_split_100 : decode cX7_split 100 = .ok (.aload_n 0, 1) := by decide +kernel
theorem dX7_split_101 : decode cX7_split 101 = .ok (.getfield 15, 3) := by decide +kernel
theorem dX7_split_104 : decode cX7_split 104 = .ok (.iload_n 3, 1) := by decide +kernel
theorem dX7_split_105 : decode cX7_split 105 = .ok (.invokestatic 45, 3) := by decide +kernel
theorem dX7_split_108 : decode cX7_split 108 = .ok (.aload_n 0, 1) := by decide +kernel
theorem dX7_split_109 : decode cX7_split 109 = .ok (.dup, 1) := by decide +kernel
theorem dX7_split_110 : decode cX7_split 110 = .ok (.getfield 15, 3) := by decide +kernel
theorem dX7_split_113 : decode cX7_split 113 = .ok (.iconst 1, 1) := by decide +kernel
theorem dX7_split_114 : decode cX7_split 114 = .ok (.iadd, 1) := by decide +kernel
theorem dX7_split_115 : decode cX7_split 115 = .ok (.putfield 15, 3) := by decide +kernel
theorem dX7_split_118 : decode cX7_split 118 = .ok (.iconst 0, 1) := by decide +kernel
theorem dX7_split_119 : decode cX7_split 119 = .ok (.istore_n 3, 1) := by decide +kernel
theorem dX7_split_120 : decode cX7_split 120 = .ok (.iconst 0, 1) := by decide +kernel
theorem dX7_split_121 : decode cX7_split 121 = .ok (.istore 4, 2) := by decide +kernel
theorem dX7_split_123 : decode cX7_split 123 = .ok (.iload 6, 2) := by decide +kernel
theorem dX7_split_125 : decode cX7_split 125 = .ok (.bipush 59, 2) := by decide +kernel
theorem dX7_split_127 : decode cX7_split 127 = .ok (.if_icmp .ne 15, 3) := by decide +kernel
theorem dX7_split_130 : decode cX7_split 130 = .ok (.aload_n 0, 1) := by decide +kernel
theorem dX7_split_131 : decode cX7_split 131 = .ok (.iload 5, 2) := by decide +kernel
theorem dX7_split_133 : decode cX7_split 133 = .ok (.iconst 1, 1) := by decide +kernel
theorem dX7_split_134 : decode cX7_split 134 = .ok (.iadd, 1) := by decide +kernel
theorem dX7_split_135 : decode cX7_split 135 = .ok (.putfield 19, 3) := by decide +kernel
theorem dX7_split_138 : decode cX7_split 138 = .ok (.iconst 1, 1) := by decide +kernel
theorem dX7_split_139 : decode cX7_split 139 = .ok (.ireturn, 1) := by decide +kernel
theorem dX7_split_140 : decode cX7_split 140 = .ok (.iconst 0, 1) := by decide +kernel
theorem dX7_split_141 : decode cX7_split 141 = .ok (.ireturn, 1) := by decide +kernel
theorem dX7_split_142 : decode cX7_split 142 = .ok (.iinc 5 1, 3) := by decide +kernel
theorem dX7_split_145 : decode cX7_split 145 = .ok (.goto (-130), 3) := by decide +kernel
theorem dX7_split_148 : decode cX7_split 148 = .ok (.iconst 0, 1) := by decide +kernel
theorem dX7_split_149 : decode cX7_split 149 = .ok (.ireturn, 1) := by decide +kernel
theorem dX7_take_0 : decode cX7_take 0 = .ok (.aload_n 0, 1) := by decide +kernel
theorem dX7_take_1 : decode cX7_take 1 = .ok (.getfield 11, 3) := by decide +kernel
theorem dX7_take_4 : decode cX7_take 4 = .ok (.iconst 0, 1) := by decide +kernel
theorem dX7_take_5 : decode cX7_take 5 = .ok (.invokestatic 51, 3) := by decide +kernel
theorem dX7_take_8 : decode cX7_take 8 = .ok (.istore_n 3, 1) := by decide +kernel
theorem dX7_take_9 : decode cX7_take 9 = .ok (.aload_n 0, 1) := by decide +kernel
theorem dX7_take_10 : decode cX7_take 10 = .ok (.getfield 11, 3) := by decide +kernel
theorem dX7_take_13 : decode cX7_take 13 = .ok (.iconst 1, 1) := by decide +kernel
theorem dX7_take_14 : decode cX7_take 14 = .ok (.invokestatic 51, 3) := by decide +kernel
theorem dX7_take_17 : decode cX7_take 17 = .ok (.istore 4, 2) := by decide +kernel
theorem dX7_take_19 : decode cX7_take 19 = .ok (.aload_n 0, 1) := by decide +kernel
theorem dX7_take_20 : decode cX7_take 20 = .ok (.getfield 11, 3) := by decide +kernel
theorem dX7_take_23 : decode cX7_take 23 = .ok (.iconst 2, 1) := by decide +kernel
theorem dX7_take_24 : decode cX7_take 24 = .ok (.invokestatic 51, 3) := by decide +kernel
theorem dX7_take_27 : decode cX7_take 27 = .ok (.istore 5, 2) := by decide +kernel
theorem dX7_take_29 : decode cX7_take 29 = .ok (.iload_n 1, 1) := by decide +kernel
theorem dX7_take_30 : decode cX7_take 30 = .ok (.lookupswitch 202 #[(98, 130), (99, 156), (100, 106), (109, 180), (110, 58), (119, 80)], 58) := by decide +kernel
theorem dX7_take_88 : decode cX7_take 88 = .ok (.aload_n 0, 1) := by decide +kernel
theorem dX7_take_89 : decode cX7_take 89 = .ok (.getfield 15, 3) := by decide +kernel
theorem dX7_take_92 : decode cX7_take 92 = .ok (.iconst 1, 1) := by decide +kernel
theorem dX7_take_93 : decode cX7_take 93 = .ok (.if_icmp .ne 15, 3) := by decide +kernel
theorem dX7_take_96 : decode cX7_take 96 = .ok (.aload_n 2, 1) := by decide +kernel
theorem dX7_take_97 : decode cX7_take 97 = .ok (.iload_n 3, 1) := by decide +kernel
theorem dX7_take_98 : decode cX7_take 98 = .ok (.invokevirtual 54, 3) := by decide +kernel
theorem dX7_take_101 : decode cX7_take 101 = .ok (.ifCond .eq 7, 3) := by decide +kernel
theorem dX7_take_104 : decode cX7_take 104 = .ok (.iconst 1, 1) := by decide +kernel
theorem dX7_take_105 : decode cX7_take 105 = .ok (.goto 4, 3) := by decide +kernel
theorem dX7_take_108 : decode cX7_take 108 = .ok (.iconst 0, 1) := by decide +kernel
theorem dX7_take_109 : decode cX7_take 109 = .ok (.ireturn, 1) := by decide +kernel
theorem dX7_take_110 : decode cX7_take 110 = .ok (.aload_n 0, 1) := by decide +kernel
theorem dX7_take_111 : decode cX7_take 111 = .ok (.getfield 15, 3) := by decide +kernel
theorem dX7_take_114 : decode cX7_take 114 = .ok (.iconst 3, 1) := by decide +kernel
theorem dX7_take_115 : decode cX7_take 115 = .ok (.if_icmp .ne 19, 3) := by decide +kernel
theorem dX7_take_118 : decode cX7_take 118 = .ok (.aload_n 2, 1) := by decide +kernel
theorem dX7_take_119 : decode cX7_take 119 = .ok (.iload_n 3, 1) := by decide +kernel
theorem dX7_take_120 : decode cX7_take 120 = .ok (.iload 4, 2) := by decide +kernel
theorem dX7_take_122 : decode cX7_take 122 = .ok (.iload 5, 2) := by decide +kernel
theorem dX7_take_124 : decode cX7_take 124 = .ok (.invokevirtual 58, 3) := by decide +kernel
theorem dX7_take_127 : decode cX7_take 127 = .ok (.ifCond .eq 7, 3) := by decide +kernel
theorem dX7_take_130 : decode cX7_take 130 = .ok (.iconst 1, 1) := by decide +kernel
theorem dX7_take_131 : decode cX7_take 131 = .ok (.goto 4, 3) := by decide +kernel
theorem dX7_take_134 : decode cX7_take 134 = .ok (.iconst 0, 1) := by decide +kernel
theorem dX7_take_135 : decode cX7_take 135 = .ok (.ireturn, 1) := by decide +kernel
theorem dX7_take_136 : decode cX7_take 136 = .ok (.aload_n 0, 1) := by decide +kernel
theorem dX7_take_137 : decode cX7_take 137 = .ok (.getfield 15, 3) := by decide +kernel
theorem dX7_take_140 : decode cX7_take 140 = .ok (.iconst 2, 1) := by decide +kernel
theorem dX7_take_141 : decode cX7_take 141 = .ok (.if_icmp .ne 17, 3) := by decide +kernel
theorem dX7_take_144 : decode cX7_take 144 = .ok (.aload_n 2, 1) := by decide +kernel
theorem dX7_take_145 : decode cX7_take 145 = .ok (.iload_n 3, 1) := by decide +kernel
theorem dX7_take_146 : decode cX7_take 146 = .ok (.iload 4, 2) := by decide +kernel
theorem dX7_take_148 : decode cX7_take 148 = .ok (.invokevirtual 62, 3) := by decide +kernel
theorem dX7_take_151 : decode cX7_take 151 = .ok (.ifCond .eq 7, 3) := by decide +kernel
theorem dX7_take_154 : decode cX7_take 154 = .ok (.iconst 1, 1) := by decide +kernel
theorem dX7_take_155 : decode cX7_take 155 = .ok (.goto 4, 3) := by decide +kernel
theorem dX7_take_158 : decode cX7_take 158 = .ok (.iconst 0, 1) := by decide +kernel
theorem dX7_take_159 : decode cX7_take 159 = .ok (.ireturn, 1) := by decide +kernel
theorem dX7_take_160 : decode cX7_take 160 = .ok (.aload_n 0, 1) := by decide +kernel
theorem dX7_take_161 : decode cX7_take 161 = .ok (.getfield 15, 3) := by decide +kernel
theorem dX7_take_164 : decode cX7_take 164 = .ok (.iconst 3, 1) := by decide +kernel
theorem dX7_take_165 : decode cX7_take 165 = .ok (.if_icmp .ne 19, 3) := by decide +kernel
theorem dX7_take_168 : decode cX7_take 168 = .ok (.aload_n 2, 1) := by decide +kernel
theorem dX7_take_169 : decode cX7_take 169 = .ok (.iload_n 3, 1) := by decide +kernel
theorem dX7_take_170 : decode cX7_take 170 = .ok (.iload 4, 2) := by decide +kernel
theorem dX7_take_172 : decode cX7_take 172 = .ok (.iload 5, 2) := by decide +kernel
theorem dX7_take_174 : decode cX7_take 174 = .ok (.invokevirtual 66, 3) := by decide +kernel
theorem dX7_take_177 : decode cX7_take 177 = .ok (.ifCond .eq 7, 3) := by decide +kernel
theorem dX7_take_180 : decode cX7_take 180 = .ok (.iconst 1, 1) := by decide +kernel
theorem dX7_take_181 : decode cX7_take 181 = .ok (.goto 4, 3) := by decide +kernel
theorem dX7_take_184 : decode cX7_take 184 = .ok (.iconst 0, 1) := by decide +kernel
theorem dX7_take_185 : decode cX7_take 185 = .ok (.ireturn, 1) := by decide +kernel
theorem dX7_take_186 : decode cX7_take 186 = .ok (.aload_n 0, 1) := by decide +kernel
theorem dX7_take_187 : decode cX7_take 187 = .ok (.getfield 15, 3) := by decide +kernel
theorem dX7_take_190 : decode cX7_take 190 = .ok (.iconst 2, 1) := by decide +kernel
theorem dX7_take_191 : decode cX7_take 191 = .ok (.if_icmp .ne 17, 3) := by decide +kernel
theorem dX7_take_194 : decode cX7_take 194 = .ok (.aload_n 2, 1) := by decide +kernel
theorem dX7_take_195 : decode cX7_take 195 = .ok (.iload_n 3, 1) := by decide +kernel
theorem dX7_take_196 : decode cX7_take 196 = .ok (.iload 4, 2) := by decide +kernel
theorem dX7_take_198 : decode cX7_take 198 = .ok (.invokevirtual 69, 3) := by decide +kernel
theorem dX7_take_201 : decode cX7_take 201 = .ok (.ifCond .eq 7, 3) := by decide +kernel
theorem dX7_take_204 : decode cX7_take 204 = .ok (.iconst 1, 1) := by decide +kernel
theorem dX7_take_205 : decode cX7_take 205 = .ok (.goto 4, 3) := by decide +kernel
theorem dX7_take_208 : decode cX7_take 208 = .ok (.iconst 0, 1) := by decide +kernel
theorem dX7_take_209 : decode cX7_take 209 = .ok (.ireturn, 1) := by decide +kernel
theorem dX7_take_210 : decode cX7_take 210 = .ok (.aload_n 0, 1) := by decide +kernel
theorem dX7_take_211 : decode cX7_take 211 = .ok (.getfield 15, 3) := by decide +kernel
theorem dX7_take_214 : decode cX7_take 214 = .ok (.iconst 1, 1) := by decide +kernel
theorem dX7_take_215 : decode cX7_take 215 = .ok (.if_icmp .ne 15, 3) := by decide +kernel
theorem dX7_take_218 : decode cX7_take 218 = .ok (.aload_n 2, 1) := by decide +kernel
theorem dX7_take_219 : decode cX7_take 219 = .ok (.iload_n 3, 1) := by decide +kernel
theorem dX7_take_220 : decode cX7_take 220 = .ok (.invokevirtual 72, 3) := by decide +kernel
theorem dX7_take_223 : decode cX7_take 223 = .ok (.ifCond .eq 7, 3) := by decide +kernel
theorem dX7_take_226 : decode cX7_take 226 = .ok (.iconst 1, 1) := by decide +kernel
theorem dX7_take_227 : decode cX7_take 227 = .ok (.goto 4, 3) := by decide +kernel
theorem dX7_take_230 : decode cX7_take 230 = .ok (.iconst 0, 1) := by decide +kernel
theorem dX7_take_231 : decode cX7_take 231 = .ok (.ireturn, 1) := by decide +kernel
theorem dX7_take_232 : decode cX7_take 232 = .ok (.iconst 0, 1) := by decide +kernel
theorem dX7_take_233 : decode cX7_take 233 = .ok (.ireturn, 1) := by decide +kernel
theorem dX7_firstFault_0 : decode cX7_firstFault 0 = .ok (.aload_n 2, 1) := by decide +kernel
theorem dX7_firstFault_1 : decode cX7_firstFault 1 = .ok (.invokevirtual 22, 3) := by decide +kernel
theorem dX7_firstFault_4 : decode cX7_firstFault 4 = .ok (.iconst 1, 1) := by decide +kernel
theorem dX7_firstFault_5 : decode cX7_firstFault 5 = .ok (.istore_n 3, 1) := by decide +kernel
theorem dX7_firstFault_6 : decode cX7_firstFault 6 = .ok (.iconst 0, 1) := by decide +kernel
theorem dX7_firstFault_7 : decode cX7_firstFault 7 = .ok (.istore 4, 2) := by decide +kernel
theorem dX7_firstFault_9 : decode cX7_firstFault 9 = .ok (.iconst 0, 1) := by decide +kernel
theorem dX7_firstFault_10 : decode cX7_firstFault 10 = .ok (.istore 5, 2) := by decide +kernel
theorem dX7_firstFault_12 : decode cX7_firstFault 12 = .ok (.iload 5, 2) := by decide +kernel
theorem dX7_firstFault_14 : decode cX7_firstFault 14 = .ok (.sipush 200, 3) := by decide +kernel
theorem dX7_firstFault_17 : decode cX7_firstFault 17 = .ok (.if_icmp .ge 83, 3) := by decide +kernel
theorem dX7_firstFault_20 : decode cX7_firstFault 20 = .ok (.iload 4, 2) := by decide +kernel
theorem dX7_firstFault_22 : decode cX7_firstFault 22 = .ok (.aload_n 1, 1) := by decide +kernel
theorem dX7_firstFault_23 : decode cX7_firstFault 23 = .ok (.invokevirtual 27, 3) := by decide +kernel
theorem dX7_firstFault_26 : decode cX7_firstFault 26 = .ok (.if_icmp .ge 74, 3) := by decide +kernel
theorem dX7_firstFault_29 : decode cX7_firstFault 29 = .ok (.aload_n 1, 1) := by decide +kernel
theorem dX7_firstFault_30 : decode cX7_firstFault 30 = .ok (.iload 4, 2) := by decide +kernel
theorem dX7_firstFault_32 : decode cX7_firstFault 32 = .ok (.invokevirtual 33, 3) := by decide +kernel
theorem dX7_firstFault_35 : decode cX7_firstFault 35 = .ok (.istore 6, 2) := by decide +kernel
theorem dX7_firstFault_37 : decode cX7_firstFault 37 = .ok (.iload_n 3, 1) := by decide +kernel
theorem dX7_firstFault_38 : decode cX7_firstFault 38 = .ok (.ifCond .eq 14, 3) := by decide +kernel
theorem dX7_firstFault_41 : decode cX7_firstFault 41 = .ok (.iload 6, 2) := by decide +kernel
theorem dX7_firstFault_43 : decode cX7_firstFault 43 = .ok (.bipush 110, 2) := by decide +kernel
theorem dX7_firstFault_45 : decode cX7_firstFault 45 = .ok (.if_icmp .ne 7, 3) := by decide +kernel
theorem dX7_firstFault_48 : decode cX7_firstFault 48 = .ok (.iconst 1, 1) := by decide +kernel
theorem dX7_firstFault_49 : decode cX7_firstFault 49 = .ok (.goto 4, 3) := by decide +kernel
theorem dX7_firstFault_52 : decode cX7_firstFault 52 = .ok (.iconst 0, 1) := by decide +kernel
theorem dX7_firstFault_53 : decode cX7_firstFault 53 = .ok (.istore_n 3, 1) := by decide +kernel
theorem dX7_firstFault_54 : decode cX7_firstFault 54 = .ok (.iload 6, 2) := by decide +kernel
theorem dX7_firstFault_56 : decode cX7_firstFault 56 = .ok (.bipush 110, 2) := by decide +kernel
theorem dX7_firstFault_58 : decode cX7_firstFault 58 = .ok (.if_icmp .ne 7, 3) := by decide +kernel
theorem dX7_firstFault_61 : decode cX7_firstFault 61 = .ok (.iload_n 3, 1) := by decide +kernel
theorem dX7_firstFault_62 : decode cX7_firstFault 62 = .ok (.ifCond .eq 23, 3) := by decide +kernel
theorem dX7_firstFault_65 : decode cX7_firstFault 65 = .ok (.aload_n 0, 1) := by decide +kernel
theorem dX7_firstFault_66 : decode cX7_firstFault 66 = .ok (.aload_n 1, 1) := by decide +kernel
theorem dX7_firstFault_67 : decode cX7_firstFault 67 = .ok (.iload 4, 2) := by decide +kernel
theorem dX7_firstFault_69 : decode cX7_firstFault 69 = .ok (.invokevirtual 37, 3) := by decide +kernel
theorem dX7_firstFault_72 : decode cX7_firstFault 72 = .ok (.ifCond .eq 13, 3) := by decide +kernel
theorem dX7_firstFault_75 : decode cX7_firstFault 75 = .ok (.aload_n 0, 1) := by decide +kernel
theorem dX7_firstFault_76 : decode cX7_firstFault 76 = .ok (.iload 6, 2) := by decide +kernel
theorem dX7_firstFault_78 : decode cX7_firstFault 78 = .ok (.aload_n 2, 1) := by decide +kernel
theorem dX7_firstFault_79 : decode cX7_firstFault 79 = .ok (.invokevirtual 41, 3) := by decide +kernel
theorem dX7_firstFault_82 : decode cX7_firstFault 82 = .ok (.ifCond .ne 6, 3) := by decide +kernel
theorem dX7_firstFault_85 : decode cX7_firstFault 85 = .ok (.iload 4, 2) := by decide +kernel
theorem dX7_firstFault_87 : decode cX7_firstFault 87 = .ok (.ireturn, 1) := by decide +kernel
theorem dX7_firstFault_88 : decode cX7_firstFault 88 = .ok (.aload_n 0, 1) := by decide +kernel
theorem dX7_firstFault_89 : decode cX7_firstFault 89 = .ok (.getfield 19, 3) := by decide +kernel
theorem dX7_firstFault_92 : decode cX7_firstFault 92 = .ok (.istore 4, 2) := by decide +kernel
theorem dX7_firstFault_94 : decode cX7_firstFault 94 = .ok (.iinc 5 1, 3) := by decide +kernel
theorem dX7_firstFault_97 : decode cX7_firstFault 97 = .ok (.goto (-85), 3) := by decide +kernel
theorem dX7_firstFault_100 : decode cX7_firstFault 100 = .ok (.bipush (-4), 2) := by decide +kernel
theorem dX7_firstFault_102 : decode cX7_firstFault 102 = .ok (.ireturn, 1) := by decide +kernel
theorem dX8_size_0 : decode cX8_size 0 = .ok (.aload_n 0, 1) := by decide +kernel
theorem dX8_size_1 : decode cX8_size 1 = .ok (.getfield 13, 3) := by decide +kernel
theorem dX8_size_4 : decode cX8_size 4 = .ok (.ireturn, 1) := by decide +kernel
theorem dX8_clear_0 : decode cX8_clear 0 = .ok (.aload_n 0, 1) := by decide +kernel
theorem dX8_clear_1 : decode cX8_clear 1 = .ok (.iconst 0, 1) := by decide +kernel
theorem dX8_clear_2 : decode cX8_clear 2 = .ok (.putfield 13, 3) := by decide +kernel
theorem dX8_clear_5 : decode cX8_clear 5 = .ok (.return_, 1) := by decide +kernel
theorem dX8_push_0 : decode cX8_push 0 = .ok (.aload_n 0, 1) := by decide +kernel
theorem dX8_push_1 : decode cX8_push 1 = .ok (.aload_n 0, 1) := by decide +kernel
theorem dX8_push_2 : decode cX8_push 2 = .ok (.getfield 7, 3) := by decide +kernel
theorem dX8_push_5 : decode cX8_push 5 = .ok (.iconst 1, 1) := by decide +kernel
theorem dX8_push_6 : decode cX8_push 6 = .ok (.iadd, 1) := by decide +kernel
theorem dX8_push_7 : decode cX8_push 7 = .ok (.aload_n 0, 1) := by decide +kernel
theorem dX8_push_8 : decode cX8_push 8 = .ok (.getfield 18, 3) := by decide +kernel
theorem dX8_push_11 : decode cX8_push 11 = .ok (.arraylength, 1) := by decide +kernel
theorem dX8_push_12 : decode cX8_push 12 = .ok (.if_icmp .ge 12, 3) := by decide +kernel
theorem dX8_push_15 : decode cX8_push 15 = .ok (.aload_n 0, 1) := by decide +kernel
theorem dX8_push_16 : decode cX8_push 16 = .ok (.getfield 7, 3) := by decide +kernel
theorem dX8_push_19 : decode cX8_push 19 = .ok (.iconst 1, 1) := by decide +kernel
theorem dX8_push_20 : decode cX8_push 20 = .ok (.iadd, 1) := by decide +kernel
theorem dX8_push_21 : decode cX8_push 21 = .ok (.goto 4, 3) := by decide +kernel
theorem dX8_push_24 : decode cX8_push 24 = .ok (.iconst 0, 1) := by decide +kernel
theorem dX8_push_25 : decode cX8_push 25 = .ok (.putfield 7, 3) := by decide +kernel
theorem dX8_push_28 : decode cX8_push 28 = .ok (.aload_n 0, 1) := by decide +kernel
theorem dX8_push_29 : decode cX8_push 29 = .ok (.aload_n 0, 1) := by decide +kernel
theorem dX8_push_30 : decode cX8_push 30 = .ok (.getfield 13, 3) := by decide +kernel
theorem dX8_push_33 : decode cX8_push 33 = .ok (.iconst 1, 1) := by decide +kernel
theorem dX8_push_34 : decode cX8_push 34 = .ok (.iadd, 1) := by decide +kernel
theorem dX8_push_35 : decode cX8_push 35 = .ok (.aload_n 0, 1) := by decide +kernel
theorem dX8_push_36 : decode cX8_push 36 = .ok (.getfield 18, 3) := by decide +kernel
theorem dX8_push_39 : decode cX8_push 39 = .ok (.arraylength, 1) := by decide +kernel
theorem dX8_push_40 : decode cX8_push 40 = .ok (.invokestatic 25, 3) := by decide +kernel
theorem dX8_push_43 : decode cX8_push 43 = .ok (.putfield 13, 3) := by decide +kernel
theorem dX8_push_46 : decode cX8_push 46 = .ok (.aload_n 0, 1) := by decide +kernel
theorem dX8_push_47 : decode cX8_push 47 = .ok (.getfield 7, 3) := by decide +kernel
theorem dX8_push_50 : decode cX8_push 50 = .ok (.ifCond .lt 40, 3) := by decide +kernel
theorem dX8_push_53 : decode cX8_push 53 = .ok (.aload_n 0, 1) := by decide +kernel
theorem dX8_push_54 : decode cX8_push 54 = .ok (.getfield 7, 3) := by decide +kernel
theorem dX8_push_57 : decode cX8_push 57 = .ok (.aload_n 0, 1) := by decide +kernel
theorem dX8_push_58 : decode cX8_push 58 = .ok (.getfield 18, 3) := by decide +kernel
theorem dX8_push_61 : decode cX8_push 61 = .ok (.arraylength, 1) := by decide +kernel
theorem dX8_push_62 : decode cX8_push 62 = .ok (.if_icmp .ge 28, 3) := by decide +kernel
theorem dX8_push_65 : decode cX8_push 65 = .ok (.aload_n 0, 1) := by decide +kernel
theorem dX8_push_66 : decode cX8_push 66 = .ok (.getfield 18, 3) := by decide +kernel
theorem dX8_push_69 : decode cX8_push 69 = .ok (.aload_n 0, 1) := by decide +kernel
theorem dX8_push_70 : decode cX8_push 70 = .ok (.getfield 7, 3) := by decide +kernel
theorem dX8_push_73 : decode cX8_push 73 = .ok (.aaload, 1) := by decide +kernel
theorem dX8_push_74 : decode cX8_push 74 = .ok (.ifnull 16, 3) := by decide +kernel
theorem dX8_push_77 : decode cX8_push 77 = .ok (.aload_n 0, 1) := by decide +kernel
theorem dX8_push_78 : decode cX8_push 78 = .ok (.getfield 18, 3) := by decide +kernel
theorem dX8_push_81 : decode cX8_push 81 = .ok (.aload_n 0, 1) := by decide +kernel
theorem dX8_push_82 : decode cX8_push 82 = .ok (.getfield 7, 3) := by decide +kernel
theorem dX8_push_85 : decode cX8_push 85 = .ok (.aaload, 1) := by decide +kernel
theorem dX8_push_86 : decode cX8_push 86 = .ok (.aload_n 1, 1) := by decide +kernel
theorem dX8_push_87 : decode cX8_push 87 = .ok (.invokevirtual 31, 3) := by decide +kernel
theorem dX8_push_90 : decode cX8_push 90 = .ok (.return_, 1) := by decide +kernel
theorem dX8_pop_0 : decode cX8_pop 0 = .ok (.aload_n 0, 1) := by decide +kernel
theorem dX8_pop_1 : decode cX8_pop 1 = .ok (.getfield 13, 3) := by decide +kernel
theorem dX8_pop_4 : decode cX8_pop 4 = .ok (.ifCond .ne 5, 3) := by decide +kernel
theorem dX8_pop_7 : decode cX8_pop 7 = .ok (.iconst 0, 1) := by decide +kernel
theorem dX8_pop_8 : decode cX8_pop 8 = .ok (.ireturn, 1) := by decide +kernel
theorem dX8_pop_9 : decode cX8_pop 9 = .ok (.aload_n 0, 1) := by decide +kernel
theorem dX8_pop_10 : decode cX8_pop 10 = .ok (.getfield 7, 3) := by decide +kernel
theorem dX8_pop_13 : decode cX8_pop 13 = .ok (.ifCond .lt 40, 3) := by decide +kernel
theorem dX8_pop_16 : decode cX8_pop 16 = .ok (.aload_n 0, 1) := by decide +kernel
theorem dX8_pop_17 : decode cX8_pop 17 = .ok (.getfield 7, 3) := by decide +kernel
theorem dX8_pop_20 : decode cX8_pop 20 = .ok (.aload_n 0, 1) := by decide +kernel
theorem dX8_pop_21 : decode cX8_pop 21 = .ok (.getfield 18, 3) := by decide +kernel
theorem dX8_pop_24 : decode cX8_pop 24 = .ok (.arraylength, 1) := by decide +kernel
theorem dX8_pop_25 : decode cX8_pop 25 = .ok (.if_icmp .ge 28, 3) := by decide +kernel
theorem dX8_pop_28 : decode cX8_pop 28 = .ok (.aload_n 0, 1) := by decide +kernel
theorem dX8_pop_29 : decode cX8_pop 29 = .ok (.getfield 18, 3) := by decide +kernel
theorem dX8_pop_32 : decode cX8_pop 32 = .ok (.aload_n 0, 1) := by decide +kernel
theorem dX8_pop_33 : decode cX8_pop 33 = .ok (.getfield 7, 3) := by decide +kernel
theorem dX8_pop_36 : decode cX8_pop 36 = .ok (.aaload, 1) := by decide +kernel
theorem dX8_pop_37 : decode cX8_pop 37 = .ok (.ifnull 16, 3) := by decide +kernel
theorem dX8_pop_40 : decode cX8_pop 40 = .ok (.aload_n 1, 1) := by decide +kernel
theorem dX8_pop_41 : decode cX8_pop 41 = .ok (.aload_n 0, 1) := by decide +kernel
theorem dX8_pop_42 : decode cX8_pop 42 = .ok (.getfield 18, 3) := by decide +kernel
theorem dX8_pop_45 : decode cX8_pop 45 = .ok (.aload_n 0, 1) := by decide +kernel
theorem dX8_pop_46 : decode cX8_pop 46 = .ok (.getfield 7, 3) := by decide +kernel
theorem dX8_pop_49 : decode cX8_pop 49 = .ok (.aaload, 1) := by decide +kernel
theorem dX8_pop_50 : decode cX8_pop 50 = .ok (.invokevirtual 31, 3) := by decide +kernel
theorem dX8_pop_53 : decode cX8_pop 53 = .ok (.aload_n 0, 1) := by decide +kernel
theorem dX8_pop_54 : decode cX8_pop 54 = .ok (.aload_n 0, 1) := by decide +kernel
theorem dX8_pop_55 : decode cX8_pop 55 = .ok (.getfield 7, 3) := by decide +kernel
theorem dX8_pop_58 : decode cX8_pop 58 = .ok (.ifCond .le 12, 3) := by decide +kernel
theorem dX8_pop_61 : decode cX8_pop 61 = .ok (.aload_n 0, 1) := by decide +kernel
theorem dX8_pop_62 : decode cX8_pop 62 = .ok (.getfield 7, 3) := by decide +kernel
theorem dX8_pop_65 : decode cX8_pop 65 = .ok (.iconst 1, 1) := by decide +kernel
theorem dX8_pop_66 : decode cX8_pop 66 = .ok (.isub, 1) := by decide +kernel
theorem dX8_pop_67 : decode cX8_pop 67 = .ok (.goto 10, 3) := by decide +kernel
theorem dX8_pop_70 : decode cX8_pop 70 = .ok (.aload_n 0, 1) := by decide +kernel
theorem dX8_pop_71 : decode cX8_pop 71 = .ok (.getfield 18, 3) := by decide +kernel
theorem dX8_pop_74 : decode cX8_pop 74 = .ok (.arraylength, 1) := by decide +kernel
theorem dX8_pop_75 : decode cX8_pop 75 = .ok (.iconst 1, 1) := by decide +kernel
theorem dX8_pop_76 : decode cX8_pop 76 = .ok (.isub, 1) := by decide +kernel
theorem dX8_pop_77 : decode cX8_pop 77 = .ok (.putfield 7, 3) := by decide +kernel
theorem dX8_pop_80 : decode cX8_pop 80 = .ok (.aload_n 0, 1) := by decide +kernel
theorem dX8_pop_81 : decode cX8_pop 81 = .ok (.dup, 1) := by decide +kernel
theorem dX8_pop_82 : decode cX8_pop 82 = .ok (.getfield 13, 3) := by decide +kernel
theorem dX8_pop_85 : decode cX8_pop 85 = .ok (.iconst 1, 1) := by decide +kernel
theorem dX8_pop_86 : decode cX8_pop 86 = .ok (.isub, 1) := by decide +kernel
theorem dX8_pop_87 : decode cX8_pop 87 = .ok (.putfield 13, 3) := by decide +kernel
theorem dX8_pop_90 : decode cX8_pop 90 = .ok (.iconst 1, 1) := by decide +kernel
theorem dX8_pop_91 : decode cX8_pop 91 = .ok (.ireturn, 1) := by decide +kernel
theorem qX5_add : jYv yX5_add cX5_add 2 (some .boolean) 1 := ⟨tw_290, tw_291, tw_58, tw_292, ⟨by decide +kernel, by decide +kernel, by decide +kernel⟩⟩
abbrev rX5_add : Room := { frames := 0, cells := 0, slots := 0, locals := 0 }
def uX5_add : jM := (cX5_add, 2, RX5, (some .boolean), rX5_add)
def pX5_add (fu : Nat) (x1 : Int32) (M : Mem) : Res :=
  if (M 1 1) < 0 then (
    rtz (0 : Int32) M)
  else
  if (M 1 1) < (200 : Int32) then (
    sto M 2 200 (M 1 1) (vp_nar .char x1) fun M1 =>
    fpt M1 1 1 ((M1 1 1) + (1 : Int32)) fun M2 =>
    rtz (1 : Int32) M2)
  else
  rtz (0 : Int32) M
set_option maxRecDepth 100000 in
theorem wX5_add {E : jE} {X : jC} (hX : jOk X uX5_add (gX E)) (fu : Nat)  (x1 : Int32) (M : Mem) : J X uX5_add (gX E) 0 [(0, .ref (gad (gX E) 1)), (1, .int x1)] [] M (pX5_add fu  x1 M) := by
  unfold pX5_add
  refine j_aload_n (pc := 0) hX 0 dX5_add_0 rfl rfl ?_
  refine j_getI (pc := 1) hX (jb rfl) rfl (ci := 5) (C := RX5) (T := TX5) (N := 2) rfl (jb rfl) inX5 (j := 1) (jb rfl) rfl tw_90 dX5_add_1 ?_
  refine j_if_lt (pc := 4) hX 19 dX5_add_4 (by decide) ?_ ?_
  · refine j_iconst (pc := 19) (v := (0 : Int32)) hX dX5_add_19 ci_0 ?_
    exact j_zret (pc := 20) hX rfl dX5_add_20
  · refine j_aload_n (pc := 7) hX 0 dX5_add_7 rfl rfl ?_
    refine j_getI (pc := 8) hX (jb rfl) rfl (ci := 5) (C := RX5) (T := TX5) (N := 2) rfl (jb rfl) inX5 (j := 1) (jb rfl) rfl tw_90 dX5_add_8 ?_
    refine j_aload_n (pc := 11) hX 0 dX5_add_11 rfl rfl ?_
    refine j_getR (pc := 12) (t := 2) hX (jb rfl) rfl (ci := 5) (C := RX5) (T := TX5) (N := 2) rfl (jb rfl) inX5 (j := 0) (jb rfl) rfl tw_89 dX5_add_12 ?_
    refine j_alen (pc := 15) (n := 200) (v := (200 : Int32)) hX (jb rfl) rfl (Or.inr (Or.inr rfl)) rfl (by decide) dX5_add_15 ?_
    refine j_icmp_lt (pc := 16) hX 21 dX5_add_16 (by decide) ?_ ?_
    · refine j_aload_n (pc := 21) hX 0 dX5_add_21 rfl rfl ?_
      refine j_getR (pc := 22) (t := 2) hX (jb rfl) rfl (ci := 5) (C := RX5) (T := TX5) (N := 2) rfl (jb rfl) inX5 (j := 0) (jb rfl) rfl tw_89 dX5_add_22 ?_
      refine j_aload_n (pc := 25) hX 0 dX5_add_25 rfl rfl ?_
      refine j_getI (pc := 26) hX (jb rfl) rfl (ci := 5) (C := RX5) (T := TX5) (N := 2) rfl (jb rfl) inX5 (j := 1) (jb rfl) rfl tw_90 dX5_add_26 ?_
      refine j_iload_n (pc := 29) hX 1 dX5_add_29 rfl rfl ?_
      refine j_cast (pc := 30) hX (jb rfl) rfl rfl dX5_add_30 (fun M1 => ?_)
      refine j_aload_n (pc := 31) hX 0 dX5_add_31 rfl rfl ?_
      refine j_dup (pc := 32) hX dX5_add_32 rfl ?_
      refine j_getI (pc := 33) hX (jb rfl) rfl (ci := 5) (C := RX5) (T := TX5) (N := 2) rfl (jb rfl) inX5 (j := 1) (jb rfl) rfl tw_90 dX5_add_33 ?_
      refine j_iconst (pc := 36) (v := (1 : Int32)) hX dX5_add_36 ci_1 ?_
      refine j_iadd (pc := 37) hX dX5_add_37 ?_
      refine j_putI (pc := 38) hX (jb rfl) rfl (ci := 5) (C := RX5) (T := TX5) (N := 2) rfl (jb rfl) inX5 tyX5 tyX5_ok nmX5 (j := 1) (jb rfl) rfl tw_90 rfl (tyX5_ok 1 (jb rfl)) dX5_add_38 (fun M2 => ?_)
      refine j_iconst (pc := 41) (v := (1 : Int32)) hX dX5_add_41 ci_1 ?_
      exact j_zret (pc := 42) hX rfl dX5_add_42
    · refine j_iconst (pc := 19) (v := (0 : Int32)) hX dX5_add_19 ci_0 ?_
      exact j_zret (pc := 20) hX rfl dX5_add_20
theorem mX5_add (l : Launch) (E : jE) (hI : jInj (gX E)) (fu : Nat)  (x1 : Int32) (M : Mem) : jMet l (gX E) yX5_add cX5_add 2 (some .boolean) rX5_add [.ref (gad (gX E) 1), .int x1] M (pX5_add fu  x1 M) :=
  j_entry hI (by decide +kernel) (Nat.le_of_ble_eq_true rfl) rfl (fun X _ hX => wX5_add hX fu   x1 M)
theorem qX5_at : jYv yX5_at cX5_at 2 (some .char) 1 := ⟨tw_313, tw_314, tw_58, tw_315, ⟨by decide +kernel, by decide +kernel, by decide +kernel⟩⟩
abbrev rX5_at : Room := { frames := 0, cells := 0, slots := 0, locals := 0 }
def uX5_at : jM := (cX5_at, 2, RX5, (some .char), rX5_at)
def pX5_at (fu : Nat) (x1 : Int32) (M : Mem) : Res :=
  if x1 < 0 then (
    rtc (32 : Int32) M)
  else
  if (M 1 1) ≤ x1 then (
    rtc (32 : Int32) M)
  else
  if (200 : Int32) ≤ x1 then (
    rtc (32 : Int32) M)
  else
  ld M 2 200 x1 fun v1 =>
  rtc v1 M
set_option maxRecDepth 100000 in
theorem wX5_at {E : jE} {X : jC} (hX : jOk X uX5_at (gX E)) (fu : Nat)  (x1 : Int32) (M : Mem) : J X uX5_at (gX E) 0 [(0, .ref (gad (gX E) 1)), (1, .int x1)] [] M (pX5_at fu  x1 M) := by
  unfold pX5_at
  refine j_iload_n (pc := 0) hX 1 dX5_at_0 rfl rfl ?_
  refine j_if_lt (pc := 1) hX 30 dX5_at_1 (by decide) ?_ ?_
  · refine j_bipush (pc := 30) (v := (32 : Int32)) hX dX5_at_30 cb_32 ?_
    exact j_cret (pc := 32) hX rfl dX5_at_32
  · refine j_iload_n (pc := 4) hX 1 dX5_at_4 rfl rfl ?_
    refine j_aload_n (pc := 5) hX 0 dX5_at_5 rfl rfl ?_
    refine j_getI (pc := 6) hX (jb rfl) rfl (ci := 5) (C := RX5) (T := TX5) (N := 2) rfl (jb rfl) inX5 (j := 1) (jb rfl) rfl tw_90 dX5_at_6 ?_
    refine j_icmp_ge (pc := 9) hX 30 dX5_at_9 (by decide) ?_ ?_
    · refine j_bipush (pc := 30) (v := (32 : Int32)) hX dX5_at_30 cb_32 ?_
      exact j_cret (pc := 32) hX rfl dX5_at_32
    · refine j_iload_n (pc := 12) hX 1 dX5_at_12 rfl rfl ?_
      refine j_aload_n (pc := 13) hX 0 dX5_at_13 rfl rfl ?_
      refine j_getR (pc := 14) (t := 2) hX (jb rfl) rfl (ci := 5) (C := RX5) (T := TX5) (N := 2) rfl (jb rfl) inX5 (j := 0) (jb rfl) rfl tw_89 dX5_at_14 ?_
      refine j_alen (pc := 17) (n := 200) (v := (200 : Int32)) hX (jb rfl) rfl (Or.inr (Or.inr rfl)) rfl (by decide) dX5_at_17 ?_
      refine j_icmp_ge (pc := 18) hX 30 dX5_at_18 (by decide) ?_ ?_
      · refine j_bipush (pc := 30) (v := (32 : Int32)) hX dX5_at_30 cb_32 ?_
        exact j_cret (pc := 32) hX rfl dX5_at_32
      · refine j_aload_n (pc := 21) hX 0 dX5_at_21 rfl rfl ?_
        refine j_getR (pc := 22) (t := 2) hX (jb rfl) rfl (ci := 5) (C := RX5) (T := TX5) (N := 2) rfl (jb rfl) inX5 (j := 0) (jb rfl) rfl tw_89 dX5_at_22 ?_
        refine j_iload_n (pc := 25) hX 1 dX5_at_25 rfl rfl ?_
        refine j_cald (pc := 26) hX (jb rfl) rfl rfl dX5_at_26 (fun v1 => ?_)
        refine j_goto (pc := 27) hX 32 dX5_at_27 (by decide) ?_
        exact j_cret (pc := 32) hX rfl dX5_at_32
theorem mX5_at (l : Launch) (E : jE) (hI : jInj (gX E)) (fu : Nat)  (x1 : Int32) (M : Mem) : jMet l (gX E) yX5_at cX5_at 2 (some .char) rX5_at [.ref (gad (gX E) 1), .int x1] M (pX5_at fu  x1 M) :=
  j_entry hI (by decide +kernel) (Nat.le_of_ble_eq_true rfl) rfl (fun X _ hX => wX5_at hX fu   x1 M)
theorem qX5_length : jYv yX5_length cX5_length 1 (some .int) 0 := ⟨tw_309, tw_310, tw_58, tw_311, ⟨by decide +kernel, by decide +kernel, by decide +kernel⟩⟩
abbrev rX5_length : Room := { frames := 0, cells := 0, slots := 0, locals := 0 }
def uX5_length : jM := (cX5_length, 1, RX5, (some .int), rX5_length)
def pX5_length (fu : Nat)  (M : Mem) : Res :=
  some ((M 1 1), M)
set_option maxRecDepth 100000 in
theorem wX5_length {E : jE} {X : jC} (hX : jOk X uX5_length (gX E)) (fu : Nat)   (M : Mem) : J X uX5_length (gX E) 0 [(0, .ref (gad (gX E) 1))] [] M (pX5_length fu   M) := by
  unfold pX5_length
  refine j_aload_n (pc := 0) hX 0 dX5_length_0 rfl rfl ?_
  refine j_getI (pc := 1) hX (jb rfl) rfl (ci := 5) (C := RX5) (T := TX5) (N := 2) rfl (jb rfl) inX5 (j := 1) (jb rfl) rfl tw_90 dX5_length_1 ?_
  exact j_iret (pc := 4) hX rfl dX5_length_4
theorem mX5_length (l : Launch) (E : jE) (hI : jInj (gX E)) (fu : Nat)   (M : Mem) : jMet l (gX E) yX5_length cX5_length 1 (some .int) rX5_length [.ref (gad (gX E) 1)] M (pX5_length fu   M) :=
  j_entry hI (by decide +kernel) (Nat.le_of_ble_eq_true rfl) rfl (fun X _ hX => wX5_length hX fu    M)
theorem qX5_clear : jYv yX5_clear cX5_clear 1 none 0 := ⟨tw_417, tw_418, tw_58, tw_419, ⟨by decide +kernel, by decide +kernel, by decide +kernel⟩⟩
abbrev rX5_clear : Room := { frames := 0, cells := 0, slots := 0, locals := 0 }
def uX5_clear : jM := (cX5_clear, 1, RX5, none, rX5_clear)
def pX5_clear (fu : Nat)  (M : Mem) : Res :=
  fpt M 1 1 (0 : Int32) fun M1 =>
  some (0, M1)
set_option maxRecDepth 100000 in
theorem wX5_clear {E : jE} {X : jC} (hX : jOk X uX5_clear (gX E)) (fu : Nat)   (M : Mem) : J X uX5_clear (gX E) 0 [(0, .ref (gad (gX E) 1))] [] M (pX5_clear fu   M) := by
  unfold pX5_clear
  refine j_aload_n (pc := 0) hX 0 dX5_clear_0 rfl rfl ?_
  refine j_iconst (pc := 1) (v := (0 : Int32)) hX dX5_clear_1 ci_0 ?_
  refine j_putI (pc := 2) hX (jb rfl) rfl (ci := 5) (C := RX5) (T := TX5) (N := 2) rfl (jb rfl) inX5 tyX5 tyX5_ok nmX5 (j := 1) (jb rfl) rfl tw_90 rfl (tyX5_ok 1 (jb rfl)) dX5_clear_2 (fun M1 => ?_)
  exact j_vret (pc := 5) hX rfl dX5_clear_5
theorem mX5_clear (l : Launch) (E : jE) (hI : jInj (gX E)) (fu : Nat)   (M : Mem) : jMet l (gX E) yX5_clear cX5_clear 1 none rX5_clear [.ref (gad (gX E) 1)] M (pX5_clear fu   M) :=
  j_entry hI (by decide +kernel) (Nat.le_of_ble_eq_true rfl) rfl (fun X _ hX => wX5_clear hX fu    M)
theorem qX7_split : jYv yX7_split cX7_split 7 (some .boolean) 2 := ⟨tw_318, tw_1, tw_59, tw_319, ⟨by decide +kernel, by decide +kernel, by decide +kernel⟩⟩
abbrev rX7_split : Room := { frames := 1, cells := 0, slots := 0, locals := 22 }
def uX7_split : jM := (cX7_split, 7, RX7, (some .boolean), rX7_split)
def pX7_split_142 (fu : Nat) (x3 : Int32) (x4 : Int32) (x5 : Int32) (M : Mem) (c15 : Int32 → Int32 → Int32 → Mem → Res) : Res :=
  c15 x3 x4 (x5 + (1 : Int32)) M
set_option maxRecDepth 100000 in
theorem wX7_split_142 {E : jE} {X : jC} (hX : jOk X uX7_split (gX E)) (fu : Nat)  (x3 : Int32) (x4 : Int32) (x5 : Int32) (M : Mem) (c15 : Int32 → Int32 → Int32 → Mem → Res) (hc15 : ∀ (x3 : Int32) (x4 : Int32) (x5 : Int32) (M : Mem), J X uX7_split (gX E) 15 [(0, .ref (gad (gX E) 3)), (1, .ref (gad (gX E) 1)), (3, .int x3), (4, .int x4), (5, .int x5)] [] M (c15 x3 x4 x5 M)) : J X uX7_split (gX E) 142 [(0, .ref (gad (gX E) 3)), (1, .ref (gad (gX E) 1)), (3, .int x3), (4, .int x4), (5, .int x5)] [] M (pX7_split_142 fu  x3 x4 x5 M c15) := by
  unfold pX7_split_142
  refine j_iinc (pc := 142) (v := (x5 + (1 : Int32))) (lv' := [(5, .int (x5 + (1 : Int32))), (0, .ref (gad (gX E) 3)), (1, .ref (gad (gX E) 1)), (3, .int x3), (4, .int x4)]) hX 4 dX7_split_142 rfl (by rw [ci_1]) (jb rfl) rfl ?_
  refine j_goto (pc := 145) hX 15 dX7_split_145 (by decide) ?_
  exact j_sub [1, 2, 3, 4, 0] rfl (hc15 x3 x4 (x5 + (1 : Int32)) M)
def pX7_split_83 (fu : Nat) (x3 : Int32) (x4 : Int32) (x5 : Int32) (x6 : Int32) (M : Mem) (c15 : Int32 → Int32 → Int32 → Mem → Res) : Res :=
  if x4 ≤ 0 then (
    rtz (0 : Int32) M)
  else
  if (3 : Int32) ≤ (M 3 1) then (
    rtz (0 : Int32) M)
  else
  bV (pX6_put fu 4 3 (M 3 1) x3 M) fun M6 =>
  fpt M6 3 1 ((M6 3 1) + (1 : Int32)) fun M7 =>
  if x6 = (59 : Int32) then (
    fpt M7 3 2 (x5 + (1 : Int32)) fun M8 =>
    rtz (1 : Int32) M8)
  else
  pX7_split_142 fu  (0 : Int32) (0 : Int32) x5 M7 c15
set_option maxRecDepth 100000 in
theorem wX7_split_83 {E : jE} {X : jC} (hX : jOk X uX7_split (gX E)) (fu : Nat)  (x3 : Int32) (x4 : Int32) (x5 : Int32) (x6 : Int32) (M : Mem) (c15 : Int32 → Int32 → Int32 → Mem → Res) (hc15 : ∀ (x3 : Int32) (x4 : Int32) (x5 : Int32) (M : Mem), J X uX7_split (gX E) 15 [(0, .ref (gad (gX E) 3)), (1, .ref (gad (gX E) 1)), (3, .int x3), (4, .int x4), (5, .int x5)] [] M (c15 x3 x4 x5 M)) : J X uX7_split (gX E) 83 [(0, .ref (gad (gX E) 3)), (1, .ref (gad (gX E) 1)), (3, .int x3), (4, .int x4), (5, .int x5), (6, .int x6)] [] M (pX7_split_83 fu  x3 x4 x5 x6 M c15) := by
  unfold pX7_split_83
  refine j_iload (pc := 83) hX 3 dX7_split_83 rfl ?_
  refine j_if_le (pc := 85) hX 140 dX7_split_85 (by decide) ?_ ?_
  · refine j_iconst (pc := 140) (v := (0 : Int32)) hX dX7_split_140 ci_0 ?_
    exact j_zret (pc := 141) hX rfl dX7_split_141
  · refine j_aload_n (pc := 88) hX 0 dX7_split_88 rfl rfl ?_
    refine j_getI (pc := 89) hX (jb rfl) rfl (ci := 6) (C := RX7) (T := TX7) (N := 3) rfl (jb rfl) inX7 (j := 1) (jb rfl) rfl tw_104 dX7_split_89 ?_
    refine j_iconst (pc := 92) (v := (3 : Int32)) hX dX7_split_92 ci_3 ?_
    refine j_icmp_ge (pc := 93) hX 140 dX7_split_93 (by decide) ?_ ?_
    · refine j_iconst (pc := 140) (v := (0 : Int32)) hX dX7_split_140 ci_0 ?_
      exact j_zret (pc := 141) hX rfl dX7_split_141
    · refine j_aload_n (pc := 96) hX 0 dX7_split_96 rfl rfl ?_
      refine j_getR (pc := 97) (t := 4) hX (jb rfl) rfl (ci := 6) (C := RX7) (T := TX7) (N := 3) rfl (jb rfl) inX7 (j := 0) (jb rfl) rfl tw_103 dX7_split_97 ?_
      refine j_aload_n (pc := 100) hX 0 dX7_split_100 rfl rfl ?_
      refine j_getI (pc := 101) hX (jb rfl) rfl (ci := 6) (C := RX7) (T := TX7) (N := 3) rfl (jb rfl) inX7 (j := 1) (jb rfl) rfl tw_104 dX7_split_101 ?_
      refine j_iload_n (pc := 104) hX 2 dX7_split_104 rfl rfl ?_
      refine j_callSv (pc := 105) hX [.ref (gad (gX E) 4), .int (M 3 1), .int x3] (mX6_put _ E hX.2.2.2.2.2.2.2.2.1 fu 4 3 rfl rfl (M 3 1) x3 M) qX6_put tw_320 rfl ⟨rfl, rfl⟩ ⟨(Nat.le_of_ble_eq_true rfl), (Nat.le_of_ble_eq_true rfl)⟩ (Nat.le_of_ble_eq_true rfl) dX7_split_105 rfl (fun M6 => ?_)
      refine j_aload_n (pc := 108) hX 0 dX7_split_108 rfl rfl ?_
      refine j_dup (pc := 109) hX dX7_split_109 rfl ?_
      refine j_getI (pc := 110) hX (jb rfl) rfl (ci := 6) (C := RX7) (T := TX7) (N := 3) rfl (jb rfl) inX7 (j := 1) (jb rfl) rfl tw_104 dX7_split_110 ?_
      refine j_iconst (pc := 113) (v := (1 : Int32)) hX dX7_split_113 ci_1 ?_
      refine j_iadd (pc := 114) hX dX7_split_114 ?_
      refine j_putI (pc := 115) hX (jb rfl) rfl (ci := 6) (C := RX7) (T := TX7) (N := 3) rfl (jb rfl) inX7 tyX7 tyX7_ok nmX7 (j := 1) (jb rfl) rfl tw_104 rfl (tyX7_ok 1 (jb rfl)) dX7_split_115 (fun M7 => ?_)
      refine j_iconst (pc := 118) (v := (0 : Int32)) hX dX7_split_118 ci_0 ?_
      refine j_istore_n (pc := 119) (lv' := [(3, .int (0 : Int32)), (0, .ref (gad (gX E) 3)), (1, .ref (gad (gX E) 1)), (4, .int x4), (5, .int x5), (6, .int x6)]) hX dX7_split_119 rfl (jb rfl) rfl ?_
      refine j_iconst (pc := 120) (v := (0 : Int32)) hX dX7_split_120 ci_0 ?_
      refine j_istore (pc := 121) (lv' := [(4, .int (0 : Int32)), (3, .int (0 : Int32)), (0, .ref (gad (gX E) 3)), (1, .ref (gad (gX E) 1)), (5, .int x5), (6, .int x6)]) hX dX7_split_121 (jb rfl) rfl ?_
      refine j_iload (pc := 123) hX 5 dX7_split_123 rfl ?_
      refine j_bipush (pc := 125) (v := (59 : Int32)) hX dX7_split_125 cb_59 ?_
      refine j_icmp_ne (pc := 127) hX 142 dX7_split_127 (by decide) ?_ ?_
      · exact j_sub [2, 3, 1, 0, 4] rfl (wX7_split_142 hX fu   (0 : Int32) (0 : Int32) x5 M7 c15 hc15)
      · refine j_aload_n (pc := 130) hX 2 dX7_split_130 rfl rfl ?_
        refine j_iload (pc := 131) hX 4 dX7_split_131 rfl ?_
        refine j_iconst (pc := 133) (v := (1 : Int32)) hX dX7_split_133 ci_1 ?_
        refine j_iadd (pc := 134) hX dX7_split_134 ?_
        refine j_putI (pc := 135) hX (jb rfl) rfl (ci := 6) (C := RX7) (T := TX7) (N := 3) rfl (jb rfl) inX7 tyX7 tyX7_ok nmX7 (j := 2) (jb rfl) rfl tw_105 rfl (tyX7_ok 2 (jb rfl)) dX7_split_135 (fun M8 => ?_)
        refine j_iconst (pc := 138) (v := (1 : Int32)) hX dX7_split_138 ci_1 ?_
        exact j_zret (pc := 139) hX rfl dX7_split_139
def pX7_split_69 (fu : Nat) (x3 : Int32) (x4 : Int32) (x5 : Int32) (x6 : Int32) (M : Mem) (c15 : Int32 → Int32 → Int32 → Mem → Res) : Res :=
  if x6 = (44 : Int32) then (
    pX7_split_83 fu  x3 x4 x5 x6 M c15)
  else
  if x6 = (59 : Int32) then (
    pX7_split_83 fu  x3 x4 x5 x6 M c15)
  else
  rtz (0 : Int32) M
set_option maxRecDepth 100000 in
theorem wX7_split_69 {E : jE} {X : jC} (hX : jOk X uX7_split (gX E)) (fu : Nat)  (x3 : Int32) (x4 : Int32) (x5 : Int32) (x6 : Int32) (M : Mem) (c15 : Int32 → Int32 → Int32 → Mem → Res) (hc15 : ∀ (x3 : Int32) (x4 : Int32) (x5 : Int32) (M : Mem), J X uX7_split (gX E) 15 [(0, .ref (gad (gX E) 3)), (1, .ref (gad (gX E) 1)), (3, .int x3), (4, .int x4), (5, .int x5)] [] M (c15 x3 x4 x5 M)) : J X uX7_split (gX E) 69 [(0, .ref (gad (gX E) 3)), (1, .ref (gad (gX E) 1)), (3, .int x3), (4, .int x4), (5, .int x5), (6, .int x6)] [] M (pX7_split_69 fu  x3 x4 x5 x6 M c15) := by
  unfold pX7_split_69
  refine j_iload (pc := 69) hX 5 dX7_split_69 rfl ?_
  refine j_bipush (pc := 71) (v := (44 : Int32)) hX dX7_split_71 cb_44 ?_
  refine j_icmp_eq (pc := 73) hX 83 dX7_split_73 (by decide) ?_ ?_
  · exact j_sub [0, 1, 2, 3, 4, 5] rfl (wX7_split_83 hX fu   x3 x4 x5 x6 M c15 hc15)
  · refine j_iload (pc := 76) hX 5 dX7_split_76 rfl ?_
    refine j_bipush (pc := 78) (v := (59 : Int32)) hX dX7_split_78 cb_59 ?_
    refine j_icmp_ne (pc := 80) hX 140 dX7_split_80 (by decide) ?_ ?_
    · refine j_iconst (pc := 140) (v := (0 : Int32)) hX dX7_split_140 ci_0 ?_
      exact j_zret (pc := 141) hX rfl dX7_split_141
    · exact j_sub [0, 1, 2, 3, 4, 5] rfl (wX7_split_83 hX fu   x3 x4 x5 x6 M c15 hc15)
def pX7_split_15b (fu : Nat) (x3 : Int32) (x4 : Int32) (x5 : Int32) (M : Mem) (c15 : Int32 → Int32 → Int32 → Mem → Res) : Res :=
  bI (pX5_length fu  M) fun r3 M2 =>
  if r3 ≤ x5 then (
    rtz (0 : Int32) M2)
  else
  bI (pX5_at fu x5 M2) fun r5 M4 =>
  if r5 < (48 : Int32) then (
    pX7_split_69 fu  x3 x4 x5 r5 M4 c15)
  else
  if (57 : Int32) < r5 then (
    pX7_split_69 fu  x3 x4 x5 r5 M4 c15)
  else
  if (2 : Int32) ≤ x4 then (
    pX7_split_69 fu  x3 x4 x5 r5 M4 c15)
  else
  pX7_split_142 fu  ((x3 * (10 : Int32)) + (r5 - (48 : Int32))) (x4 + (1 : Int32)) x5 M4 c15
set_option maxRecDepth 100000 in
theorem wX7_split_15b {E : jE} {X : jC} (hX : jOk X uX7_split (gX E)) (fu : Nat)  (x3 : Int32) (x4 : Int32) (x5 : Int32) (M : Mem) (c15 : Int32 → Int32 → Int32 → Mem → Res) (hc15 : ∀ (x3 : Int32) (x4 : Int32) (x5 : Int32) (M : Mem), J X uX7_split (gX E) 15 [(0, .ref (gad (gX E) 3)), (1, .ref (gad (gX E) 1)), (3, .int x3), (4, .int x4), (5, .int x5)] [] M (c15 x3 x4 x5 M)) : J X uX7_split (gX E) 15 [(0, .ref (gad (gX E) 3)), (1, .ref (gad (gX E) 1)), (3, .int x3), (4, .int x4), (5, .int x5)] [] M (pX7_split_15b fu  x3 x4 x5 M c15) := by
  unfold pX7_split_15b
  refine j_iload (pc := 15) hX 4 dX7_split_15 rfl ?_
  refine j_aload_n (pc := 17) hX 1 dX7_split_17 rfl rfl ?_
  refine j_callV (pc := 18) hX [] (mX5_length _ E hX.2.2.2.2.2.2.2.2.1 fu    M) qX5_length tw_308 (jb rfl) rfl (ci := 5) (T := TX5) (N := 2) rfl (jb rfl) rfl ⟨rfl, rfl⟩ ⟨(Nat.le_of_ble_eq_true rfl), (Nat.le_of_ble_eq_true rfl)⟩ (Nat.le_of_ble_eq_true rfl) dX7_split_18 (fun _ => rfl) rfl (fun r3 M2 => ?_)
  refine j_icmp_ge (pc := 21) hX 148 dX7_split_21 (by decide) ?_ ?_
  · refine j_iconst (pc := 148) (v := (0 : Int32)) hX dX7_split_148 ci_0 ?_
    exact j_zret (pc := 149) hX rfl dX7_split_149
  · refine j_aload_n (pc := 24) hX 1 dX7_split_24 rfl rfl ?_
    refine j_iload (pc := 25) hX 4 dX7_split_25 rfl ?_
    refine j_callV (pc := 27) hX [.int x5] (mX5_at _ E hX.2.2.2.2.2.2.2.2.1 fu   x5 M2) qX5_at tw_312 (jb rfl) rfl (ci := 5) (T := TX5) (N := 2) rfl (jb rfl) rfl ⟨rfl, rfl⟩ ⟨(Nat.le_of_ble_eq_true rfl), (Nat.le_of_ble_eq_true rfl)⟩ (Nat.le_of_ble_eq_true rfl) dX7_split_27 (fun _ => rfl) rfl (fun r5 M4 => ?_)
    refine j_istore (pc := 30) (lv' := [(6, .int r5), (0, .ref (gad (gX E) 3)), (1, .ref (gad (gX E) 1)), (3, .int x3), (4, .int x4), (5, .int x5)]) hX dX7_split_30 (jb rfl) rfl ?_
    refine j_iload (pc := 32) hX 0 dX7_split_32 rfl ?_
    refine j_bipush (pc := 34) (v := (48 : Int32)) hX dX7_split_34 cb_48 ?_
    refine j_icmp_lt (pc := 36) hX 69 dX7_split_36 (by decide) ?_ ?_
    · exact j_sub [1, 2, 3, 4, 5, 0] rfl (wX7_split_69 hX fu   x3 x4 x5 r5 M4 c15 hc15)
    · refine j_iload (pc := 39) hX 0 dX7_split_39 rfl ?_
      refine j_bipush (pc := 41) (v := (57 : Int32)) hX dX7_split_41 cb_57 ?_
      refine j_icmp_gt (pc := 43) hX 69 dX7_split_43 (by decide) ?_ ?_
      · exact j_sub [1, 2, 3, 4, 5, 0] rfl (wX7_split_69 hX fu   x3 x4 x5 r5 M4 c15 hc15)
      · refine j_iload (pc := 46) hX 4 dX7_split_46 rfl ?_
        refine j_iconst (pc := 48) (v := (2 : Int32)) hX dX7_split_48 ci_2 ?_
        refine j_icmp_ge (pc := 49) hX 69 dX7_split_49 (by decide) ?_ ?_
        · exact j_sub [1, 2, 3, 4, 5, 0] rfl (wX7_split_69 hX fu   x3 x4 x5 r5 M4 c15 hc15)
        · refine j_iload_n (pc := 52) hX 3 dX7_split_52 rfl rfl ?_
          refine j_bipush (pc := 53) (v := (10 : Int32)) hX dX7_split_53 cb_10 ?_
          refine j_imul (pc := 55) hX dX7_split_55 ?_
          refine j_iload (pc := 56) hX 0 dX7_split_56 rfl ?_
          refine j_bipush (pc := 58) (v := (48 : Int32)) hX dX7_split_58 cb_48 ?_
          refine j_isub (pc := 60) hX dX7_split_60 ?_
          refine j_iadd (pc := 61) hX dX7_split_61 ?_
          refine j_istore_n (pc := 62) (lv' := [(3, .int ((x3 * (10 : Int32)) + (r5 - (48 : Int32)))), (6, .int r5), (0, .ref (gad (gX E) 3)), (1, .ref (gad (gX E) 1)), (4, .int x4), (5, .int x5)]) hX dX7_split_62 rfl (jb rfl) rfl ?_
          refine j_iinc (pc := 63) (v := (x4 + (1 : Int32))) (lv' := [(4, .int (x4 + (1 : Int32))), (3, .int ((x3 * (10 : Int32)) + (r5 - (48 : Int32)))), (6, .int r5), (0, .ref (gad (gX E) 3)), (1, .ref (gad (gX E) 1)), (5, .int x5)]) hX 4 dX7_split_63 rfl (by rw [ci_1]) (jb rfl) rfl ?_
          refine j_goto (pc := 66) hX 142 dX7_split_66 (by decide) ?_
          exact j_sub [3, 4, 1, 0, 5] rfl (wX7_split_142 hX fu   ((x3 * (10 : Int32)) + (r5 - (48 : Int32))) (x4 + (1 : Int32)) x5 M4 c15 hc15)
def pX7_split_15 (fu : Nat)  : Nat → Int32 → Int32 → Int32 → Mem → Res
  | 0, _, _, _, _ => none
  | n + 1, x3, x4, x5, M => pX7_split_15b fu  x3 x4 x5 M (pX7_split_15 fu   n)
theorem wX7_split_15 {E : jE} {X : jC} (hX : jOk X uX7_split (gX E)) (fu : Nat)    : ∀ (n : Nat) (x3 : Int32) (x4 : Int32) (x5 : Int32) (M : Mem), J X uX7_split (gX E) 15 [(0, .ref (gad (gX E) 3)), (1, .ref (gad (gX E) 1)), (3, .int x3), (4, .int x4), (5, .int x5)] [] M (pX7_split_15 fu   n x3 x4 x5 M) := by
  intro n
  induction n with
  | zero => intro x3 x4 x5 M; exact j_none
  | succ n ih => intro x3 x4 x5 M; exact wX7_split_15b hX fu   x3 x4 x5 M (pX7_split_15 fu   n) ih
def pX7_split (fu : Nat) (x2 : Int32) (M : Mem) : Res :=
  fpt M 3 1 (0 : Int32) fun M1 =>
  pX7_split_15 fu
    fu (0 : Int32) (0 : Int32) (x2 + (1 : Int32)) M1
set_option maxRecDepth 100000 in
theorem wX7_split {E : jE} {X : jC} (hX : jOk X uX7_split (gX E)) (fu : Nat)  (x2 : Int32) (M : Mem) : J X uX7_split (gX E) 0 [(0, .ref (gad (gX E) 3)), (1, .ref (gad (gX E) 1)), (2, .int x2)] [] M (pX7_split fu  x2 M) := by
  unfold pX7_split
  refine j_aload_n (pc := 0) hX 0 dX7_split_0 rfl rfl ?_
  refine j_iconst (pc := 1) (v := (0 : Int32)) hX dX7_split_1 ci_0 ?_
  refine j_putI (pc := 2) hX (jb rfl) rfl (ci := 6) (C := RX7) (T := TX7) (N := 3) rfl (jb rfl) inX7 tyX7 tyX7_ok nmX7 (j := 1) (jb rfl) rfl tw_104 rfl (tyX7_ok 1 (jb rfl)) dX7_split_2 (fun M1 => ?_)
  refine j_iconst (pc := 5) (v := (0 : Int32)) hX dX7_split_5 ci_0 ?_
  refine j_istore_n (pc := 6) (lv' := [(3, .int (0 : Int32)), (0, .ref (gad (gX E) 3)), (1, .ref (gad (gX E) 1)), (2, .int x2)]) hX dX7_split_6 rfl (jb rfl) rfl ?_
  refine j_iconst (pc := 7) (v := (0 : Int32)) hX dX7_split_7 ci_0 ?_
  refine j_istore (pc := 8) (lv' := [(4, .int (0 : Int32)), (3, .int (0 : Int32)), (0, .ref (gad (gX E) 3)), (1, .ref (gad (gX E) 1)), (2, .int x2)]) hX dX7_split_8 (jb rfl) rfl ?_
  refine j_iload_n (pc := 10) hX 4 dX7_split_10 rfl rfl ?_
  refine j_iconst (pc := 11) (v := (1 : Int32)) hX dX7_split_11 ci_1 ?_
  refine j_iadd (pc := 12) hX dX7_split_12 ?_
  refine j_istore (pc := 13) (lv' := [(5, .int (x2 + (1 : Int32))), (4, .int (0 : Int32)), (3, .int (0 : Int32)), (0, .ref (gad (gX E) 3)), (1, .ref (gad (gX E) 1)), (2, .int x2)]) hX dX7_split_13 (jb rfl) rfl ?_
  refine j_sub [3, 4, 2, 1, 0] rfl (wX7_split_15 hX fu     fu (0 : Int32) (0 : Int32) (x2 + (1 : Int32)) M1)
theorem mX7_split (l : Launch) (E : jE) (hI : jInj (gX E)) (fu : Nat)  (x2 : Int32) (M : Mem) : jMet l (gX E) yX7_split cX7_split 7 (some .boolean) rX7_split [.ref (gad (gX E) 3), .ref (gad (gX E) 1), .int x2] M (pX7_split fu  x2 M) :=
  j_entry hI (by decide +kernel) (Nat.le_of_ble_eq_true rfl) rfl (fun X _ hX => wX7_split hX fu   x2 M)
theorem qX7_take : jYv yX7_take cX7_take 6 (some .boolean) 2 := ⟨tw_325, tw_2, tw_59, tw_326, ⟨by decide +kernel, by decide +kernel, by decide +kernel⟩⟩
abbrev rX7_take : Room := { frames := 2, cells := 0, slots := 0, locals := 45 }
def uX7_take : jM := (cX7_take, 6, RX7, (some .boolean), rX7_take)
def pX7_take (fu : Nat) (k0 : Nat) (x1 : Int32) (M : Mem) : Res :=
  bI (pX6_at fu 4 3 (0 : Int32) M) fun r2 M1 =>
  bI (pX6_at fu 4 3 (1 : Int32) M1) fun r4 M3 =>
  bI (pX6_at fu 4 3 (2 : Int32) M3) fun r6 M5 =>
  if x1 = (98 : Int32) then (
    if (M5 3 1) = (3 : Int32) then (
      bI (pX1_takeBeast fu k0 r2 r4 r6 M5) fun r8 M7 =>
      if r8 = 0 then (
        rtz (0 : Int32) M7)
      else
      rtz (1 : Int32) M7)
    else
    rtz (0 : Int32) M5)
  else
  if x1 = (99 : Int32) then (
    if (M5 3 1) = (2 : Int32) then (
      bI (pX1_takeCarrots fu k0 r2 r4 M5) fun r11 M10 =>
      if r11 = 0 then (
        rtz (0 : Int32) M10)
      else
      rtz (1 : Int32) M10)
    else
    rtz (0 : Int32) M5)
  else
  if x1 = (100 : Int32) then (
    if (M5 3 1) = (2 : Int32) then (
      bI (pX1_takeDoor fu k0 r2 r4 M5) fun r14 M13 =>
      if r14 = 0 then (
        rtz (0 : Int32) M13)
      else
      rtz (1 : Int32) M13)
    else
    rtz (0 : Int32) M5)
  else
  if x1 = (109 : Int32) then (
    if (M5 3 1) = (1 : Int32) then (
      bI (pX1_takeMare fu k0 r2 M5) fun r17 M16 =>
      if r17 = 0 then (
        rtz (0 : Int32) M16)
      else
      rtz (1 : Int32) M16)
    else
    rtz (0 : Int32) M5)
  else
  if x1 = (110 : Int32) then (
    if (M5 3 1) = (1 : Int32) then (
      bI (pX1_takePlaces fu k0 r2 M5) fun r20 M19 =>
      if r20 = 0 then (
        rtz (0 : Int32) M19)
      else
      rtz (1 : Int32) M19)
    else
    rtz (0 : Int32) M5)
  else
  if x1 = (119 : Int32) then (
    if (M5 3 1) = (3 : Int32) then (
      bI (pX1_takeWay fu k0 r2 r4 r6 M5) fun r23 M22 =>
      if r23 = 0 then (
        rtz (0 : Int32) M22)
      else
      rtz (1 : Int32) M22)
    else
    rtz (0 : Int32) M5)
  else
  rtz (0 : Int32) M5
set_option maxRecDepth 100000 in
theorem wX7_take {E : jE} {X : jC} (hX : jOk X uX7_take (gX E)) (fu : Nat) (k0 : Nat) (hk0 : tX k0 = 1) (x1 : Int32) (M : Mem) : J X uX7_take (gX E) 0 [(0, .ref (gad (gX E) 3)), (1, .int x1), (2, .ref (gad (gX E) k0))] [] M (pX7_take fu k0 x1 M) := by
  unfold pX7_take
  refine j_aload_n (pc := 0) hX 0 dX7_take_0 rfl rfl ?_
  refine j_getR (pc := 1) (t := 4) hX (jb rfl) rfl (ci := 6) (C := RX7) (T := TX7) (N := 3) rfl (jb rfl) inX7 (j := 0) (jb rfl) rfl tw_103 dX7_take_1 ?_
  refine j_iconst (pc := 4) (v := (0 : Int32)) hX dX7_take_4 ci_0 ?_
  refine j_callS (pc := 5) hX [.ref (gad (gX E) 4), .int (0 : Int32)] (mX6_at _ E hX.2.2.2.2.2.2.2.2.1 fu 4 3 rfl rfl (0 : Int32) M) qX6_at tw_327 rfl ⟨rfl, rfl⟩ ⟨(Nat.le_of_ble_eq_true rfl), (Nat.le_of_ble_eq_true rfl)⟩ (Nat.le_of_ble_eq_true rfl) dX7_take_5 (fun _ => rfl) rfl (fun r2 M1 => ?_)
  refine j_istore_n (pc := 8) (lv' := [(3, .int r2), (0, .ref (gad (gX E) 3)), (1, .int x1), (2, .ref (gad (gX E) k0))]) hX dX7_take_8 rfl (jb rfl) rfl ?_
  refine j_aload_n (pc := 9) hX 1 dX7_take_9 rfl rfl ?_
  refine j_getR (pc := 10) (t := 4) hX (jb rfl) rfl (ci := 6) (C := RX7) (T := TX7) (N := 3) rfl (jb rfl) inX7 (j := 0) (jb rfl) rfl tw_103 dX7_take_10 ?_
  refine j_iconst (pc := 13) (v := (1 : Int32)) hX dX7_take_13 ci_1 ?_
  refine j_callS (pc := 14) hX [.ref (gad (gX E) 4), .int (1 : Int32)] (mX6_at _ E hX.2.2.2.2.2.2.2.2.1 fu 4 3 rfl rfl (1 : Int32) M1) qX6_at tw_327 rfl ⟨rfl, rfl⟩ ⟨(Nat.le_of_ble_eq_true rfl), (Nat.le_of_ble_eq_true rfl)⟩ (Nat.le_of_ble_eq_true rfl) dX7_take_14 (fun _ => rfl) rfl (fun r4 M3 => ?_)
  refine j_istore (pc := 17) (lv' := [(4, .int r4), (3, .int r2), (0, .ref (gad (gX E) 3)), (1, .int x1), (2, .ref (gad (gX E) k0))]) hX dX7_take_17 (jb rfl) rfl ?_
  refine j_aload_n (pc := 19) hX 2 dX7_take_19 rfl rfl ?_
  refine j_getR (pc := 20) (t := 4) hX (jb rfl) rfl (ci := 6) (C := RX7) (T := TX7) (N := 3) rfl (jb rfl) inX7 (j := 0) (jb rfl) rfl tw_103 dX7_take_20 ?_
  refine j_iconst (pc := 23) (v := (2 : Int32)) hX dX7_take_23 ci_2 ?_
  refine j_callS (pc := 24) hX [.ref (gad (gX E) 4), .int (2 : Int32)] (mX6_at _ E hX.2.2.2.2.2.2.2.2.1 fu 4 3 rfl rfl (2 : Int32) M3) qX6_at tw_327 rfl ⟨rfl, rfl⟩ ⟨(Nat.le_of_ble_eq_true rfl), (Nat.le_of_ble_eq_true rfl)⟩ (Nat.le_of_ble_eq_true rfl) dX7_take_24 (fun _ => rfl) rfl (fun r6 M5 => ?_)
  refine j_istore (pc := 27) (lv' := [(5, .int r6), (4, .int r4), (3, .int r2), (0, .ref (gad (gX E) 3)), (1, .int x1), (2, .ref (gad (gX E) k0))]) hX dX7_take_27 (jb rfl) rfl ?_
  refine j_iload_n (pc := 29) hX 4 dX7_take_29 rfl rfl ?_
  refine j_if (fun hq9 => ?_) (fun hq9 => ?_)
  · rw [hq9]
    refine j_lookup (pc := 30) (off := 130) hX 160 dX7_take_30 (by decide) (by decide) (by decide) ?_
    refine j_aload_n (pc := 160) hX 3 dX7_take_160 rfl rfl ?_
    refine j_getI (pc := 161) hX (jb rfl) rfl (ci := 6) (C := RX7) (T := TX7) (N := 3) rfl (jb rfl) inX7 (j := 1) (jb rfl) rfl tw_104 dX7_take_161 ?_
    refine j_iconst (pc := 164) (v := (3 : Int32)) hX dX7_take_164 ci_3 ?_
    refine j_icmp_ne (pc := 165) hX 184 dX7_take_165 (by decide) ?_ ?_
    · refine j_iconst (pc := 184) (v := (0 : Int32)) hX dX7_take_184 ci_0 ?_
      exact j_zret (pc := 185) hX rfl dX7_take_185
    · refine j_aload_n (pc := 168) hX 5 dX7_take_168 rfl rfl ?_
      refine j_iload_n (pc := 169) hX 2 dX7_take_169 rfl rfl ?_
      refine j_iload (pc := 170) hX 1 dX7_take_170 rfl ?_
      refine j_iload (pc := 172) hX 0 dX7_take_172 rfl ?_
      refine j_callV (pc := 174) hX [.int r2, .int r4, .int r6] (mX1_takeBeast _ E hX.2.2.2.2.2.2.2.2.1 fu k0 hk0 r2 r4 r6 M5) qX1_takeBeast tw_350 (hc hk0) hk0 (ci := 1) (T := TX1) (N := 13) rfl (jb rfl) rfl ⟨rfl, rfl⟩ ⟨(Nat.le_of_ble_eq_true rfl), (Nat.le_of_ble_eq_true rfl)⟩ (Nat.le_of_ble_eq_true rfl) dX7_take_174 (fun _ => rfl) rfl (fun r8 M7 => ?_)
      refine j_if_eq (pc := 177) hX 184 dX7_take_177 (by decide) ?_ ?_
      · refine j_iconst (pc := 184) (v := (0 : Int32)) hX dX7_take_184 ci_0 ?_
        exact j_zret (pc := 185) hX rfl dX7_take_185
      · refine j_iconst (pc := 180) (v := (1 : Int32)) hX dX7_take_180 ci_1 ?_
        refine j_goto (pc := 181) hX 185 dX7_take_181 (by decide) ?_
        exact j_zret (pc := 185) hX rfl dX7_take_185
  refine j_if (fun hq12 => ?_) (fun hq12 => ?_)
  · rw [hq12]
    refine j_lookup (pc := 30) (off := 156) hX 186 dX7_take_30 (by decide) (by decide) (by decide) ?_
    refine j_aload_n (pc := 186) hX 3 dX7_take_186 rfl rfl ?_
    refine j_getI (pc := 187) hX (jb rfl) rfl (ci := 6) (C := RX7) (T := TX7) (N := 3) rfl (jb rfl) inX7 (j := 1) (jb rfl) rfl tw_104 dX7_take_187 ?_
    refine j_iconst (pc := 190) (v := (2 : Int32)) hX dX7_take_190 ci_2 ?_
    refine j_icmp_ne (pc := 191) hX 208 dX7_take_191 (by decide) ?_ ?_
    · refine j_iconst (pc := 208) (v := (0 : Int32)) hX dX7_take_208 ci_0 ?_
      exact j_zret (pc := 209) hX rfl dX7_take_209
    · refine j_aload_n (pc := 194) hX 5 dX7_take_194 rfl rfl ?_
      refine j_iload_n (pc := 195) hX 2 dX7_take_195 rfl rfl ?_
      refine j_iload (pc := 196) hX 1 dX7_take_196 rfl ?_
      refine j_callV (pc := 198) hX [.int r2, .int r4] (mX1_takeCarrots _ E hX.2.2.2.2.2.2.2.2.1 fu k0 hk0 r2 r4 M5) qX1_takeCarrots tw_354 (hc hk0) hk0 (ci := 1) (T := TX1) (N := 13) rfl (jb rfl) rfl ⟨rfl, rfl⟩ ⟨(Nat.le_of_ble_eq_true rfl), (Nat.le_of_ble_eq_true rfl)⟩ (Nat.le_of_ble_eq_true rfl) dX7_take_198 (fun _ => rfl) rfl (fun r11 M10 => ?_)
      refine j_if_eq (pc := 201) hX 208 dX7_take_201 (by decide) ?_ ?_
      · refine j_iconst (pc := 208) (v := (0 : Int32)) hX dX7_take_208 ci_0 ?_
        exact j_zret (pc := 209) hX rfl dX7_take_209
      · refine j_iconst (pc := 204) (v := (1 : Int32)) hX dX7_take_204 ci_1 ?_
        refine j_goto (pc := 205) hX 209 dX7_take_205 (by decide) ?_
        exact j_zret (pc := 209) hX rfl dX7_take_209
  refine j_if (fun hq15 => ?_) (fun hq15 => ?_)
  · rw [hq15]
    refine j_lookup (pc := 30) (off := 106) hX 136 dX7_take_30 (by decide) (by decide) (by decide) ?_
    refine j_aload_n (pc := 136) hX 3 dX7_take_136 rfl rfl ?_
    refine j_getI (pc := 137) hX (jb rfl) rfl (ci := 6) (C := RX7) (T := TX7) (N := 3) rfl (jb rfl) inX7 (j := 1) (jb rfl) rfl tw_104 dX7_take_137 ?_
    refine j_iconst (pc := 140) (v := (2 : Int32)) hX dX7_take_140 ci_2 ?_
    refine j_icmp_ne (pc := 141) hX 158 dX7_take_141 (by decide) ?_ ?_
    · refine j_iconst (pc := 158) (v := (0 : Int32)) hX dX7_take_158 ci_0 ?_
      exact j_zret (pc := 159) hX rfl dX7_take_159
    · refine j_aload_n (pc := 144) hX 5 dX7_take_144 rfl rfl ?_
      refine j_iload_n (pc := 145) hX 2 dX7_take_145 rfl rfl ?_
      refine j_iload (pc := 146) hX 1 dX7_take_146 rfl ?_
      refine j_callV (pc := 148) hX [.int r2, .int r4] (mX1_takeDoor _ E hX.2.2.2.2.2.2.2.2.1 fu k0 hk0 r2 r4 M5) qX1_takeDoor tw_346 (hc hk0) hk0 (ci := 1) (T := TX1) (N := 13) rfl (jb rfl) rfl ⟨rfl, rfl⟩ ⟨(Nat.le_of_ble_eq_true rfl), (Nat.le_of_ble_eq_true rfl)⟩ (Nat.le_of_ble_eq_true rfl) dX7_take_148 (fun _ => rfl) rfl (fun r14 M13 => ?_)
      refine j_if_eq (pc := 151) hX 158 dX7_take_151 (by decide) ?_ ?_
      · refine j_iconst (pc := 158) (v := (0 : Int32)) hX dX7_take_158 ci_0 ?_
        exact j_zret (pc := 159) hX rfl dX7_take_159
      · refine j_iconst (pc := 154) (v := (1 : Int32)) hX dX7_take_154 ci_1 ?_
        refine j_goto (pc := 155) hX 159 dX7_take_155 (by decide) ?_
        exact j_zret (pc := 159) hX rfl dX7_take_159
  refine j_if (fun hq18 => ?_) (fun hq18 => ?_)
  · rw [hq18]
    refine j_lookup (pc := 30) (off := 180) hX 210 dX7_take_30 (by decide) (by decide) (by decide) ?_
    refine j_aload_n (pc := 210) hX 3 dX7_take_210 rfl rfl ?_
    refine j_getI (pc := 211) hX (jb rfl) rfl (ci := 6) (C := RX7) (T := TX7) (N := 3) rfl (jb rfl) inX7 (j := 1) (jb rfl) rfl tw_104 dX7_take_211 ?_
    refine j_iconst (pc := 214) (v := (1 : Int32)) hX dX7_take_214 ci_1 ?_
    refine j_icmp_ne (pc := 215) hX 230 dX7_take_215 (by decide) ?_ ?_
    · refine j_iconst (pc := 230) (v := (0 : Int32)) hX dX7_take_230 ci_0 ?_
      exact j_zret (pc := 231) hX rfl dX7_take_231
    · refine j_aload_n (pc := 218) hX 5 dX7_take_218 rfl rfl ?_
      refine j_iload_n (pc := 219) hX 2 dX7_take_219 rfl rfl ?_
      refine j_callV (pc := 220) hX [.int r2] (mX1_takeMare _ E hX.2.2.2.2.2.2.2.2.1 fu k0 hk0 r2 M5) qX1_takeMare tw_358 (hc hk0) hk0 (ci := 1) (T := TX1) (N := 13) rfl (jb rfl) rfl ⟨rfl, rfl⟩ ⟨(Nat.le_of_ble_eq_true rfl), (Nat.le_of_ble_eq_true rfl)⟩ (Nat.le_of_ble_eq_true rfl) dX7_take_220 (fun _ => rfl) rfl (fun r17 M16 => ?_)
      refine j_if_eq (pc := 223) hX 230 dX7_take_223 (by decide) ?_ ?_
      · refine j_iconst (pc := 230) (v := (0 : Int32)) hX dX7_take_230 ci_0 ?_
        exact j_zret (pc := 231) hX rfl dX7_take_231
      · refine j_iconst (pc := 226) (v := (1 : Int32)) hX dX7_take_226 ci_1 ?_
        refine j_goto (pc := 227) hX 231 dX7_take_227 (by decide) ?_
        exact j_zret (pc := 231) hX rfl dX7_take_231
  refine j_if (fun hq21 => ?_) (fun hq21 => ?_)
  · rw [hq21]
    refine j_lookup (pc := 30) (off := 58) hX 88 dX7_take_30 (by decide) (by decide) (by decide) ?_
    refine j_aload_n (pc := 88) hX 3 dX7_take_88 rfl rfl ?_
    refine j_getI (pc := 89) hX (jb rfl) rfl (ci := 6) (C := RX7) (T := TX7) (N := 3) rfl (jb rfl) inX7 (j := 1) (jb rfl) rfl tw_104 dX7_take_89 ?_
    refine j_iconst (pc := 92) (v := (1 : Int32)) hX dX7_take_92 ci_1 ?_
    refine j_icmp_ne (pc := 93) hX 108 dX7_take_93 (by decide) ?_ ?_
    · refine j_iconst (pc := 108) (v := (0 : Int32)) hX dX7_take_108 ci_0 ?_
      exact j_zret (pc := 109) hX rfl dX7_take_109
    · refine j_aload_n (pc := 96) hX 5 dX7_take_96 rfl rfl ?_
      refine j_iload_n (pc := 97) hX 2 dX7_take_97 rfl rfl ?_
      refine j_callV (pc := 98) hX [.int r2] (mX1_takePlaces _ E hX.2.2.2.2.2.2.2.2.1 fu k0 hk0 r2 M5) qX1_takePlaces tw_330 (hc hk0) hk0 (ci := 1) (T := TX1) (N := 13) rfl (jb rfl) rfl ⟨rfl, rfl⟩ ⟨(Nat.le_of_ble_eq_true rfl), (Nat.le_of_ble_eq_true rfl)⟩ (Nat.le_of_ble_eq_true rfl) dX7_take_98 (fun _ => rfl) rfl (fun r20 M19 => ?_)
      refine j_if_eq (pc := 101) hX 108 dX7_take_101 (by decide) ?_ ?_
      · refine j_iconst (pc := 108) (v := (0 : Int32)) hX dX7_take_108 ci_0 ?_
        exact j_zret (pc := 109) hX rfl dX7_take_109
      · refine j_iconst (pc := 104) (v := (1 : Int32)) hX dX7_take_104 ci_1 ?_
        refine j_goto (pc := 105) hX 109 dX7_take_105 (by decide) ?_
        exact j_zret (pc := 109) hX rfl dX7_take_109
  refine j_if (fun hq24 => ?_) (fun hq24 => ?_)
  · rw [hq24]
    refine j_lookup (pc := 30) (off := 80) hX 110 dX7_take_30 (by decide) (by decide) (by decide) ?_
    refine j_aload_n (pc := 110) hX 3 dX7_take_110 rfl rfl ?_
    refine j_getI (pc := 111) hX (jb rfl) rfl (ci := 6) (C := RX7) (T := TX7) (N := 3) rfl (jb rfl) inX7 (j := 1) (jb rfl) rfl tw_104 dX7_take_111 ?_
    refine j_iconst (pc := 114) (v := (3 : Int32)) hX dX7_take_114 ci_3 ?_
    refine j_icmp_ne (pc := 115) hX 134 dX7_take_115 (by decide) ?_ ?_
    · refine j_iconst (pc := 134) (v := (0 : Int32)) hX dX7_take_134 ci_0 ?_
      exact j_zret (pc := 135) hX rfl dX7_take_135
    · refine j_aload_n (pc := 118) hX 5 dX7_take_118 rfl rfl ?_
      refine j_iload_n (pc := 119) hX 2 dX7_take_119 rfl rfl ?_
      refine j_iload (pc := 120) hX 1 dX7_take_120 rfl ?_
      refine j_iload (pc := 122) hX 0 dX7_take_122 rfl ?_
      refine j_callV (pc := 124) hX [.int r2, .int r4, .int r6] (mX1_takeWay _ E hX.2.2.2.2.2.2.2.2.1 fu k0 hk0 r2 r4 r6 M5) qX1_takeWay tw_334 (hc hk0) hk0 (ci := 1) (T := TX1) (N := 13) rfl (jb rfl) rfl ⟨rfl, rfl⟩ ⟨(Nat.le_of_ble_eq_true rfl), (Nat.le_of_ble_eq_true rfl)⟩ (Nat.le_of_ble_eq_true rfl) dX7_take_124 (fun _ => rfl) rfl (fun r23 M22 => ?_)
      refine j_if_eq (pc := 127) hX 134 dX7_take_127 (by decide) ?_ ?_
      · refine j_iconst (pc := 134) (v := (0 : Int32)) hX dX7_take_134 ci_0 ?_
        exact j_zret (pc := 135) hX rfl dX7_take_135
      · refine j_iconst (pc := 130) (v := (1 : Int32)) hX dX7_take_130 ci_1 ?_
        refine j_goto (pc := 131) hX 135 dX7_take_131 (by decide) ?_
        exact j_zret (pc := 135) hX rfl dX7_take_135
  refine j_lookup (pc := 30) (off := 202) hX 232 dX7_take_30 (by decide) (by simp only [Op.lookupswitch.offset]; rw [if_neg (sw_ne (c := 98) hq9), if_neg (sw_ne (c := 99) hq12), if_neg (sw_ne (c := 100) hq15), if_neg (sw_ne (c := 109) hq18), if_neg (sw_ne (c := 110) hq21), if_neg (sw_ne (c := 119) hq24)]) (by decide) ?_
  refine j_iconst (pc := 232) (v := (0 : Int32)) hX dX7_take_232 ci_0 ?_
  exact j_zret (pc := 233) hX rfl dX7_take_233
theorem mX7_take (l : Launch) (E : jE) (hI : jInj (gX E)) (fu : Nat) (k0 : Nat) (hk0 : tX k0 = 1) (x1 : Int32) (M : Mem) : jMet l (gX E) yX7_take cX7_take 6 (some .boolean) rX7_take [.ref (gad (gX E) 3), .int x1, .ref (gad (gX E) k0)] M (pX7_take fu k0 x1 M) :=
  j_entry hI (by decide +kernel) (Nat.le_of_ble_eq_true rfl) rfl (fun X _ hX => wX7_take hX fu k0 hk0 x1 M)
theorem qX7_firstFault : jYv yX7_firstFault cX7_firstFault 7 (some .int) 2 := ⟨tw_298, tw_299, tw_59, tw_300, ⟨by decide +kernel, by decide +kernel, by decide +kernel⟩⟩
abbrev rX7_firstFault : Room := { frames := 3, cells := 0, slots := 0, locals := 70 }
def uX7_firstFault : jM := (cX7_firstFault, 7, RX7, (some .int), rX7_firstFault)
def pX7_firstFault_65 (fu : Nat) (k0 : Nat) (x3 : Int32) (x4 : Int32) (x5 : Int32) (x6 : Int32) (M : Mem) (c12 : Int32 → Int32 → Int32 → Mem → Res) : Res :=
  bI (pX7_split fu x4 M) fun r7 M6 =>
  if r7 = 0 then (
    some (x4, M6))
  else
  bI (pX7_take fu k0 x6 M6) fun r9 M8 =>
  if r9 = 0 then (
    some (x4, M8))
  else
  c12 x3 (M8 3 2) (x5 + (1 : Int32)) M8
set_option maxRecDepth 100000 in
theorem wX7_firstFault_65 {E : jE} {X : jC} (hX : jOk X uX7_firstFault (gX E)) (fu : Nat) (k0 : Nat) (hk0 : tX k0 = 1) (x3 : Int32) (x4 : Int32) (x5 : Int32) (x6 : Int32) (M : Mem) (c12 : Int32 → Int32 → Int32 → Mem → Res) (hc12 : ∀ (x3 : Int32) (x4 : Int32) (x5 : Int32) (M : Mem), J X uX7_firstFault (gX E) 12 [(0, .ref (gad (gX E) 3)), (1, .ref (gad (gX E) 1)), (2, .ref (gad (gX E) k0)), (3, .int x3), (4, .int x4), (5, .int x5)] [] M (c12 x3 x4 x5 M)) : J X uX7_firstFault (gX E) 65 [(0, .ref (gad (gX E) 3)), (1, .ref (gad (gX E) 1)), (2, .ref (gad (gX E) k0)), (3, .int x3), (4, .int x4), (5, .int x5), (6, .int x6)] [] M (pX7_firstFault_65 fu k0 x3 x4 x5 x6 M c12) := by
  unfold pX7_firstFault_65
  refine j_aload_n (pc := 65) hX 0 dX7_firstFault_65 rfl rfl ?_
  refine j_aload_n (pc := 66) hX 1 dX7_firstFault_66 rfl rfl ?_
  refine j_iload (pc := 67) hX 4 dX7_firstFault_67 rfl ?_
  refine j_callV (pc := 69) hX [.ref (gad (gX E) 1), .int x4] (mX7_split _ E hX.2.2.2.2.2.2.2.2.1 fu   x4 M) qX7_split tw_316 (jb rfl) rfl (ci := 6) (T := TX7) (N := 3) rfl (jb rfl) rfl ⟨rfl, rfl⟩ ⟨(Nat.le_of_ble_eq_true rfl), (Nat.le_of_ble_eq_true rfl)⟩ (Nat.le_of_ble_eq_true rfl) dX7_firstFault_69 (fun _ => rfl) rfl (fun r7 M6 => ?_)
  refine j_if_eq (pc := 72) hX 85 dX7_firstFault_72 (by decide) ?_ ?_
  · refine j_iload (pc := 85) hX 4 dX7_firstFault_85 rfl ?_
    exact j_iret (pc := 87) hX rfl dX7_firstFault_87
  · refine j_aload_n (pc := 75) hX 0 dX7_firstFault_75 rfl rfl ?_
    refine j_iload (pc := 76) hX 6 dX7_firstFault_76 rfl ?_
    refine j_aload_n (pc := 78) hX 2 dX7_firstFault_78 rfl rfl ?_
    refine j_callV (pc := 79) hX [.int x6, .ref (gad (gX E) k0)] (mX7_take _ E hX.2.2.2.2.2.2.2.2.1 fu k0 hk0 x6 M6) qX7_take tw_323 (jb rfl) rfl (ci := 6) (T := TX7) (N := 3) rfl (jb rfl) rfl ⟨rfl, rfl⟩ ⟨(Nat.le_of_ble_eq_true rfl), (Nat.le_of_ble_eq_true rfl)⟩ (Nat.le_of_ble_eq_true rfl) dX7_firstFault_79 (fun _ => rfl) rfl (fun r9 M8 => ?_)
    refine j_if_ne (pc := 82) hX 88 dX7_firstFault_82 (by decide) ?_ ?_
    · refine j_aload_n (pc := 88) hX 0 dX7_firstFault_88 rfl rfl ?_
      refine j_getI (pc := 89) hX (jb rfl) rfl (ci := 6) (C := RX7) (T := TX7) (N := 3) rfl (jb rfl) inX7 (j := 2) (jb rfl) rfl tw_105 dX7_firstFault_89 ?_
      refine j_istore (pc := 92) (lv' := [(4, .int (M8 3 2)), (0, .ref (gad (gX E) 3)), (1, .ref (gad (gX E) 1)), (2, .ref (gad (gX E) k0)), (3, .int x3), (5, .int x5), (6, .int x6)]) hX dX7_firstFault_92 (jb rfl) rfl ?_
      refine j_iinc (pc := 94) (v := (x5 + (1 : Int32))) (lv' := [(5, .int (x5 + (1 : Int32))), (4, .int (M8 3 2)), (0, .ref (gad (gX E) 3)), (1, .ref (gad (gX E) 1)), (2, .ref (gad (gX E) k0)), (3, .int x3), (6, .int x6)]) hX 5 dX7_firstFault_94 rfl (by rw [ci_1]) (jb rfl) rfl ?_
      refine j_goto (pc := 97) hX 12 dX7_firstFault_97 (by decide) ?_
      exact j_sub [2, 3, 4, 5, 1, 0] rfl (hc12 x3 (M8 3 2) (x5 + (1 : Int32)) M8)
    · refine j_iload (pc := 85) hX 4 dX7_firstFault_85 rfl ?_
      exact j_iret (pc := 87) hX rfl dX7_firstFault_87
def pX7_firstFault_53 (fu : Nat) (k0 : Nat) (x4 : Int32) (x5 : Int32) (x6 : Int32) (s0 : Int32) (M : Mem) (c12 : Int32 → Int32 → Int32 → Mem → Res) : Res :=
  if x6 = (110 : Int32) then (
    if s0 = 0 then (
      some (x4, M))
    else
    pX7_firstFault_65 fu k0 s0 x4 x5 x6 M c12)
  else
  pX7_firstFault_65 fu k0 s0 x4 x5 x6 M c12
set_option maxRecDepth 100000 in
theorem wX7_firstFault_53 {E : jE} {X : jC} (hX : jOk X uX7_firstFault (gX E)) (fu : Nat) (k0 : Nat) (hk0 : tX k0 = 1) (x4 : Int32) (x5 : Int32) (x6 : Int32) (s0 : Int32) (M : Mem) (c12 : Int32 → Int32 → Int32 → Mem → Res) (hc12 : ∀ (x3 : Int32) (x4 : Int32) (x5 : Int32) (M : Mem), J X uX7_firstFault (gX E) 12 [(0, .ref (gad (gX E) 3)), (1, .ref (gad (gX E) 1)), (2, .ref (gad (gX E) k0)), (3, .int x3), (4, .int x4), (5, .int x5)] [] M (c12 x3 x4 x5 M)) : J X uX7_firstFault (gX E) 53 [(0, .ref (gad (gX E) 3)), (1, .ref (gad (gX E) 1)), (2, .ref (gad (gX E) k0)), (4, .int x4), (5, .int x5), (6, .int x6)] [.int s0] M (pX7_firstFault_53 fu k0 x4 x5 x6 s0 M c12) := by
  unfold pX7_firstFault_53
  refine j_istore_n (pc := 53) (lv' := [(3, .int s0), (0, .ref (gad (gX E) 3)), (1, .ref (gad (gX E) 1)), (2, .ref (gad (gX E) k0)), (4, .int x4), (5, .int x5), (6, .int x6)]) hX dX7_firstFault_53 rfl (jb rfl) rfl ?_
  refine j_iload (pc := 54) hX 6 dX7_firstFault_54 rfl ?_
  refine j_bipush (pc := 56) (v := (110 : Int32)) hX dX7_firstFault_56 cb_110 ?_
  refine j_icmp_ne (pc := 58) hX 65 dX7_firstFault_58 (by decide) ?_ ?_
  · exact j_sub [1, 2, 3, 0, 4, 5, 6] rfl (wX7_firstFault_65 hX fu k0 hk0 s0 x4 x5 x6 M c12 hc12)
  · refine j_iload_n (pc := 61) hX 0 dX7_firstFault_61 rfl rfl ?_
    refine j_if_eq (pc := 62) hX 85 dX7_firstFault_62 (by decide) ?_ ?_
    · refine j_iload (pc := 85) hX 4 dX7_firstFault_85 rfl ?_
      exact j_iret (pc := 87) hX rfl dX7_firstFault_87
    · exact j_sub [1, 2, 3, 0, 4, 5, 6] rfl (wX7_firstFault_65 hX fu k0 hk0 s0 x4 x5 x6 M c12 hc12)
def pX7_firstFault_52 (fu : Nat) (k0 : Nat) (x4 : Int32) (x5 : Int32) (x6 : Int32) (M : Mem) (c12 : Int32 → Int32 → Int32 → Mem → Res) : Res :=
  pX7_firstFault_53 fu k0 x4 x5 x6 (0 : Int32) M c12
set_option maxRecDepth 100000 in
theorem wX7_firstFault_52 {E : jE} {X : jC} (hX : jOk X uX7_firstFault (gX E)) (fu : Nat) (k0 : Nat) (hk0 : tX k0 = 1) (x4 : Int32) (x5 : Int32) (x6 : Int32) (M : Mem) (c12 : Int32 → Int32 → Int32 → Mem → Res) (hc12 : ∀ (x3 : Int32) (x4 : Int32) (x5 : Int32) (M : Mem), J X uX7_firstFault (gX E) 12 [(0, .ref (gad (gX E) 3)), (1, .ref (gad (gX E) 1)), (2, .ref (gad (gX E) k0)), (3, .int x3), (4, .int x4), (5, .int x5)] [] M (c12 x3 x4 x5 M)) : J X uX7_firstFault (gX E) 52 [(0, .ref (gad (gX E) 3)), (1, .ref (gad (gX E) 1)), (2, .ref (gad (gX E) k0)), (4, .int x4), (5, .int x5), (6, .int x6)] [] M (pX7_firstFault_52 fu k0 x4 x5 x6 M c12) := by
  unfold pX7_firstFault_52
  refine j_iconst (pc := 52) (v := (0 : Int32)) hX dX7_firstFault_52 ci_0 ?_
  exact j_sub [0, 1, 2, 3, 4, 5] rfl (wX7_firstFault_53 hX fu k0 hk0 x4 x5 x6 (0 : Int32) M c12 hc12)
def pX7_firstFault_12b (fu : Nat) (k0 : Nat) (x3 : Int32) (x4 : Int32) (x5 : Int32) (M : Mem) (c12 : Int32 → Int32 → Int32 → Mem → Res) : Res :=
  if (200 : Int32) ≤ x5 then (
    some ((-4 : Int32), M))
  else
  bI (pX5_length fu  M) fun r3 M2 =>
  if r3 ≤ x4 then (
    some ((-4 : Int32), M2))
  else
  bI (pX5_at fu x4 M2) fun r5 M4 =>
  if x3 = 0 then (
    pX7_firstFault_52 fu k0 x4 x5 r5 M4 c12)
  else
  if r5 = (110 : Int32) then (
    pX7_firstFault_53 fu k0 x4 x5 r5 (1 : Int32) M4 c12)
  else
  pX7_firstFault_52 fu k0 x4 x5 r5 M4 c12
set_option maxRecDepth 100000 in
theorem wX7_firstFault_12b {E : jE} {X : jC} (hX : jOk X uX7_firstFault (gX E)) (fu : Nat) (k0 : Nat) (hk0 : tX k0 = 1) (x3 : Int32) (x4 : Int32) (x5 : Int32) (M : Mem) (c12 : Int32 → Int32 → Int32 → Mem → Res) (hc12 : ∀ (x3 : Int32) (x4 : Int32) (x5 : Int32) (M : Mem), J X uX7_firstFault (gX E) 12 [(0, .ref (gad (gX E) 3)), (1, .ref (gad (gX E) 1)), (2, .ref (gad (gX E) k0)), (3, .int x3), (4, .int x4), (5, .int x5)] [] M (c12 x3 x4 x5 M)) : J X uX7_firstFault (gX E) 12 [(0, .ref (gad (gX E) 3)), (1, .ref (gad (gX E) 1)), (2, .ref (gad (gX E) k0)), (3, .int x3), (4, .int x4), (5, .int x5)] [] M (pX7_firstFault_12b fu k0 x3 x4 x5 M c12) := by
  unfold pX7_firstFault_12b
  refine j_iload (pc := 12) hX 5 dX7_firstFault_12 rfl ?_
  refine j_sipush (pc := 14) (v := (200 : Int32)) hX dX7_firstFault_14 cs_200 ?_
  refine j_icmp_ge (pc := 17) hX 100 dX7_firstFault_17 (by decide) ?_ ?_
  · refine j_bipush (pc := 100) (v := (-4 : Int32)) hX dX7_firstFault_100 cb_m4 ?_
    exact j_iret (pc := 102) hX rfl dX7_firstFault_102
  · refine j_iload (pc := 20) hX 4 dX7_firstFault_20 rfl ?_
    refine j_aload_n (pc := 22) hX 1 dX7_firstFault_22 rfl rfl ?_
    refine j_callV (pc := 23) hX [] (mX5_length _ E hX.2.2.2.2.2.2.2.2.1 fu    M) qX5_length tw_308 (jb rfl) rfl (ci := 5) (T := TX5) (N := 2) rfl (jb rfl) rfl ⟨rfl, rfl⟩ ⟨(Nat.le_of_ble_eq_true rfl), (Nat.le_of_ble_eq_true rfl)⟩ (Nat.le_of_ble_eq_true rfl) dX7_firstFault_23 (fun _ => rfl) rfl (fun r3 M2 => ?_)
    refine j_icmp_ge (pc := 26) hX 100 dX7_firstFault_26 (by decide) ?_ ?_
    · refine j_bipush (pc := 100) (v := (-4 : Int32)) hX dX7_firstFault_100 cb_m4 ?_
      exact j_iret (pc := 102) hX rfl dX7_firstFault_102
    · refine j_aload_n (pc := 29) hX 1 dX7_firstFault_29 rfl rfl ?_
      refine j_iload (pc := 30) hX 4 dX7_firstFault_30 rfl ?_
      refine j_callV (pc := 32) hX [.int x4] (mX5_at _ E hX.2.2.2.2.2.2.2.2.1 fu   x4 M2) qX5_at tw_312 (jb rfl) rfl (ci := 5) (T := TX5) (N := 2) rfl (jb rfl) rfl ⟨rfl, rfl⟩ ⟨(Nat.le_of_ble_eq_true rfl), (Nat.le_of_ble_eq_true rfl)⟩ (Nat.le_of_ble_eq_true rfl) dX7_firstFault_32 (fun _ => rfl) rfl (fun r5 M4 => ?_)
      refine j_istore (pc := 35) (lv' := [(6, .int r5), (0, .ref (gad (gX E) 3)), (1, .ref (gad (gX E) 1)), (2, .ref (gad (gX E) k0)), (3, .int x3), (4, .int x4), (5, .int x5)]) hX dX7_firstFault_35 (jb rfl) rfl ?_
      refine j_iload_n (pc := 37) hX 4 dX7_firstFault_37 rfl rfl ?_
      refine j_if_eq (pc := 38) hX 52 dX7_firstFault_38 (by decide) ?_ ?_
      · exact j_sub [1, 2, 3, 5, 6, 0] rfl (wX7_firstFault_52 hX fu k0 hk0 x4 x5 r5 M4 c12 hc12)
      · refine j_iload (pc := 41) hX 0 dX7_firstFault_41 rfl ?_
        refine j_bipush (pc := 43) (v := (110 : Int32)) hX dX7_firstFault_43 cb_110 ?_
        refine j_icmp_ne (pc := 45) hX 52 dX7_firstFault_45 (by decide) ?_ ?_
        · exact j_sub [1, 2, 3, 5, 6, 0] rfl (wX7_firstFault_52 hX fu k0 hk0 x4 x5 r5 M4 c12 hc12)
        · refine j_iconst (pc := 48) (v := (1 : Int32)) hX dX7_firstFault_48 ci_1 ?_
          refine j_goto (pc := 49) hX 53 dX7_firstFault_49 (by decide) ?_
          exact j_sub [1, 2, 3, 5, 6, 0] rfl (wX7_firstFault_53 hX fu k0 hk0 x4 x5 r5 (1 : Int32) M4 c12 hc12)
def pX7_firstFault_12 (fu : Nat) (k0 : Nat)  : Nat → Int32 → Int32 → Int32 → Mem → Res
  | 0, _, _, _, _ => none
  | n + 1, x3, x4, x5, M => pX7_firstFault_12b fu k0 x3 x4 x5 M (pX7_firstFault_12 fu k0  n)
theorem wX7_firstFault_12 {E : jE} {X : jC} (hX : jOk X uX7_firstFault (gX E)) (fu : Nat) (k0 : Nat) (hk0 : tX k0 = 1)   : ∀ (n : Nat) (x3 : Int32) (x4 : Int32) (x5 : Int32) (M : Mem), J X uX7_firstFault (gX E) 12 [(0, .ref (gad (gX E) 3)), (1, .ref (gad (gX E) 1)), (2, .ref (gad (gX E) k0)), (3, .int x3), (4, .int x4), (5, .int x5)] [] M (pX7_firstFault_12 fu k0  n x3 x4 x5 M) := by
  intro n
  induction n with
  | zero => intro x3 x4 x5 M; exact j_none
  | succ n ih => intro x3 x4 x5 M; exact wX7_firstFault_12b hX fu k0 hk0 x3 x4 x5 M (pX7_firstFault_12 fu k0  n) ih
def pX7_firstFault (fu : Nat) (k0 : Nat)  (M : Mem) : Res :=
  bV (pX1_clear fu k0 M) fun M1 =>
  pX7_firstFault_12 fu k0
    fu (1 : Int32) (0 : Int32) (0 : Int32) M1
set_option maxRecDepth 100000 in
theorem wX7_firstFault {E : jE} {X : jC} (hX : jOk X uX7_firstFault (gX E)) (fu : Nat) (k0 : Nat) (hk0 : tX k0 = 1)  (M : Mem) : J X uX7_firstFault (gX E) 0 [(0, .ref (gad (gX E) 3)), (1, .ref (gad (gX E) 1)), (2, .ref (gad (gX E) k0))] [] M (pX7_firstFault fu k0  M) := by
  unfold pX7_firstFault
  refine j_aload_n (pc := 0) hX 2 dX7_firstFault_0 rfl rfl ?_
  refine j_callVv (pc := 1) hX [] (mX1_clear _ E hX.2.2.2.2.2.2.2.2.1 fu k0 hk0  M) qX1_clear tw_301 (hc hk0) hk0 (ci := 1) (T := TX1) (N := 13) rfl (jb rfl) rfl ⟨rfl, rfl⟩ ⟨(Nat.le_of_ble_eq_true rfl), (Nat.le_of_ble_eq_true rfl)⟩ (Nat.le_of_ble_eq_true rfl) dX7_firstFault_1 rfl (fun M1 => ?_)
  refine j_iconst (pc := 4) (v := (1 : Int32)) hX dX7_firstFault_4 ci_1 ?_
  refine j_istore_n (pc := 5) (lv' := [(3, .int (1 : Int32)), (0, .ref (gad (gX E) 3)), (1, .ref (gad (gX E) 1)), (2, .ref (gad (gX E) k0))]) hX dX7_firstFault_5 rfl (jb rfl) rfl ?_
  refine j_iconst (pc := 6) (v := (0 : Int32)) hX dX7_firstFault_6 ci_0 ?_
  refine j_istore (pc := 7) (lv' := [(4, .int (0 : Int32)), (3, .int (1 : Int32)), (0, .ref (gad (gX E) 3)), (1, .ref (gad (gX E) 1)), (2, .ref (gad (gX E) k0))]) hX dX7_firstFault_7 (jb rfl) rfl ?_
  refine j_iconst (pc := 9) (v := (0 : Int32)) hX dX7_firstFault_9 ci_0 ?_
  refine j_istore (pc := 10) (lv' := [(5, .int (0 : Int32)), (4, .int (0 : Int32)), (3, .int (1 : Int32)), (0, .ref (gad (gX E) 3)), (1, .ref (gad (gX E) 1)), (2, .ref (gad (gX E) k0))]) hX dX7_firstFault_10 (jb rfl) rfl ?_
  refine j_sub [3, 4, 5, 2, 1, 0] rfl (wX7_firstFault_12 hX fu k0 hk0   fu (1 : Int32) (0 : Int32) (0 : Int32) M1)
theorem mX7_firstFault (l : Launch) (E : jE) (hI : jInj (gX E)) (fu : Nat) (k0 : Nat) (hk0 : tX k0 = 1)  (M : Mem) : jMet l (gX E) yX7_firstFault cX7_firstFault 7 (some .int) rX7_firstFault [.ref (gad (gX E) 3), .ref (gad (gX E) 1), .ref (gad (gX E) k0)] M (pX7_firstFault fu k0  M) :=
  j_entry hI (by decide +kernel) (Nat.le_of_ble_eq_true rfl) rfl (fun X _ hX => wX7_firstFault hX fu k0 hk0  M)
theorem qX8_size : jYv yX8_size cX8_size 1 (some .int) 0 := ⟨tw_661, tw_662, tw_62, tw_663, ⟨by decide +kernel, by decide +kernel, by decide +kernel⟩⟩
abbrev rX8_size : Room := { frames := 0, cells := 0, slots := 0, locals := 0 }
def uX8_size : jM := (cX8_size, 1, RX8, (some .int), rX8_size)
def pX8_size (fu : Nat) (k0 : Nat)  (M : Mem) : Res :=
  some ((M k0 2), M)
set_option maxRecDepth 100000 in
theorem wX8_size {E : jE} {X : jC} (hX : jOk X uX8_size (gX E)) (fu : Nat) (k0 : Nat) (hk0 : tX k0 = 7)  (M : Mem) : J X uX8_size (gX E) 0 [(0, .ref (gad (gX E) k0))] [] M (pX8_size fu k0  M) := by
  unfold pX8_size
  refine j_aload_n (pc := 0) hX 0 dX8_size_0 rfl rfl ?_
  refine j_getI (pc := 1) hX (hs hk0).1 hk0 (ci := 7) (C := RX8) (T := TX8) (N := 3) rfl (jb rfl) inX8 (j := 2) (jb rfl) (rf_sn hk0 (by decide)) tw_184 dX8_size_1 ?_
  exact j_iret (pc := 4) hX rfl dX8_size_4
theorem mX8_size (l : Launch) (E : jE) (hI : jInj (gX E)) (fu : Nat) (k0 : Nat) (hk0 : tX k0 = 7)  (M : Mem) : jMet l (gX E) yX8_size cX8_size 1 (some .int) rX8_size [.ref (gad (gX E) k0)] M (pX8_size fu k0  M) :=
  j_entry hI (by decide +kernel) (Nat.le_of_ble_eq_true rfl) rfl (fun X _ hX => wX8_size hX fu k0 hk0  M)
theorem qX8_clear : jYv yX8_clear cX8_clear 1 none 0 := ⟨tw_413, tw_414, tw_62, tw_415, ⟨by decide +kernel, by decide +kernel, by decide +kernel⟩⟩
abbrev rX8_clear : Room := { frames := 0, cells := 0, slots := 0, locals := 0 }
def uX8_clear : jM := (cX8_clear, 1, RX8, none, rX8_clear)
def pX8_clear (fu : Nat) (k0 : Nat)  (M : Mem) : Res :=
  fpt M k0 2 (0 : Int32) fun M1 =>
  some (0, M1)
set_option maxRecDepth 100000 in
theorem wX8_clear {E : jE} {X : jC} (hX : jOk X uX8_clear (gX E)) (fu : Nat) (k0 : Nat) (hk0 : tX k0 = 7)  (M : Mem) : J X uX8_clear (gX E) 0 [(0, .ref (gad (gX E) k0))] [] M (pX8_clear fu k0  M) := by
  unfold pX8_clear
  refine j_aload_n (pc := 0) hX 0 dX8_clear_0 rfl rfl ?_
  refine j_iconst (pc := 1) (v := (0 : Int32)) hX dX8_clear_1 ci_0 ?_
  refine j_putI (pc := 2) hX (hs hk0).1 hk0 (ci := 7) (C := RX8) (T := TX8) (N := 3) rfl (jb rfl) inX8 tyX8 tyX8_ok nmX8 (j := 2) (jb rfl) (rf_sn hk0 (by decide)) tw_184 rfl (tyX8_ok 2 (jb rfl)) dX8_clear_2 (fun M1 => ?_)
  exact j_vret (pc := 5) hX rfl dX8_clear_5
theorem mX8_clear (l : Launch) (E : jE) (hI : jInj (gX E)) (fu : Nat) (k0 : Nat) (hk0 : tX k0 = 7)  (M : Mem) : jMet l (gX E) yX8_clear cX8_clear 1 none rX8_clear [.ref (gad (gX E) k0)] M (pX8_clear fu k0  M) :=
  j_entry hI (by decide +kernel) (Nat.le_of_ble_eq_true rfl) rfl (fun X _ hX => wX8_clear hX fu k0 hk0  M)
theorem qX8_push : jYv yX8_push cX8_push 2 none 1 := ⟨tw_576, tw_577, tw_62, tw_578, ⟨by decide +kernel, by decide +kernel, by decide +kernel⟩⟩
abbrev rX8_push : Room := { frames := 2, cells := 0, slots := 0, locals := 101 }
def uX8_push : jM := (cX8_push, 2, RX8, none, rX8_push)
def pX8_push_25 (fu : Nat) (k0 : Nat) (k1 : Nat) (s0 : Int32) (M : Mem)  : Res :=
  fpt M k0 1 s0 fun M1 =>
  fpt M1 k0 2 (imin ((M1 k0 2) + (1 : Int32)) (Int32.ofNat (lX (k0 + 1)))) fun M2 =>
  if (M2 k0 1) < 0 then (
    some (0, M2))
  else
  if (Int32.ofNat (lX (k0 + 1))) ≤ (M2 k0 1) then (
    some (0, M2))
  else
  ldr (lX (k0 + 1)) (M2 k0 1) fun q3 =>
  ldr (lX (k0 + 1)) (M2 k0 1) fun q5 =>
  bV (pX4_copy fu ((k0 + 1) + 1 + 2 * q5) k1 M2) fun M7 =>
  some (0, M7)
set_option maxRecDepth 100000 in
theorem wX8_push_25 {E : jE} {X : jC} (hX : jOk X uX8_push (gX E)) (fu : Nat) (k0 : Nat) (k1 : Nat) (hk0 : tX k0 = 7) (hk1 : tX k1 = 4) (s0 : Int32) (M : Mem)   : J X uX8_push (gX E) 25 [(0, .ref (gad (gX E) k0)), (1, .ref (gad (gX E) k1))] [.int s0, .ref (gad (gX E) k0)] M (pX8_push_25 fu k0 k1 s0 M ) := by
  unfold pX8_push_25
  refine j_putI (pc := 25) hX (hs hk0).1 hk0 (ci := 7) (C := RX8) (T := TX8) (N := 3) rfl (jb rfl) inX8 tyX8 tyX8_ok nmX8 (j := 1) (jb rfl) (rf_sn hk0 (by decide)) tw_183 rfl (tyX8_ok 1 (jb rfl)) dX8_push_25 (fun M1 => ?_)
  refine j_aload_n (pc := 28) hX 0 dX8_push_28 rfl rfl ?_
  refine j_aload_n (pc := 29) hX 0 dX8_push_29 rfl rfl ?_
  refine j_getI (pc := 30) hX (hs hk0).1 hk0 (ci := 7) (C := RX8) (T := TX8) (N := 3) rfl (jb rfl) inX8 (j := 2) (jb rfl) (rf_sn hk0 (by decide)) tw_184 dX8_push_30 ?_
  refine j_iconst (pc := 33) (v := (1 : Int32)) hX dX8_push_33 ci_1 ?_
  refine j_iadd (pc := 34) hX dX8_push_34 ?_
  refine j_aload_n (pc := 35) hX 0 dX8_push_35 rfl rfl ?_
  refine j_getR (pc := 36) (t := (k0 + 1)) hX (hs hk0).1 hk0 (ci := 7) (C := RX8) (T := TX8) (N := 3) rfl (jb rfl) inX8 (j := 0) (jb rfl) (rf_s0 hk0) tw_182 dX8_push_36 ?_
  refine j_alenR (pc := 39) (n := (lX (k0 + 1))) (v := (Int32.ofNat (lX (k0 + 1)))) hX (hs hk0).2.2 (hs hk0).2.1 rfl rfl dX8_push_39 ?_
  refine j_min (pc := 40) hX tw_579 tw_376 tw_71 tw_377 (Nat.le_of_ble_eq_true rfl) (Nat.le_of_ble_eq_true rfl) dX8_push_40 ?_
  refine j_putI (pc := 43) hX (hs hk0).1 hk0 (ci := 7) (C := RX8) (T := TX8) (N := 3) rfl (jb rfl) inX8 tyX8 tyX8_ok nmX8 (j := 2) (jb rfl) (rf_sn hk0 (by decide)) tw_184 rfl (tyX8_ok 2 (jb rfl)) dX8_push_43 (fun M2 => ?_)
  refine j_aload_n (pc := 46) hX 0 dX8_push_46 rfl rfl ?_
  refine j_getI (pc := 47) hX (hs hk0).1 hk0 (ci := 7) (C := RX8) (T := TX8) (N := 3) rfl (jb rfl) inX8 (j := 1) (jb rfl) (rf_sn hk0 (by decide)) tw_183 dX8_push_47 ?_
  refine j_if_lt (pc := 50) hX 90 dX8_push_50 (by decide) ?_ ?_
  · exact j_vret (pc := 90) hX rfl dX8_push_90
  · refine j_aload_n (pc := 53) hX 0 dX8_push_53 rfl rfl ?_
    refine j_getI (pc := 54) hX (hs hk0).1 hk0 (ci := 7) (C := RX8) (T := TX8) (N := 3) rfl (jb rfl) inX8 (j := 1) (jb rfl) (rf_sn hk0 (by decide)) tw_183 dX8_push_54 ?_
    refine j_aload_n (pc := 57) hX 0 dX8_push_57 rfl rfl ?_
    refine j_getR (pc := 58) (t := (k0 + 1)) hX (hs hk0).1 hk0 (ci := 7) (C := RX8) (T := TX8) (N := 3) rfl (jb rfl) inX8 (j := 0) (jb rfl) (rf_s0 hk0) tw_182 dX8_push_58 ?_
    refine j_alenR (pc := 61) (n := (lX (k0 + 1))) (v := (Int32.ofNat (lX (k0 + 1)))) hX (hs hk0).2.2 (hs hk0).2.1 rfl rfl dX8_push_61 ?_
    refine j_icmp_ge (pc := 62) hX 90 dX8_push_62 (by decide) ?_ ?_
    · exact j_vret (pc := 90) hX rfl dX8_push_90
    · refine j_aload_n (pc := 65) hX 0 dX8_push_65 rfl rfl ?_
      refine j_getR (pc := 66) (t := (k0 + 1)) hX (hs hk0).1 hk0 (ci := 7) (C := RX8) (T := TX8) (N := 3) rfl (jb rfl) inX8 (j := 0) (jb rfl) (rf_s0 hk0) tw_182 dX8_push_66 ?_
      refine j_aload_n (pc := 69) hX 0 dX8_push_69 rfl rfl ?_
      refine j_getI (pc := 70) hX (hs hk0).1 hk0 (ci := 7) (C := RX8) (T := TX8) (N := 3) rfl (jb rfl) inX8 (j := 1) (jb rfl) (rf_sn hk0 (by decide)) tw_183 dX8_push_70 ?_
      refine j_aald (pc := 73) hX (hs hk0).2.2 (hs hk0).2.1 rfl dX8_push_73 (fun q3 hq4 => ?_)
      refine j_ifnull (pc := 74) hX dX8_push_74 ?_
      refine j_aload_n (pc := 77) hX 0 dX8_push_77 rfl rfl ?_
      refine j_getR (pc := 78) (t := (k0 + 1)) hX (hs hk0).1 hk0 (ci := 7) (C := RX8) (T := TX8) (N := 3) rfl (jb rfl) inX8 (j := 0) (jb rfl) (rf_s0 hk0) tw_182 dX8_push_78 ?_
      refine j_aload_n (pc := 81) hX 0 dX8_push_81 rfl rfl ?_
      refine j_getI (pc := 82) hX (hs hk0).1 hk0 (ci := 7) (C := RX8) (T := TX8) (N := 3) rfl (jb rfl) inX8 (j := 1) (jb rfl) (rf_sn hk0 (by decide)) tw_183 dX8_push_82 ?_
      refine j_aald (pc := 85) hX (hs hk0).2.2 (hs hk0).2.1 rfl dX8_push_85 (fun q5 hq6 => ?_)
      refine j_aload_n (pc := 86) hX 1 dX8_push_86 rfl rfl ?_
      refine j_callVv (pc := 87) hX [.ref (gad (gX E) k1)] (mX4_copy _ E hX.2.2.2.2.2.2.2.2.1 fu ((k0 + 1) + 1 + 2 * q5) k1 (he (hs hk0).2.1 hq6) hk1  M2) qX4_copy tw_580 (hh (he (hs hk0).2.1 hq6)).1 (he (hs hk0).2.1 hq6) (ci := 4) (T := TX4) (N := 2) rfl (jb rfl) rfl ⟨rfl, rfl⟩ ⟨(Nat.le_of_ble_eq_true rfl), (Nat.le_of_ble_eq_true rfl)⟩ (Nat.le_of_ble_eq_true rfl) dX8_push_87 rfl (fun M7 => ?_)
      exact j_vret (pc := 90) hX rfl dX8_push_90
def pX8_push (fu : Nat) (k0 : Nat) (k1 : Nat)  (M : Mem) : Res :=
  if (Int32.ofNat (lX (k0 + 1))) ≤ ((M k0 1) + (1 : Int32)) then (
    pX8_push_25 fu k0 k1 (0 : Int32) M )
  else
  pX8_push_25 fu k0 k1 ((M k0 1) + (1 : Int32)) M 
set_option maxRecDepth 100000 in
theorem wX8_push {E : jE} {X : jC} (hX : jOk X uX8_push (gX E)) (fu : Nat) (k0 : Nat) (k1 : Nat) (hk0 : tX k0 = 7) (hk1 : tX k1 = 4)  (M : Mem) : J X uX8_push (gX E) 0 [(0, .ref (gad (gX E) k0)), (1, .ref (gad (gX E) k1))] [] M (pX8_push fu k0 k1  M) := by
  unfold pX8_push
  refine j_aload_n (pc := 0) hX 0 dX8_push_0 rfl rfl ?_
  refine j_aload_n (pc := 1) hX 0 dX8_push_1 rfl rfl ?_
  refine j_getI (pc := 2) hX (hs hk0).1 hk0 (ci := 7) (C := RX8) (T := TX8) (N := 3) rfl (jb rfl) inX8 (j := 1) (jb rfl) (rf_sn hk0 (by decide)) tw_183 dX8_push_2 ?_
  refine j_iconst (pc := 5) (v := (1 : Int32)) hX dX8_push_5 ci_1 ?_
  refine j_iadd (pc := 6) hX dX8_push_6 ?_
  refine j_aload_n (pc := 7) hX 0 dX8_push_7 rfl rfl ?_
  refine j_getR (pc := 8) (t := (k0 + 1)) hX (hs hk0).1 hk0 (ci := 7) (C := RX8) (T := TX8) (N := 3) rfl (jb rfl) inX8 (j := 0) (jb rfl) (rf_s0 hk0) tw_182 dX8_push_8 ?_
  refine j_alenR (pc := 11) (n := (lX (k0 + 1))) (v := (Int32.ofNat (lX (k0 + 1)))) hX (hs hk0).2.2 (hs hk0).2.1 rfl rfl dX8_push_11 ?_
  refine j_icmp_ge (pc := 12) hX 24 dX8_push_12 (by decide) ?_ ?_
  · refine j_iconst (pc := 24) (v := (0 : Int32)) hX dX8_push_24 ci_0 ?_
    exact j_sub [0, 1] rfl (wX8_push_25 hX fu k0 k1 hk0 hk1 (0 : Int32) M  )
  · refine j_aload_n (pc := 15) hX 0 dX8_push_15 rfl rfl ?_
    refine j_getI (pc := 16) hX (hs hk0).1 hk0 (ci := 7) (C := RX8) (T := TX8) (N := 3) rfl (jb rfl) inX8 (j := 1) (jb rfl) (rf_sn hk0 (by decide)) tw_183 dX8_push_16 ?_
    refine j_iconst (pc := 19) (v := (1 : Int32)) hX dX8_push_19 ci_1 ?_
    refine j_iadd (pc := 20) hX dX8_push_20 ?_
    refine j_goto (pc := 21) hX 25 dX8_push_21 (by decide) ?_
    exact j_sub [0, 1] rfl (wX8_push_25 hX fu k0 k1 hk0 hk1 ((M k0 1) + (1 : Int32)) M  )
theorem mX8_push (l : Launch) (E : jE) (hI : jInj (gX E)) (fu : Nat) (k0 : Nat) (k1 : Nat) (hk0 : tX k0 = 7) (hk1 : tX k1 = 4)  (M : Mem) : jMet l (gX E) yX8_push cX8_push 2 none rX8_push [.ref (gad (gX E) k0), .ref (gad (gX E) k1)] M (pX8_push fu k0 k1  M) :=
  j_entry hI (by decide +kernel) (Nat.le_of_ble_eq_true rfl) rfl (fun X _ hX => wX8_push hX fu k0 k1 hk0 hk1  M)
theorem qX8_pop : jYv yX8_pop cX8_pop 2 (some .boolean) 1 := ⟨tw_657, tw_658, tw_62, tw_659, ⟨by decide +kernel, by decide +kernel, by decide +kernel⟩⟩
abbrev rX8_pop : Room := { frames := 2, cells := 0, slots := 0, locals := 101 }
def uX8_pop : jM := (cX8_pop, 2, RX8, (some .boolean), rX8_pop)
def pX8_pop_77 (fu : Nat) (k0 : Nat) (k1 : Nat) (s0 : Int32) (M : Mem)  : Res :=
  fpt M k0 1 s0 fun M1 =>
  fpt M1 k0 2 ((M1 k0 2) - (1 : Int32)) fun M2 =>
  rtz (1 : Int32) M2
set_option maxRecDepth 100000 in
theorem wX8_pop_77 {E : jE} {X : jC} (hX : jOk X uX8_pop (gX E)) (fu : Nat) (k0 : Nat) (k1 : Nat) (hk0 : tX k0 = 7) (hk1 : tX k1 = 4) (s0 : Int32) (M : Mem)   : J X uX8_pop (gX E) 77 [(0, .ref (gad (gX E) k0))] [.int s0, .ref (gad (gX E) k0)] M (pX8_pop_77 fu k0 k1 s0 M ) := by
  unfold pX8_pop_77
  refine j_putI (pc := 77) hX (hs hk0).1 hk0 (ci := 7) (C := RX8) (T := TX8) (N := 3) rfl (jb rfl) inX8 tyX8 tyX8_ok nmX8 (j := 1) (jb rfl) (rf_sn hk0 (by decide)) tw_183 rfl (tyX8_ok 1 (jb rfl)) dX8_pop_77 (fun M1 => ?_)
  refine j_aload_n (pc := 80) hX 0 dX8_pop_80 rfl rfl ?_
  refine j_dup (pc := 81) hX dX8_pop_81 rfl ?_
  refine j_getI (pc := 82) hX (hs hk0).1 hk0 (ci := 7) (C := RX8) (T := TX8) (N := 3) rfl (jb rfl) inX8 (j := 2) (jb rfl) (rf_sn hk0 (by decide)) tw_184 dX8_pop_82 ?_
  refine j_iconst (pc := 85) (v := (1 : Int32)) hX dX8_pop_85 ci_1 ?_
  refine j_isub (pc := 86) hX dX8_pop_86 ?_
  refine j_putI (pc := 87) hX (hs hk0).1 hk0 (ci := 7) (C := RX8) (T := TX8) (N := 3) rfl (jb rfl) inX8 tyX8 tyX8_ok nmX8 (j := 2) (jb rfl) (rf_sn hk0 (by decide)) tw_184 rfl (tyX8_ok 2 (jb rfl)) dX8_pop_87 (fun M2 => ?_)
  refine j_iconst (pc := 90) (v := (1 : Int32)) hX dX8_pop_90 ci_1 ?_
  exact j_zret (pc := 91) hX rfl dX8_pop_91
def pX8_pop_53 (fu : Nat) (k0 : Nat) (k1 : Nat)  (M : Mem)  : Res :=
  if (M k0 1) ≤ 0 then (
    pX8_pop_77 fu k0 k1 ((Int32.ofNat (lX (k0 + 1))) - (1 : Int32)) M )
  else
  pX8_pop_77 fu k0 k1 ((M k0 1) - (1 : Int32)) M 
set_option maxRecDepth 100000 in
theorem wX8_pop_53 {E : jE} {X : jC} (hX : jOk X uX8_pop (gX E)) (fu : Nat) (k0 : Nat) (k1 : Nat) (hk0 : tX k0 = 7) (hk1 : tX k1 = 4)  (M : Mem)   : J X uX8_pop (gX E) 53 [(0, .ref (gad (gX E) k0))] [] M (pX8_pop_53 fu k0 k1  M ) := by
  unfold pX8_pop_53
  refine j_aload_n (pc := 53) hX 0 dX8_pop_53 rfl rfl ?_
  refine j_aload_n (pc := 54) hX 0 dX8_pop_54 rfl rfl ?_
  refine j_getI (pc := 55) hX (hs hk0).1 hk0 (ci := 7) (C := RX8) (T := TX8) (N := 3) rfl (jb rfl) inX8 (j := 1) (jb rfl) (rf_sn hk0 (by decide)) tw_183 dX8_pop_55 ?_
  refine j_if_le (pc := 58) hX 70 dX8_pop_58 (by decide) ?_ ?_
  · refine j_aload_n (pc := 70) hX 0 dX8_pop_70 rfl rfl ?_
    refine j_getR (pc := 71) (t := (k0 + 1)) hX (hs hk0).1 hk0 (ci := 7) (C := RX8) (T := TX8) (N := 3) rfl (jb rfl) inX8 (j := 0) (jb rfl) (rf_s0 hk0) tw_182 dX8_pop_71 ?_
    refine j_alenR (pc := 74) (n := (lX (k0 + 1))) (v := (Int32.ofNat (lX (k0 + 1)))) hX (hs hk0).2.2 (hs hk0).2.1 rfl rfl dX8_pop_74 ?_
    refine j_iconst (pc := 75) (v := (1 : Int32)) hX dX8_pop_75 ci_1 ?_
    refine j_isub (pc := 76) hX dX8_pop_76 ?_
    exact j_sub [0] rfl (wX8_pop_77 hX fu k0 k1 hk0 hk1 ((Int32.ofNat (lX (k0 + 1))) - (1 : Int32)) M  )
  · refine j_aload_n (pc := 61) hX 0 dX8_pop_61 rfl rfl ?_
    refine j_getI (pc := 62) hX (hs hk0).1 hk0 (ci := 7) (C := RX8) (T := TX8) (N := 3) rfl (jb rfl) inX8 (j := 1) (jb rfl) (rf_sn hk0 (by decide)) tw_183 dX8_pop_62 ?_
    refine j_iconst (pc := 65) (v := (1 : Int32)) hX dX8_pop_65 ci_1 ?_
    refine j_isub (pc := 66) hX dX8_pop_66 ?_
    refine j_goto (pc := 67) hX 77 dX8_pop_67 (by decide) ?_
    exact j_sub [0] rfl (wX8_pop_77 hX fu k0 k1 hk0 hk1 ((M k0 1) - (1 : Int32)) M  )
def pX8_pop (fu : Nat) (k0 : Nat) (k1 : Nat)  (M : Mem) : Res :=
  if (M k0 2) = 0 then (
    rtz (0 : Int32) M)
  else
  if (M k0 1) < 0 then (
    pX8_pop_53 fu k0 k1  M )
  else
  if (Int32.ofNat (lX (k0 + 1))) ≤ (M k0 1) then (
    pX8_pop_53 fu k0 k1  M )
  else
  ldr (lX (k0 + 1)) (M k0 1) fun q3 =>
  ldr (lX (k0 + 1)) (M k0 1) fun q5 =>
  bV (pX4_copy fu k1 ((k0 + 1) + 1 + 2 * q5) M) fun M7 =>
  pX8_pop_53 fu k0 k1  M7 
set_option maxRecDepth 100000 in
theorem wX8_pop {E : jE} {X : jC} (hX : jOk X uX8_pop (gX E)) (fu : Nat) (k0 : Nat) (k1 : Nat) (hk0 : tX k0 = 7) (hk1 : tX k1 = 4)  (M : Mem) : J X uX8_pop (gX E) 0 [(0, .ref (gad (gX E) k0)), (1, .ref (gad (gX E) k1))] [] M (pX8_pop fu k0 k1  M) := by
  unfold pX8_pop
  refine j_aload_n (pc := 0) hX 0 dX8_pop_0 rfl rfl ?_
  refine j_getI (pc := 1) hX (hs hk0).1 hk0 (ci := 7) (C := RX8) (T := TX8) (N := 3) rfl (jb rfl) inX8 (j := 2) (jb rfl) (rf_sn hk0 (by decide)) tw_184 dX8_pop_1 ?_
  refine j_if_ne (pc := 4) hX 9 dX8_pop_4 (by decide) ?_ ?_
  · refine j_aload_n (pc := 9) hX 0 dX8_pop_9 rfl rfl ?_
    refine j_getI (pc := 10) hX (hs hk0).1 hk0 (ci := 7) (C := RX8) (T := TX8) (N := 3) rfl (jb rfl) inX8 (j := 1) (jb rfl) (rf_sn hk0 (by decide)) tw_183 dX8_pop_10 ?_
    refine j_if_lt (pc := 13) hX 53 dX8_pop_13 (by decide) ?_ ?_
    · exact j_sub [0] rfl (wX8_pop_53 hX fu k0 k1 hk0 hk1  M  )
    · refine j_aload_n (pc := 16) hX 0 dX8_pop_16 rfl rfl ?_
      refine j_getI (pc := 17) hX (hs hk0).1 hk0 (ci := 7) (C := RX8) (T := TX8) (N := 3) rfl (jb rfl) inX8 (j := 1) (jb rfl) (rf_sn hk0 (by decide)) tw_183 dX8_pop_17 ?_
      refine j_aload_n (pc := 20) hX 0 dX8_pop_20 rfl rfl ?_
      refine j_getR (pc := 21) (t := (k0 + 1)) hX (hs hk0).1 hk0 (ci := 7) (C := RX8) (T := TX8) (N := 3) rfl (jb rfl) inX8 (j := 0) (jb rfl) (rf_s0 hk0) tw_182 dX8_pop_21 ?_
      refine j_alenR (pc := 24) (n := (lX (k0 + 1))) (v := (Int32.ofNat (lX (k0 + 1)))) hX (hs hk0).2.2 (hs hk0).2.1 rfl rfl dX8_pop_24 ?_
      refine j_icmp_ge (pc := 25) hX 53 dX8_pop_25 (by decide) ?_ ?_
      · exact j_sub [0] rfl (wX8_pop_53 hX fu k0 k1 hk0 hk1  M  )
      · refine j_aload_n (pc := 28) hX 0 dX8_pop_28 rfl rfl ?_
        refine j_getR (pc := 29) (t := (k0 + 1)) hX (hs hk0).1 hk0 (ci := 7) (C := RX8) (T := TX8) (N := 3) rfl (jb rfl) inX8 (j := 0) (jb rfl) (rf_s0 hk0) tw_182 dX8_pop_29 ?_
        refine j_aload_n (pc := 32) hX 0 dX8_pop_32 rfl rfl ?_
        refine j_getI (pc := 33) hX (hs hk0).1 hk0 (ci := 7) (C := RX8) (T := TX8) (N := 3) rfl (jb rfl) inX8 (j := 1) (jb rfl) (rf_sn hk0 (by decide)) tw_183 dX8_pop_33 ?_
        refine j_aald (pc := 36) hX (hs hk0).2.2 (hs hk0).2.1 rfl dX8_pop_36 (fun q3 hq4 => ?_)
        refine j_ifnull (pc := 37) hX dX8_pop_37 ?_
        refine j_aload_n (pc := 40) hX 1 dX8_pop_40 rfl rfl ?_
        refine j_aload_n (pc := 41) hX 0 dX8_pop_41 rfl rfl ?_
        refine j_getR (pc := 42) (t := (k0 + 1)) hX (hs hk0).1 hk0 (ci := 7) (C := RX8) (T := TX8) (N := 3) rfl (jb rfl) inX8 (j := 0) (jb rfl) (rf_s0 hk0) tw_182 dX8_pop_42 ?_
        refine j_aload_n (pc := 45) hX 0 dX8_pop_45 rfl rfl ?_
        refine j_getI (pc := 46) hX (hs hk0).1 hk0 (ci := 7) (C := RX8) (T := TX8) (N := 3) rfl (jb rfl) inX8 (j := 1) (jb rfl) (rf_sn hk0 (by decide)) tw_183 dX8_pop_46 ?_
        refine j_aald (pc := 49) hX (hs hk0).2.2 (hs hk0).2.1 rfl dX8_pop_49 (fun q5 hq6 => ?_)
        refine j_callVv (pc := 50) hX [.ref (gad (gX E) ((k0 + 1) + 1 + 2 * q5))] (mX4_copy _ E hX.2.2.2.2.2.2.2.2.1 fu k1 ((k0 + 1) + 1 + 2 * q5) hk1 (he (hs hk0).2.1 hq6)  M) qX4_copy tw_580 (hh hk1).1 hk1 (ci := 4) (T := TX4) (N := 2) rfl (jb rfl) rfl ⟨rfl, rfl⟩ ⟨(Nat.le_of_ble_eq_true rfl), (Nat.le_of_ble_eq_true rfl)⟩ (Nat.le_of_ble_eq_true rfl) dX8_pop_50 rfl (fun M7 => ?_)
        exact j_sub [0] rfl (wX8_pop_53 hX fu k0 k1 hk0 hk1  M7  )
  · refine j_iconst (pc := 7) (v := (0 : Int32)) hX dX8_pop_7 ci_0 ?_
    exact j_zret (pc := 8) hX rfl dX8_pop_8
theorem mX8_pop (l : Launch) (E : jE) (hI : jInj (gX E)) (fu : Nat) (k0 : Nat) (k1 : Nat) (hk0 : tX k0 = 7) (hk1 : tX k1 = 4)  (M : Mem) : jMet l (gX E) yX8_pop cX8_pop 2 (some .boolean) rX8_pop [.ref (gad (gX E) k0), .ref (gad (gX E) k1)] M (pX8_pop fu k0 k1  M) :=
  j_entry hI (by decide +kernel) (Nat.le_of_ble_eq_true rfl) rfl (fun X _ hX => wX8_pop hX fu k0 k1 hk0 hk1  M)
