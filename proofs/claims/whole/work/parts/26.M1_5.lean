theorem dX10_dealsSum_0 : decode cX10_dealsSum 0 = .ok (.aload_n 0, 1) := by decide +kernel
theorem dX10_dealsSum_1 : decode cX10_dealsSum 1 = .ok (.iconst 0, 1) := by decide +kernel
theorem dX10_dealsSum_2 : decode cX10_dealsSum 2 = .ok (.sipush 704, 3) := by decide +kernel
theorem dX10_dealsSum_5 : decode cX10_dealsSum 5 = .ok (.invokevirtual 105, 3) := by decide +kernel
theorem dX10_dealsSum_8 : decode cX10_dealsSum 8 = .ok (.iconst 0, 1) := by decide +kernel
theorem dX10_dealsSum_9 : decode cX10_dealsSum 9 = .ok (.istore_n 2, 1) := by decide +kernel
theorem dX10_dealsSum_10 : decode cX10_dealsSum 10 = .ok (.iload_n 2, 1) := by decide +kernel
theorem dX10_dealsSum_11 : decode cX10_dealsSum 11 = .ok (.aload_n 0, 1) := by decide +kernel
theorem dX10_dealsSum_12 : decode cX10_dealsSum 12 = .ok (.getfield 95, 3) := by decide +kernel
theorem dX10_dealsSum_15 : decode cX10_dealsSum 15 = .ok (.if_icmp .ge 58, 3) := by decide +kernel
theorem dX10_dealsSum_18 : decode cX10_dealsSum 18 = .ok (.iconst 0, 1) := by decide +kernel
theorem dX10_dealsSum_19 : decode cX10_dealsSum 19 = .ok (.istore_n 3, 1) := by decide +kernel
theorem dX10_dealsSum_20 : decode cX10_dealsSum 20 = .ok (.iload_n 3, 1) := by decide +kernel
theorem dX10_dealsSum_21 : decode cX10_dealsSum 21 = .ok (.iload_n 2, 1) := by decide +kernel
theorem dX10_dealsSum_22 : decode cX10_dealsSum 22 = .ok (.if_icmp .ge 27, 3) := by decide +kernel
theorem dX10_dealsSum_25 : decode cX10_dealsSum 25 = .ok (.aload_n 0, 1) := by decide +kernel
theorem dX10_dealsSum_26 : decode cX10_dealsSum 26 = .ok (.getfield 53, 3) := by decide +kernel
theorem dX10_dealsSum_29 : decode cX10_dealsSum 29 = .ok (.iload_n 2, 1) := by decide +kernel
theorem dX10_dealsSum_30 : decode cX10_dealsSum 30 = .ok (.iaload, 1) := by decide +kernel
theorem dX10_dealsSum_31 : decode cX10_dealsSum 31 = .ok (.aload_n 0, 1) := by decide +kernel
theorem dX10_dealsSum_32 : decode cX10_dealsSum 32 = .ok (.getfield 53, 3) := by decide +kernel
theorem dX10_dealsSum_35 : decode cX10_dealsSum 35 = .ok (.iload_n 3, 1) := by decide +kernel
theorem dX10_dealsSum_36 : decode cX10_dealsSum 36 = .ok (.iaload, 1) := by decide +kernel
theorem dX10_dealsSum_37 : decode cX10_dealsSum 37 = .ok (.if_icmp .ne 6, 3) := by decide +kernel
theorem dX10_dealsSum_40 : decode cX10_dealsSum 40 = .ok (.bipush (-4), 2) := by decide +kernel
theorem dX10_dealsSum_42 : decode cX10_dealsSum 42 = .ok (.ireturn, 1) := by decide +kernel
theorem dX10_dealsSum_43 : decode cX10_dealsSum 43 = .ok (.iinc 3 1, 3) := by decide +kernel
theorem dX10_dealsSum_46 : decode cX10_dealsSum 46 = .ok (.goto (-26), 3) := by decide +kernel
theorem dX10_dealsSum_49 : decode cX10_dealsSum 49 = .ok (.aload_n 0, 1) := by decide +kernel
theorem dX10_dealsSum_50 : decode cX10_dealsSum 50 = .ok (.iconst 0, 1) := by decide +kernel
theorem dX10_dealsSum_51 : decode cX10_dealsSum 51 = .ok (.aload_n 0, 1) := by decide +kernel
theorem dX10_dealsSum_52 : decode cX10_dealsSum 52 = .ok (.getfield 53, 3) := by decide +kernel
theorem dX10_dealsSum_55 : decode cX10_dealsSum 55 = .ok (.iload_n 2, 1) := by decide +kernel
theorem dX10_dealsSum_56 : decode cX10_dealsSum 56 = .ok (.iaload, 1) := by decide +kernel
theorem dX10_dealsSum_57 : decode cX10_dealsSum 57 = .ok (.iload_n 2, 1) := by decide +kernel
theorem dX10_dealsSum_58 : decode cX10_dealsSum 58 = .ok (.invokevirtual 212, 3) := by decide +kernel
theorem dX10_dealsSum_61 : decode cX10_dealsSum 61 = .ok (.ifCond .ne 6, 3) := by decide +kernel
theorem dX10_dealsSum_64 : decode cX10_dealsSum 64 = .ok (.bipush (-4), 2) := by decide +kernel
theorem dX10_dealsSum_66 : decode cX10_dealsSum 66 = .ok (.ireturn, 1) := by decide +kernel
theorem dX10_dealsSum_67 : decode cX10_dealsSum 67 = .ok (.iinc 2 1, 3) := by decide +kernel
theorem dX10_dealsSum_70 : decode cX10_dealsSum 70 = .ok (.goto (-60), 3) := by decide +kernel
theorem dX10_dealsSum_73 : decode cX10_dealsSum 73 = .ok (.iconst 0, 1) := by decide +kernel
theorem dX10_dealsSum_74 : decode cX10_dealsSum 74 = .ok (.istore_n 2, 1) := by decide +kernel
theorem dX10_dealsSum_75 : decode cX10_dealsSum 75 = .ok (.iload_n 2, 1) := by decide +kernel
theorem dX10_dealsSum_76 : decode cX10_dealsSum 76 = .ok (.aload_n 0, 1) := by decide +kernel
theorem dX10_dealsSum_77 : decode cX10_dealsSum 77 = .ok (.getfield 95, 3) := by decide +kernel
theorem dX10_dealsSum_80 : decode cX10_dealsSum 80 = .ok (.if_icmp .ge 24, 3) := by decide +kernel
theorem dX10_dealsSum_83 : decode cX10_dealsSum 83 = .ok (.aload_n 0, 1) := by decide +kernel
theorem dX10_dealsSum_84 : decode cX10_dealsSum 84 = .ok (.sipush 704, 3) := by decide +kernel
theorem dX10_dealsSum_87 : decode cX10_dealsSum 87 = .ok (.aload_n 0, 1) := by decide +kernel
theorem dX10_dealsSum_88 : decode cX10_dealsSum 88 = .ok (.getfield 53, 3) := by decide +kernel
theorem dX10_dealsSum_91 : decode cX10_dealsSum 91 = .ok (.iload_n 2, 1) := by decide +kernel
theorem dX10_dealsSum_92 : decode cX10_dealsSum 92 = .ok (.iaload, 1) := by decide +kernel
theorem dX10_dealsSum_93 : decode cX10_dealsSum 93 = .ok (.iload_n 1, 1) := by decide +kernel
theorem dX10_dealsSum_94 : decode cX10_dealsSum 94 = .ok (.iload_n 2, 1) := by decide +kernel
theorem dX10_dealsSum_95 : decode cX10_dealsSum 95 = .ok (.invokevirtual 219, 3) := by decide +kernel
theorem dX10_dealsSum_98 : decode cX10_dealsSum 98 = .ok (.iinc 2 1, 3) := by decide +kernel
theorem dX10_dealsSum_101 : decode cX10_dealsSum 101 = .ok (.goto (-26), 3) := by decide +kernel
theorem dX10_dealsSum_104 : decode cX10_dealsSum 104 = .ok (.iconst 0, 1) := by decide +kernel
theorem dX10_dealsSum_105 : decode cX10_dealsSum 105 = .ok (.istore_n 2, 1) := by decide +kernel
theorem dX10_dealsSum_106 : decode cX10_dealsSum 106 = .ok (.iload_n 2, 1) := by decide +kernel
theorem dX10_dealsSum_107 : decode cX10_dealsSum 107 = .ok (.iconst 5, 1) := by decide +kernel
theorem dX10_dealsSum_108 : decode cX10_dealsSum 108 = .ok (.if_icmp .ge 17, 3) := by decide +kernel
theorem dX10_dealsSum_111 : decode cX10_dealsSum 111 = .ok (.aload_n 0, 1) := by decide +kernel
theorem dX10_dealsSum_112 : decode cX10_dealsSum 112 = .ok (.getfield 50, 3) := by decide +kernel
theorem dX10_dealsSum_115 : decode cX10_dealsSum 115 = .ok (.iload_n 2, 1) := by decide +kernel
theorem dX10_dealsSum_116 : decode cX10_dealsSum 116 = .ok (.bipush (-4), 2) := by decide +kernel
theorem dX10_dealsSum_118 : decode cX10_dealsSum 118 = .ok (.iastore, 1) := by decide +kernel
theorem dX10_dealsSum_119 : decode cX10_dealsSum 119 = .ok (.iinc 2 1, 3) := by decide +kernel
theorem dX10_dealsSum_122 : decode cX10_dealsSum 122 = .ok (.goto (-16), 3) := by decide +kernel
theorem dX10_dealsSum_125 : decode cX10_dealsSum 125 = .ok (.iconst 1, 1) := by decide +kernel
theorem dX10_dealsSum_126 : decode cX10_dealsSum 126 = .ok (.istore_n 2, 1) := by decide +kernel
theorem dX10_dealsSum_127 : decode cX10_dealsSum 127 = .ok (.iload_n 2, 1) := by decide +kernel
theorem dX10_dealsSum_128 : decode cX10_dealsSum 128 = .ok (.bipush 99, 2) := by decide +kernel
theorem dX10_dealsSum_130 : decode cX10_dealsSum 130 = .ok (.if_icmp .gt 72, 3) := by decide +kernel
theorem dX10_dealsSum_133 : decode cX10_dealsSum 133 = .ok (.aload_n 0, 1) := by decide +kernel
theorem dX10_dealsSum_134 : decode cX10_dealsSum 134 = .ok (.sipush 704, 3) := by decide +kernel
theorem dX10_dealsSum_137 : decode cX10_dealsSum 137 = .ok (.iconst (-1), 1) := by decide +kernel
theorem dX10_dealsSum_138 : decode cX10_dealsSum 138 = .ok (.invokevirtual 225, 3) := by decide +kernel
theorem dX10_dealsSum_141 : decode cX10_dealsSum 141 = .ok (.iconst 0, 1) := by decide +kernel
theorem dX10_dealsSum_142 : decode cX10_dealsSum 142 = .ok (.istore_n 3, 1) := by decide +kernel
theorem dX10_dealsSum_143 : decode cX10_dealsSum 143 = .ok (.iload_n 3, 1) := by decide +kernel
theorem dX10_dealsSum_144 : decode cX10_dealsSum 144 = .ok (.aload_n 0, 1) := by decide +kernel
theorem dX10_dealsSum_145 : decode cX10_dealsSum 145 = .ok (.getfield 98, 3) := by decide +kernel
theorem dX10_dealsSum_148 : decode cX10_dealsSum 148 = .ok (.if_icmp .ge 48, 3) := by decide +kernel
theorem dX10_dealsSum_151 : decode cX10_dealsSum 151 = .ok (.aload_n 0, 1) := by decide +kernel
theorem dX10_dealsSum_152 : decode cX10_dealsSum 152 = .ok (.getfield 50, 3) := by decide +kernel
theorem dX10_dealsSum_155 : decode cX10_dealsSum 155 = .ok (.iload_n 3, 1) := by decide +kernel
theorem dX10_dealsSum_156 : decode cX10_dealsSum 156 = .ok (.aload_n 0, 1) := by decide +kernel
theorem dX10_dealsSum_157 : decode cX10_dealsSum 157 = .ok (.getfield 50, 3) := by decide +kernel
theorem dX10_dealsSum_160 : decode cX10_dealsSum 160 = .ok (.iload_n 3, 1) := by decide +kernel
theorem dX10_dealsSum_161 : decode cX10_dealsSum 161 = .ok (.iaload, 1) := by decide +kernel
theorem dX10_dealsSum_162 : decode cX10_dealsSum 162 = .ok (.ifCond .ge 21, 3) := by decide +kernel
theorem dX10_dealsSum_165 : decode cX10_dealsSum 165 = .ok (.aload_n 0, 1) := by decide +kernel
theorem dX10_dealsSum_166 : decode cX10_dealsSum 166 = .ok (.getfield 43, 3) := by decide +kernel
theorem dX10_dealsSum_169 : decode cX10_dealsSum 169 = .ok (.sipush 704, 3) := by decide +kernel
theorem dX10_dealsSum_172 : decode cX10_dealsSum 172 = .ok (.iload_n 3, 1) := by decide +kernel
theorem dX10_dealsSum_173 : decode cX10_dealsSum 173 = .ok (.iadd, 1) := by decide +kernel
theorem dX10_dealsSum_174 : decode cX10_dealsSum 174 = .ok (.iaload, 1) := by decide +kernel
theorem dX10_dealsSum_175 : decode cX10_dealsSum 175 = .ok (.iconst 2, 1) := by decide +kernel
theorem dX10_dealsSum_176 : decode cX10_dealsSum 176 = .ok (.if_icmp .ne 7, 3) := by decide +kernel
theorem dX10_dealsSum_179 : decode cX10_dealsSum 179 = .ok (.iload_n 2, 1) := by decide +kernel
theorem dX10_dealsSum_180 : decode cX10_dealsSum 180 = .ok (.goto 9, 3) := by decide +kernel
theorem dX10_dealsSum_183 : decode cX10_dealsSum 183 = .ok (.aload_n 0, 1) := by decide +kernel
theorem dX10_dealsSum_184 : decode cX10_dealsSum 184 = .ok (.getfield 50, 3) := by decide +kernel
theorem dX10_dealsSum_187 : decode cX10_dealsSum 187 = .ok (.iload_n 3, 1) := by decide +kernel
theorem dX10_dealsSum_188 : decode cX10_dealsSum 188 = .ok (.iaload, 1) := by decide +kernel
theorem dX10_dealsSum_189 : decode cX10_dealsSum 189 = .ok (.iastore, 1) := by decide +kernel
theorem dX10_dealsSum_190 : decode cX10_dealsSum 190 = .ok (.iinc 3 1, 3) := by decide +kernel
theorem dX10_dealsSum_193 : decode cX10_dealsSum 193 = .ok (.goto (-50), 3) := by decide +kernel
theorem dX10_dealsSum_196 : decode cX10_dealsSum 196 = .ok (.iinc 2 1, 3) := by decide +kernel
theorem dX10_dealsSum_199 : decode cX10_dealsSum 199 = .ok (.goto (-72), 3) := by decide +kernel
theorem dX10_dealsSum_202 : decode cX10_dealsSum 202 = .ok (.iconst 0, 1) := by decide +kernel
theorem dX10_dealsSum_203 : decode cX10_dealsSum 203 = .ok (.istore_n 2, 1) := by decide +kernel
theorem dX10_dealsSum_204 : decode cX10_dealsSum 204 = .ok (.iconst 0, 1) := by decide +kernel
theorem dX10_dealsSum_205 : decode cX10_dealsSum 205 = .ok (.istore_n 3, 1) := by decide +kernel
theorem dX10_dealsSum_206 : decode cX10_dealsSum 206 = .ok (.iload_n 3, 1) := by decide +kernel
theorem dX10_dealsSum_207 : decode cX10_dealsSum 207 = .ok (.aload_n 0, 1) := by decide +kernel
theorem dX10_dealsSum_208 : decode cX10_dealsSum 208 = .ok (.getfield 95, 3) := by decide +kernel
theorem dX10_dealsSum_211 : decode cX10_dealsSum 211 = .ok (.if_icmp .ge 57, 3) := by decide +kernel
theorem dX10_dealsSum_214 : decode cX10_dealsSum 214 = .ok (.aload_n 0, 1) := by decide +kernel
theorem dX10_dealsSum_215 : decode cX10_dealsSum 215 = .ok (.getfield 50, 3) := by decide +kernel
theorem dX10_dealsSum_218 : decode cX10_dealsSum 218 = .ok (.aload_n 0, 1) := by decide +kernel
theorem dX10_dealsSum_219 : decode cX10_dealsSum 219 = .ok (.getfield 53, 3) := by decide +kernel
theorem dX10_dealsSum_222 : decode cX10_dealsSum 222 = .ok (.iload_n 3, 1) := by decide +kernel
theorem dX10_dealsSum_223 : decode cX10_dealsSum 223 = .ok (.iaload, 1) := by decide +kernel
theorem dX10_dealsSum_224 : decode cX10_dealsSum 224 = .ok (.iaload, 1) := by decide +kernel
theorem dX10_dealsSum_225 : decode cX10_dealsSum 225 = .ok (.ifCond .lt 20, 3) := by decide +kernel
theorem dX10_dealsSum_228 : decode cX10_dealsSum 228 = .ok (.aload_n 0, 1) := by decide +kernel
theorem dX10_dealsSum_229 : decode cX10_dealsSum 229 = .ok (.sipush 704, 3) := by decide +kernel
theorem dX10_dealsSum_232 : decode cX10_dealsSum 232 = .ok (.aload_n 0, 1) := by decide +kernel
theorem dX10_dealsSum_233 : decode cX10_dealsSum 233 = .ok (.getfield 53, 3) := by decide +kernel
theorem dX10_dealsSum_236 : decode cX10_dealsSum 236 = .ok (.iload_n 3, 1) := by decide +kernel
theorem dX10_dealsSum_237 : decode cX10_dealsSum 237 = .ok (.iaload, 1) := by decide +kernel
theorem dX10_dealsSum_238 : decode cX10_dealsSum 238 = .ok (.invokevirtual 228, 3) := by decide +kernel
theorem dX10_dealsSum_241 : decode cX10_dealsSum 241 = .ok (.iload_n 1, 1) := by decide +kernel
theorem dX10_dealsSum_242 : decode cX10_dealsSum 242 = .ok (.if_icmp .eq 6, 3) := by decide +kernel
theorem dX10_dealsSum_245 : decode cX10_dealsSum 245 = .ok (.bipush (-4), 2) := by decide +kernel
theorem dX10_dealsSum_247 : decode cX10_dealsSum 247 = .ok (.ireturn, 1) := by decide +kernel
theorem dX10_dealsSum_248 : decode cX10_dealsSum 248 = .ok (.iload_n 2, 1) := by decide +kernel
theorem dX10_dealsSum_249 : decode cX10_dealsSum 249 = .ok (.aload_n 0, 1) := by decide +kernel
theorem dX10_dealsSum_250 : decode cX10_dealsSum 250 = .ok (.getfield 50, 3) := by decide +kernel
theorem dX10_dealsSum_253 : decode cX10_dealsSum 253 = .ok (.aload_n 0, 1) := by decide +kernel
theorem dX10_dealsSum_254 : decode cX10_dealsSum 254 = .ok (.getfield 53, 3) := by decide +kernel
theorem dX10_dealsSum_257 : decode cX10_dealsSum 257 = .ok (.iload_n 3, 1) := by decide +kernel
theorem dX10_dealsSum_258 : decode cX10_dealsSum 258 = .ok (.iaload, 1) := by decide +kernel
theorem dX10_dealsSum_259 : decode cX10_dealsSum 259 = .ok (.iaload, 1) := by decide +kernel
theorem dX10_dealsSum_260 : decode cX10_dealsSum 260 = .ok (.iadd, 1) := by decide +kernel
theorem dX10_dealsSum_261 : decode cX10_dealsSum 261 = .ok (.istore_n 2, 1) := by decide +kernel
theorem dX10_dealsSum_262 : decode cX10_dealsSum 262 = .ok (.iinc 3 1, 3) := by decide +kernel
theorem dX10_dealsSum_265 : decode cX10_dealsSum 265 = .ok (.goto (-59), 3) := by decide +kernel
theorem dX10_dealsSum_268 : decode cX10_dealsSum 268 = .ok (.iload_n 2, 1) := by decide +kernel
theorem dX10_dealsSum_269 : decode cX10_dealsSum 269 = .ok (.ireturn, 1) := by decide +kernel
theorem dX10_deal_0 : decode cX10_deal 0 = .ok (.iload_n 1, 1) := by decide +kernel
theorem dX10_deal_1 : decode cX10_deal 1 = .ok (.i2l, 1) := by decide +kernel
theorem dX10_deal_2 : decode cX10_deal 2 = .ok (.lconst 0, 1) := by decide +kernel
theorem dX10_deal_3 : decode cX10_deal 3 = .ok (.ldc2_w 181, 3) := by decide +kernel
theorem dX10_deal_6 : decode cX10_deal 6 = .ok (.invokestatic 108, 3) := by decide +kernel
theorem dX10_deal_9 : decode cX10_deal 9 = .ok (.ifCond .eq 21, 3) := by decide +kernel
theorem dX10_deal_12 : decode cX10_deal 12 = .ok (.iload_n 2, 1) := by decide +kernel
theorem dX10_deal_13 : decode cX10_deal 13 = .ok (.i2l, 1) := by decide +kernel
theorem dX10_deal_14 : decode cX10_deal 14 = .ok (.ldc2_w 246, 3) := by decide +kernel
theorem dX10_deal_17 : decode cX10_deal 17 = .ok (.aload_n 0, 1) := by decide +kernel
theorem dX10_deal_18 : decode cX10_deal 18 = .ok (.getfield 95, 3) := by decide +kernel
theorem dX10_deal_21 : decode cX10_deal 21 = .ok (.iconst 1, 1) := by decide +kernel
theorem dX10_deal_22 : decode cX10_deal 22 = .ok (.isub, 1) := by decide +kernel
theorem dX10_deal_23 : decode cX10_deal 23 = .ok (.i2l, 1) := by decide +kernel
theorem dX10_deal_24 : decode cX10_deal 24 = .ok (.invokestatic 108, 3) := by decide +kernel
theorem dX10_deal_27 : decode cX10_deal 27 = .ok (.ifCond .ne 5, 3) := by decide +kernel
theorem dX10_deal_30 : decode cX10_deal 30 = .ok (.iconst (-1), 1) := by decide +kernel
theorem dX10_deal_31 : decode cX10_deal 31 = .ok (.ireturn, 1) := by decide +kernel
theorem dX10_deal_32 : decode cX10_deal 32 = .ok (.iconst 1, 1) := by decide +kernel
theorem dX10_deal_33 : decode cX10_deal 33 = .ok (.istore_n 3, 1) := by decide +kernel
theorem dX10_deal_34 : decode cX10_deal 34 = .ok (.iconst 0, 1) := by decide +kernel
theorem dX10_deal_35 : decode cX10_deal 35 = .ok (.istore 4, 2) := by decide +kernel
theorem dX10_deal_37 : decode cX10_deal 37 = .ok (.iload 4, 2) := by decide +kernel
theorem dX10_deal_39 : decode cX10_deal 39 = .ok (.aload_n 0, 1) := by decide +kernel
theorem dX10_deal_40 : decode cX10_deal 40 = .ok (.getfield 95, 3) := by decide +kernel
theorem dX10_deal_43 : decode cX10_deal 43 = .ok (.if_icmp .ge 16, 3) := by decide +kernel
theorem dX10_deal_46 : decode cX10_deal 46 = .ok (.iload_n 3, 1) := by decide +kernel
theorem dX10_deal_47 : decode cX10_deal 47 = .ok (.aload_n 0, 1) := by decide +kernel
theorem dX10_deal_48 : decode cX10_deal 48 = .ok (.getfield 98, 3) := by decide +kernel
theorem dX10_deal_51 : decode cX10_deal 51 = .ok (.imul, 1) := by decide +kernel
theorem dX10_deal_52 : decode cX10_deal 52 = .ok (.istore_n 3, 1) := by decide +kernel
theorem dX10_deal_53 : decode cX10_deal 53 = .ok (.iinc 4 1, 3) := by decide +kernel
theorem dX10_deal_56 : decode cX10_deal 56 = .ok (.goto (-19), 3) := by decide +kernel
theorem dX10_deal_59 : decode cX10_deal 59 = .ok (.bipush (-4), 2) := by decide +kernel
theorem dX10_deal_61 : decode cX10_deal 61 = .ok (.istore 4, 2) := by decide +kernel
theorem dX10_deal_63 : decode cX10_deal 63 = .ok (.iconst 0, 1) := by decide +kernel
theorem dX10_deal_64 : decode cX10_deal 64 = .ok (.istore 5, 2) := by decide +kernel
theorem dX10_deal_66 : decode cX10_deal 66 = .ok (.iload 5, 2) := by decide +kernel
theorem dX10_deal_68 : decode cX10_deal 68 = .ok (.iload_n 3, 1) := by decide +kernel
theorem dX10_deal_69 : decode cX10_deal 69 = .ok (.if_icmp .ge 112, 3) := by decide +kernel
theorem dX10_deal_72 : decode cX10_deal 72 = .ok (.iload 5, 2) := by decide +kernel
theorem dX10_deal_74 : decode cX10_deal 74 = .ok (.istore 6, 2) := by decide +kernel
theorem dX10_deal_76 : decode cX10_deal 76 = .ok (.aload_n 0, 1) := by decide +kernel
theorem dX10_deal_77 : decode cX10_deal 77 = .ok (.getfield 95, 3) := by decide +kernel
theorem dX10_deal_80 : decode cX10_deal 80 = .ok (.iconst 1, 1) := by decide +kernel
theorem dX10_deal_81 : decode cX10_deal 81 = .ok (.isub, 1) := by decide +kernel
theorem dX10_deal_82 : decode cX10_deal 82 = .ok (.istore 7, 2) := by decide +kernel
theorem dX10_deal_84 : decode cX10_deal 84 = .ok (.iload 7, 2) := by decide +kernel
theorem dX10_deal_86 : decode cX10_deal 86 = .ok (.ifCond .lt 32, 3) := by decide +kernel
theorem dX10_deal_89 : decode cX10_deal 89 = .ok (.aload_n 0, 1) := by decide +kernel
theorem dX10_deal_90 : decode cX10_deal 90 = .ok (.getfield 53, 3) := by decide +kernel
theorem dX10_deal_93 : decode cX10_deal 93 = .ok (.iload 7, 2) := by decide +kernel
theorem dX10_deal_95 : decode cX10_deal 95 = .ok (.iload 6, 2) := by decide +kernel
theorem dX10_deal_97 : decode cX10_deal 97 = .ok (.aload_n 0, 1) := by decide +kernel
theorem dX10_deal_98 : decode cX10_deal 98 = .ok (.getfield 98, 3) := by decide +kernel
theorem dX10_deal_101 : decode cX10_deal 101 = .ok (.irem, 1) := by decide +kernel
theorem dX10_deal_102 : decode cX10_deal 102 = .ok (.iastore, 1) := by decide +kernel
theorem dX10_deal_103 : decode cX10_deal 103 = .ok (.iload 6, 2) := by decide +kernel
theorem dX10_deal_105 : decode cX10_deal 105 = .ok (.aload_n 0, 1) := by decide +kernel
theorem dX10_deal_106 : decode cX10_deal 106 = .ok (.getfield 98, 3) := by decide +kernel
theorem dX10_deal_109 : decode cX10_deal 109 = .ok (.idiv, 1) := by decide +kernel
theorem dX10_deal_110 : decode cX10_deal 110 = .ok (.istore 6, 2) := by decide +kernel
theorem dX10_deal_112 : decode cX10_deal 112 = .ok (.iinc 7 (-1), 3) := by decide +kernel
theorem dX10_deal_115 : decode cX10_deal 115 = .ok (.goto (-31), 3) := by decide +kernel
theorem dX10_deal_118 : decode cX10_deal 118 = .ok (.aload_n 0, 1) := by decide +kernel
theorem dX10_deal_119 : decode cX10_deal 119 = .ok (.iload_n 1, 1) := by decide +kernel
theorem dX10_deal_120 : decode cX10_deal 120 = .ok (.invokevirtual 248, 3) := by decide +kernel
theorem dX10_deal_123 : decode cX10_deal 123 = .ok (.istore 7, 2) := by decide +kernel
theorem dX10_deal_125 : decode cX10_deal 125 = .ok (.iload 7, 2) := by decide +kernel
theorem dX10_deal_127 : decode cX10_deal 127 = .ok (.ifCond .lt 48, 3) := by decide +kernel
theorem dX10_deal_130 : decode cX10_deal 130 = .ok (.iload 4, 2) := by decide +kernel
theorem dX10_deal_132 : decode cX10_deal 132 = .ok (.ifCond .lt 10, 3) := by decide +kernel
theorem dX10_deal_135 : decode cX10_deal 135 = .ok (.iload 7, 2) := by decide +kernel
theorem dX10_deal_137 : decode cX10_deal 137 = .ok (.iload 4, 2) := by decide +kernel
theorem dX10_deal_139 : decode cX10_deal 139 = .ok (.if_icmp .ge 36, 3) := by decide +kernel
theorem dX10_deal_142 : decode cX10_deal 142 = .ok (.iload 7, 2) := by decide +kernel
theorem dX10_deal_144 : decode cX10_deal 144 = .ok (.istore 4, 2) := by decide +kernel
theorem dX10_deal_146 : decode cX10_deal 146 = .ok (.iconst 0, 1) := by decide +kernel
theorem dX10_deal_147 : decode cX10_deal 147 = .ok (.istore 8, 2) := by decide +kernel
theorem dX10_deal_149 : decode cX10_deal 149 = .ok (.iload 8, 2) := by decide +kernel
theorem dX10_deal_151 : decode cX10_deal 151 = .ok (.iconst 4, 1) := by decide +kernel
theorem dX10_deal_152 : decode cX10_deal 152 = .ok (.if_icmp .ge 23, 3) := by decide +kernel
theorem dX10_deal_155 : decode cX10_deal 155 = .ok (.aload_n 0, 1) := by decide +kernel
theorem dX10_deal_156 : decode cX10_deal 156 = .ok (.getfield 56, 3) := by decide +kernel
theorem dX10_deal_159 : decode cX10_deal 159 = .ok (.iload 8, 2) := by decide +kernel
theorem dX10_deal_161 : decode cX10_deal 161 = .ok (.aload_n 0, 1) := by decide +kernel
theorem dX10_deal_162 : decode cX10_deal 162 = .ok (.getfield 53, 3) := by decide +kernel
theorem dX10_deal_165 : decode cX10_deal 165 = .ok (.iload 8, 2) := by decide +kernel
theorem dX10_deal_167 : decode cX10_deal 167 = .ok (.iaload, 1) := by decide +kernel
theorem dX10_deal_168 : decode cX10_deal 168 = .ok (.iastore, 1) := by decide +kernel
theorem dX10_deal_169 : decode cX10_deal 169 = .ok (.iinc 8 1, 3) := by decide +kernel
theorem dX10_deal_172 : decode cX10_deal 172 = .ok (.goto (-23), 3) := by decide +kernel
theorem dX10_deal_175 : decode cX10_deal 175 = .ok (.iinc 5 1, 3) := by decide +kernel
theorem dX10_deal_178 : decode cX10_deal 178 = .ok (.goto (-112), 3) := by decide +kernel
theorem dX10_deal_181 : decode cX10_deal 181 = .ok (.iload 4, 2) := by decide +kernel
theorem dX10_deal_183 : decode cX10_deal 183 = .ok (.ifCond .ge 8, 3) := by decide +kernel
theorem dX10_deal_186 : decode cX10_deal 186 = .ok (.bipush (-4), 2) := by decide +kernel
theorem dX10_deal_188 : decode cX10_deal 188 = .ok (.goto 18, 3) := by decide +kernel
theorem dX10_deal_191 : decode cX10_deal 191 = .ok (.iload_n 2, 1) := by decide +kernel
theorem dX10_deal_192 : decode cX10_deal 192 = .ok (.ifCond .ge 8, 3) := by decide +kernel
theorem dX10_deal_195 : decode cX10_deal 195 = .ok (.iload 4, 2) := by decide +kernel
theorem dX10_deal_197 : decode cX10_deal 197 = .ok (.goto 9, 3) := by decide +kernel
theorem dX10_deal_200 : decode cX10_deal 200 = .ok (.aload_n 0, 1) := by decide +kernel
theorem dX10_deal_201 : decode cX10_deal 201 = .ok (.getfield 56, 3) := by decide +kernel
theorem dX10_deal_204 : decode cX10_deal 204 = .ok (.iload_n 2, 1) := by decide +kernel
theorem dX10_deal_205 : decode cX10_deal 205 = .ok (.iaload, 1) := by decide +kernel
theorem dX10_deal_206 : decode cX10_deal 206 = .ok (.ireturn, 1) := by decide +kernel
theorem dX10_lure_0 : decode cX10_lure 0 = .ok (.aload_n 0, 1) := by decide +kernel
theorem dX10_lure_1 : decode cX10_lure 1 = .ok (.iload_n 1, 1) := by decide +kernel
theorem dX10_lure_2 : decode cX10_lure 2 = .ok (.invokevirtual 178, 3) := by decide +kernel
theorem dX10_lure_5 : decode cX10_lure 5 = .ok (.ifCond .ne 5, 3) := by decide +kernel
theorem dX10_lure_8 : decode cX10_lure 8 = .ok (.iconst (-1), 1) := by decide +kernel
theorem dX10_lure_9 : decode cX10_lure 9 = .ok (.ireturn, 1) := by decide +kernel
theorem dX10_lure_10 : decode cX10_lure 10 = .ok (.aload_n 0, 1) := by decide +kernel
theorem dX10_lure_11 : decode cX10_lure 11 = .ok (.getfield 43, 3) := by decide +kernel
theorem dX10_lure_14 : decode cX10_lure 14 = .ok (.iload_n 1, 1) := by decide +kernel
theorem dX10_lure_15 : decode cX10_lure 15 = .ok (.iaload, 1) := by decide +kernel
theorem dX10_lure_16 : decode cX10_lure 16 = .ok (.iconst 1, 1) := by decide +kernel
theorem dX10_lure_17 : decode cX10_lure 17 = .ok (.if_icmp .eq 6, 3) := by decide +kernel
theorem dX10_lure_20 : decode cX10_lure 20 = .ok (.bipush (-2), 2) := by decide +kernel
theorem dX10_lure_22 : decode cX10_lure 22 = .ok (.ireturn, 1) := by decide +kernel
theorem dX10_lure_23 : decode cX10_lure 23 = .ok (.aload_n 0, 1) := by decide +kernel
theorem dX10_lure_24 : decode cX10_lure 24 = .ok (.iconst 0, 1) := by decide +kernel
theorem dX10_lure_25 : decode cX10_lure 25 = .ok (.sipush 704, 3) := by decide +kernel
theorem dX10_lure_28 : decode cX10_lure 28 = .ok (.invokevirtual 105, 3) := by decide +kernel
theorem dX10_lure_31 : decode cX10_lure 31 = .ok (.aload_n 0, 1) := by decide +kernel
theorem dX10_lure_32 : decode cX10_lure 32 = .ok (.iload_n 1, 1) := by decide +kernel
theorem dX10_lure_33 : decode cX10_lure 33 = .ok (.invokevirtual 240, 3) := by decide +kernel
theorem dX10_lure_36 : decode cX10_lure 36 = .ok (.istore_n 2, 1) := by decide +kernel
theorem dX10_lure_37 : decode cX10_lure 37 = .ok (.bipush (-4), 2) := by decide +kernel
theorem dX10_lure_39 : decode cX10_lure 39 = .ok (.istore_n 3, 1) := by decide +kernel
theorem dX10_lure_40 : decode cX10_lure 40 = .ok (.iconst 0, 1) := by decide +kernel
theorem dX10_lure_41 : decode cX10_lure 41 = .ok (.istore 4, 2) := by decide +kernel
theorem dX10_lure_43 : decode cX10_lure 43 = .ok (.iload 4, 2) := by decide +kernel
theorem dX10_lure_45 : decode cX10_lure 45 = .ok (.aload_n 0, 1) := by decide +kernel
theorem dX10_lure_46 : decode cX10_lure 46 = .ok (.getfield 89, 3) := by decide +kernel
theorem dX10_lure_49 : decode cX10_lure 49 = .ok (.if_icmp .ge 99, 3) := by decide +kernel
theorem dX10_lure_52 : decode cX10_lure 52 = .ok (.iload_n 2, 1) := by decide +kernel
theorem dX10_lure_53 : decode cX10_lure 53 = .ok (.ifCond .lt 95, 3) := by decide +kernel
theorem dX10_lure_56 : decode cX10_lure 56 = .ok (.aload_n 0, 1) := by decide +kernel
theorem dX10_lure_57 : decode cX10_lure 57 = .ok (.iconst 0, 1) := by decide +kernel
theorem dX10_lure_58 : decode cX10_lure 58 = .ok (.sipush 704, 3) := by decide +kernel
theorem dX10_lure_61 : decode cX10_lure 61 = .ok (.invokevirtual 105, 3) := by decide +kernel
theorem dX10_lure_64 : decode cX10_lure 64 = .ok (.aload_n 0, 1) := by decide +kernel
theorem dX10_lure_65 : decode cX10_lure 65 = .ok (.getfield 43, 3) := by decide +kernel
theorem dX10_lure_68 : decode cX10_lure 68 = .ok (.sipush 759, 3) := by decide +kernel
theorem dX10_lure_71 : decode cX10_lure 71 = .ok (.iload 4, 2) := by decide +kernel
theorem dX10_lure_73 : decode cX10_lure 73 = .ok (.iadd, 1) := by decide +kernel
theorem dX10_lure_74 : decode cX10_lure 74 = .ok (.bipush 9, 2) := by decide +kernel
theorem dX10_lure_76 : decode cX10_lure 76 = .ok (.aload_n 0, 1) := by decide +kernel
theorem dX10_lure_77 : decode cX10_lure 77 = .ok (.getfield 43, 3) := by decide +kernel
theorem dX10_lure_80 : decode cX10_lure 80 = .ok (.sipush 759, 3) := by decide +kernel
theorem dX10_lure_83 : decode cX10_lure 83 = .ok (.iload 4, 2) := by decide +kernel
theorem dX10_lure_85 : decode cX10_lure 85 = .ok (.iadd, 1) := by decide +kernel
theorem dX10_lure_86 : decode cX10_lure 86 = .ok (.iaload, 1) := by decide +kernel
theorem dX10_lure_87 : decode cX10_lure 87 = .ok (.iconst 1, 1) := by decide +kernel
theorem dX10_lure_88 : decode cX10_lure 88 = .ok (.iadd, 1) := by decide +kernel
theorem dX10_lure_89 : decode cX10_lure 89 = .ok (.invokestatic 101, 3) := by decide +kernel
theorem dX10_lure_92 : decode cX10_lure 92 = .ok (.iastore, 1) := by decide +kernel
theorem dX10_lure_93 : decode cX10_lure 93 = .ok (.aload_n 0, 1) := by decide +kernel
theorem dX10_lure_94 : decode cX10_lure 94 = .ok (.iload_n 1, 1) := by decide +kernel
theorem dX10_lure_95 : decode cX10_lure 95 = .ok (.invokevirtual 240, 3) := by decide +kernel
theorem dX10_lure_98 : decode cX10_lure 98 = .ok (.istore 5, 2) := by decide +kernel
theorem dX10_lure_100 : decode cX10_lure 100 = .ok (.iload 5, 2) := by decide +kernel
theorem dX10_lure_102 : decode cX10_lure 102 = .ok (.ifCond .lt 13, 3) := by decide +kernel
theorem dX10_lure_105 : decode cX10_lure 105 = .ok (.iload 5, 2) := by decide +kernel
theorem dX10_lure_107 : decode cX10_lure 107 = .ok (.iload_n 2, 1) := by decide +kernel
theorem dX10_lure_108 : decode cX10_lure 108 = .ok (.if_icmp .ge 7, 3) := by decide +kernel
theorem dX10_lure_111 : decode cX10_lure 111 = .ok (.iconst 1, 1) := by decide +kernel
theorem dX10_lure_112 : decode cX10_lure 112 = .ok (.goto 4, 3) := by decide +kernel
theorem dX10_lure_115 : decode cX10_lure 115 = .ok (.iconst 0, 1) := by decide +kernel
theorem dX10_lure_116 : decode cX10_lure 116 = .ok (.istore 6, 2) := by decide +kernel
theorem dX10_lure_118 : decode cX10_lure 118 = .ok (.iload 6, 2) := by decide +kernel
theorem dX10_lure_120 : decode cX10_lure 120 = .ok (.ifCond .eq 8, 3) := by decide +kernel
theorem dX10_lure_123 : decode cX10_lure 123 = .ok (.iload 4, 2) := by decide +kernel
theorem dX10_lure_125 : decode cX10_lure 125 = .ok (.goto 4, 3) := by decide +kernel
theorem dX10_lure_128 : decode cX10_lure 128 = .ok (.iload_n 3, 1) := by decide +kernel
theorem dX10_lure_129 : decode cX10_lure 129 = .ok (.istore_n 3, 1) := by decide +kernel
theorem dX10_lure_130 : decode cX10_lure 130 = .ok (.iload 6, 2) := by decide +kernel
theorem dX10_lure_132 : decode cX10_lure 132 = .ok (.ifCond .eq 8, 3) := by decide +kernel
theorem dX10_lure_135 : decode cX10_lure 135 = .ok (.iload 5, 2) := by decide +kernel
theorem dX10_lure_137 : decode cX10_lure 137 = .ok (.goto 4, 3) := by decide +kernel
theorem dX10_lure_140 : decode cX10_lure 140 = .ok (.iload_n 2, 1) := by decide +kernel
theorem dX10_lure_141 : decode cX10_lure 141 = .ok (.istore_n 2, 1) := by decide +kernel
theorem dX10_lure_142 : decode cX10_lure 142 = .ok (.iinc 4 1, 3) := by decide +kernel
theorem dX10_lure_145 : decode cX10_lure 145 = .ok (.goto (-102), 3) := by decide +kernel
theorem dX10_lure_148 : decode cX10_lure 148 = .ok (.iload_n 3, 1) := by decide +kernel
theorem dX10_lure_149 : decode cX10_lure 149 = .ok (.ireturn, 1) := by decide +kernel
theorem dX10_next_0 : decode cX10_next 0 = .ok (.aload_n 0, 1) := by decide +kernel
theorem dX10_next_1 : decode cX10_next 1 = .ok (.iload_n 1, 1) := by decide +kernel
theorem dX10_next_2 : decode cX10_next 2 = .ok (.invokevirtual 178, 3) := by decide +kernel
theorem dX10_next_5 : decode cX10_next 5 = .ok (.ifCond .eq 7, 3) := by decide +kernel
theorem dX10_next_8 : decode cX10_next 8 = .ok (.iload_n 2, 1) := by decide +kernel
theorem dX10_next_9 : decode cX10_next 9 = .ok (.ifCond .ge 5, 3) := by decide +kernel
theorem dX10_next_12 : decode cX10_next 12 = .ok (.iconst (-1), 1) := by decide +kernel
theorem dX10_next_13 : decode cX10_next 13 = .ok (.ireturn, 1) := by decide +kernel
theorem dX10_next_14 : decode cX10_next 14 = .ok (.aload_n 0, 1) := by decide +kernel
theorem dX10_next_15 : decode cX10_next 15 = .ok (.getfield 43, 3) := by decide +kernel
theorem dX10_next_18 : decode cX10_next 18 = .ok (.iload_n 1, 1) := by decide +kernel
theorem dX10_next_19 : decode cX10_next 19 = .ok (.iaload, 1) := by decide +kernel
theorem dX10_next_20 : decode cX10_next 20 = .ok (.iconst 1, 1) := by decide +kernel
theorem dX10_next_21 : decode cX10_next 21 = .ok (.if_icmp .eq 16, 3) := by decide +kernel
theorem dX10_next_24 : decode cX10_next 24 = .ok (.aload_n 0, 1) := by decide +kernel
theorem dX10_next_25 : decode cX10_next 25 = .ok (.getfield 43, 3) := by decide +kernel
theorem dX10_next_28 : decode cX10_next 28 = .ok (.iload_n 1, 1) := by decide +kernel
theorem dX10_next_29 : decode cX10_next 29 = .ok (.iaload, 1) := by decide +kernel
theorem dX10_next_30 : decode cX10_next 30 = .ok (.iconst 3, 1) := by decide +kernel
theorem dX10_next_31 : decode cX10_next 31 = .ok (.if_icmp .eq 6, 3) := by decide +kernel
theorem dX10_next_34 : decode cX10_next 34 = .ok (.bipush (-2), 2) := by decide +kernel
theorem dX10_next_36 : decode cX10_next 36 = .ok (.ireturn, 1) := by decide +kernel
theorem dX10_next_37 : decode cX10_next 37 = .ok (.aload_n 0, 1) := by decide +kernel
theorem dX10_next_38 : decode cX10_next 38 = .ok (.getfield 43, 3) := by decide +kernel
theorem dX10_next_41 : decode cX10_next 41 = .ok (.iconst 5, 1) := by decide +kernel
theorem dX10_next_42 : decode cX10_next 42 = .ok (.iload_n 1, 1) := by decide +kernel
theorem dX10_next_43 : decode cX10_next 43 = .ok (.iadd, 1) := by decide +kernel
theorem dX10_next_44 : decode cX10_next 44 = .ok (.iaload, 1) := by decide +kernel
theorem dX10_next_45 : decode cX10_next 45 = .ok (.istore_n 3, 1) := by decide +kernel
theorem dX10_next_46 : decode cX10_next 46 = .ok (.aload_n 0, 1) := by decide +kernel
theorem dX10_next_47 : decode cX10_next 47 = .ok (.iconst 0, 1) := by decide +kernel
theorem dX10_next_48 : decode cX10_next 48 = .ok (.iload_n 1, 1) := by decide +kernel
theorem dX10_next_49 : decode cX10_next 49 = .ok (.invokevirtual 197, 3) := by decide +kernel
theorem dX10_next_52 : decode cX10_next 52 = .ok (.istore 4, 2) := by decide +kernel
theorem dX10_next_54 : decode cX10_next 54 = .ok (.iload_n 2, 1) := by decide +kernel
theorem dX10_next_55 : decode cX10_next 55 = .ok (.istore 5, 2) := by decide +kernel
theorem dX10_next_57 : decode cX10_next 57 = .ok (.aload_n 0, 1) := by decide +kernel
theorem dX10_next_58 : decode cX10_next 58 = .ok (.getfield 43, 3) := by decide +kernel
theorem dX10_next_61 : decode cX10_next 61 = .ok (.bipush 10, 2) := by decide +kernel
theorem dX10_next_63 : decode cX10_next 63 = .ok (.iload_n 1, 1) := by decide +kernel
theorem dX10_next_64 : decode cX10_next 64 = .ok (.iadd, 1) := by decide +kernel
theorem dX10_next_65 : decode cX10_next 65 = .ok (.iaload, 1) := by decide +kernel
theorem dX10_next_66 : decode cX10_next 66 = .ok (.bipush (-4), 2) := by decide +kernel
theorem dX10_next_68 : decode cX10_next 68 = .ok (.if_icmp .eq 23, 3) := by decide +kernel
theorem dX10_next_71 : decode cX10_next 71 = .ok (.aload_n 0, 1) := by decide +kernel
theorem dX10_next_72 : decode cX10_next 72 = .ok (.getfield 43, 3) := by decide +kernel
theorem dX10_next_75 : decode cX10_next 75 = .ok (.bipush 10, 2) := by decide +kernel
theorem dX10_next_77 : decode cX10_next 77 = .ok (.iload_n 1, 1) := by decide +kernel
theorem dX10_next_78 : decode cX10_next 78 = .ok (.iadd, 1) := by decide +kernel
theorem dX10_next_79 : decode cX10_next 79 = .ok (.iaload, 1) := by decide +kernel
theorem dX10_next_80 : decode cX10_next 80 = .ok (.istore_n 3, 1) := by decide +kernel
theorem dX10_next_81 : decode cX10_next 81 = .ok (.iload 5, 2) := by decide +kernel
theorem dX10_next_83 : decode cX10_next 83 = .ok (.ifCond .ne 5, 3) := by decide +kernel
theorem dX10_next_86 : decode cX10_next 86 = .ok (.iload_n 3, 1) := by decide +kernel
theorem dX10_next_87 : decode cX10_next 87 = .ok (.ireturn, 1) := by decide +kernel
theorem dX10_next_88 : decode cX10_next 88 = .ok (.iinc 5 (-1), 3) := by decide +kernel
theorem dX10_next_91 : decode cX10_next 91 = .ok (.iload_n 3, 1) := by decide +kernel
theorem dX10_next_92 : decode cX10_next 92 = .ok (.iload 4, 2) := by decide +kernel
theorem dX10_next_94 : decode cX10_next 94 = .ok (.if_icmp .eq 24, 3) := by decide +kernel
theorem dX10_next_97 : decode cX10_next 97 = .ok (.aload_n 0, 1) := by decide +kernel
theorem dX10_next_98 : decode cX10_next 98 = .ok (.iload_n 3, 1) := by decide +kernel
theorem dX10_next_99 : decode cX10_next 99 = .ok (.iload 4, 2) := by decide +kernel
theorem dX10_next_101 : decode cX10_next 101 = .ok (.invokevirtual 203, 3) := by decide +kernel
theorem dX10_next_104 : decode cX10_next 104 = .ok (.istore_n 3, 1) := by decide +kernel
theorem dX10_next_105 : decode cX10_next 105 = .ok (.iload 5, 2) := by decide +kernel
theorem dX10_next_107 : decode cX10_next 107 = .ok (.ifCond .ne 5, 3) := by decide +kernel
theorem dX10_next_110 : decode cX10_next 110 = .ok (.iload_n 3, 1) := by decide +kernel
theorem dX10_next_111 : decode cX10_next 111 = .ok (.ireturn, 1) := by decide +kernel
theorem dX10_next_112 : decode cX10_next 112 = .ok (.iinc 5 (-1), 3) := by decide +kernel
theorem dX10_next_115 : decode cX10_next 115 = .ok (.goto (-24), 3) := by decide +kernel
theorem dX10_next_118 : decode cX10_next 118 = .ok (.bipush (-4), 2) := by decide +kernel
theorem dX10_next_120 : decode cX10_next 120 = .ok (.ireturn, 1) := by decide +kernel
theorem qX10_dealsSum : jYv yX10_dealsSum cX10_dealsSum 4 (some .int) 1 := ⟨tw_1223, tw_51, tw_72, tw_1224, ⟨by decide +kernel, by decide +kernel, by decide +kernel⟩⟩
abbrev rX10_dealsSum : Room := { frames := 4, cells := 0, slots := 0, locals := 93 }
def uX10_dealsSum : jM := (cX10_dealsSum, 4, RX10, (some .int), rX10_dealsSum)
def pX10_dealsSum_20b (fu : Nat) (x1 : Int32) (x2 : Int32) (x3 : Int32) (M : Mem) (c20 : Int32 → Int32 → Int32 → Mem → Res) (c49 : Int32 → Int32 → Mem → Res) : Res :=
  if x2 ≤ x3 then (
    c49 x1 x2 M)
  else
  ld M 15 4 x2 fun v2 =>
  ld M 15 4 x3 fun v3 =>
  if v2 = v3 then (
    some ((-4 : Int32), M))
  else
  c20 x1 x2 (x3 + (1 : Int32)) M
set_option maxRecDepth 100000 in
theorem wX10_dealsSum_20b {E : jE} {X : jC} (hX : jOk X uX10_dealsSum (gM E)) (fu : Nat)  (x1 : Int32) (x2 : Int32) (x3 : Int32) (M : Mem) (c20 : Int32 → Int32 → Int32 → Mem → Res) (c49 : Int32 → Int32 → Mem → Res) (hc20 : ∀ (x1 : Int32) (x2 : Int32) (x3 : Int32) (M : Mem), J X uX10_dealsSum (gM E) 20 [(0, .ref (gad (gM E) 0)), (1, .int x1), (2, .int x2), (3, .int x3)] [] M (c20 x1 x2 x3 M)) (hc49 : ∀ (x1 : Int32) (x2 : Int32) (M : Mem), J X uX10_dealsSum (gM E) 49 [(0, .ref (gad (gM E) 0)), (1, .int x1), (2, .int x2)] [] M (c49 x1 x2 M)) : J X uX10_dealsSum (gM E) 20 [(0, .ref (gad (gM E) 0)), (1, .int x1), (2, .int x2), (3, .int x3)] [] M (pX10_dealsSum_20b fu  x1 x2 x3 M c20 c49) := by
  unfold pX10_dealsSum_20b
  refine j_iload_n (pc := 20) hX 3 dX10_dealsSum_20 rfl rfl ?_
  refine j_iload_n (pc := 21) hX 2 dX10_dealsSum_21 rfl rfl ?_
  refine j_icmp_ge (pc := 22) hX 49 dX10_dealsSum_22 (by decide) ?_ ?_
  · exact j_sub [0, 1, 2] rfl (hc49 x1 x2 M)
  · refine j_aload_n (pc := 25) hX 0 dX10_dealsSum_25 rfl rfl ?_
    refine j_getR (pc := 26) (t := 15) hX (jb rfl) rfl (ci := 9) (C := RX10) (T := TX10) (N := 30) rfl (jb rfl) inX10 (j := 28) (jb rfl) rfl tw_948 dX10_dealsSum_26 ?_
    refine j_iload_n (pc := 29) hX 2 dX10_dealsSum_29 rfl rfl ?_
    refine j_iald (pc := 30) hX (jb rfl) rfl rfl dX10_dealsSum_30 (fun v2 => ?_)
    refine j_aload_n (pc := 31) hX 0 dX10_dealsSum_31 rfl rfl ?_
    refine j_getR (pc := 32) (t := 15) hX (jb rfl) rfl (ci := 9) (C := RX10) (T := TX10) (N := 30) rfl (jb rfl) inX10 (j := 28) (jb rfl) rfl tw_948 dX10_dealsSum_32 ?_
    refine j_iload_n (pc := 35) hX 3 dX10_dealsSum_35 rfl rfl ?_
    refine j_iald (pc := 36) hX (jb rfl) rfl rfl dX10_dealsSum_36 (fun v3 => ?_)
    refine j_icmp_ne (pc := 37) hX 43 dX10_dealsSum_37 (by decide) ?_ ?_
    · refine j_iinc (pc := 43) (v := (x3 + (1 : Int32))) (lv' := [(3, .int (x3 + (1 : Int32))), (0, .ref (gad (gM E) 0)), (1, .int x1), (2, .int x2)]) hX 3 dX10_dealsSum_43 rfl (by rw [ci_1]) (jb rfl) rfl ?_
      refine j_goto (pc := 46) hX 20 dX10_dealsSum_46 (by decide) ?_
      exact j_sub [1, 2, 3, 0] rfl (hc20 x1 x2 (x3 + (1 : Int32)) M)
    · refine j_bipush (pc := 40) (v := (-4 : Int32)) hX dX10_dealsSum_40 cb_m4 ?_
      exact j_iret (pc := 42) hX rfl dX10_dealsSum_42
def pX10_dealsSum_20 (fu : Nat) (c49 : Int32 → Int32 → Mem → Res) : Nat → Int32 → Int32 → Int32 → Mem → Res
  | 0, _, _, _, _ => none
  | n + 1, x1, x2, x3, M => pX10_dealsSum_20b fu  x1 x2 x3 M (pX10_dealsSum_20 fu  c49 n) c49
theorem wX10_dealsSum_20 {E : jE} {X : jC} (hX : jOk X uX10_dealsSum (gM E)) (fu : Nat)  (c49 : Int32 → Int32 → Mem → Res) (hc49 : ∀ (x1 : Int32) (x2 : Int32) (M : Mem), J X uX10_dealsSum (gM E) 49 [(0, .ref (gad (gM E) 0)), (1, .int x1), (2, .int x2)] [] M (c49 x1 x2 M)) : ∀ (n : Nat) (x1 : Int32) (x2 : Int32) (x3 : Int32) (M : Mem), J X uX10_dealsSum (gM E) 20 [(0, .ref (gad (gM E) 0)), (1, .int x1), (2, .int x2), (3, .int x3)] [] M (pX10_dealsSum_20 fu  c49 n x1 x2 x3 M) := by
  intro n
  induction n with
  | zero => intro x1 x2 x3 M; exact j_none
  | succ n ih => intro x1 x2 x3 M; exact wX10_dealsSum_20b hX fu   x1 x2 x3 M (pX10_dealsSum_20 fu  c49 n) c49 ih hc49
def pX10_dealsSum_10b (fu : Nat) (x1 : Int32) (x2 : Int32) (M : Mem) (c10 : Int32 → Int32 → Mem → Res) (c73 : Int32 → Mem → Res) : Res :=
  if (M 0 4) ≤ x2 then (
    c73 x1 M)
  else
  pX10_dealsSum_20 fu
    (fun y4 y5 M6 =>
      ld M6 15 4 y5 fun v7 =>
      bI (pX10_canSend fu (0 : Int32) v7 y5 M6) fun r9 M8 =>
      if r9 = 0 then (
        some ((-4 : Int32), M8))
      else
      c10 y4 (y5 + (1 : Int32)) M8)
    fu x1 x2 (0 : Int32) M
set_option maxRecDepth 100000 in
theorem wX10_dealsSum_10b {E : jE} {X : jC} (hX : jOk X uX10_dealsSum (gM E)) (fu : Nat)  (x1 : Int32) (x2 : Int32) (M : Mem) (c10 : Int32 → Int32 → Mem → Res) (c73 : Int32 → Mem → Res) (hc10 : ∀ (x1 : Int32) (x2 : Int32) (M : Mem), J X uX10_dealsSum (gM E) 10 [(0, .ref (gad (gM E) 0)), (1, .int x1), (2, .int x2)] [] M (c10 x1 x2 M)) (hc73 : ∀ (x1 : Int32) (M : Mem), J X uX10_dealsSum (gM E) 73 [(0, .ref (gad (gM E) 0)), (1, .int x1)] [] M (c73 x1 M)) : J X uX10_dealsSum (gM E) 10 [(0, .ref (gad (gM E) 0)), (1, .int x1), (2, .int x2)] [] M (pX10_dealsSum_10b fu  x1 x2 M c10 c73) := by
  unfold pX10_dealsSum_10b
  refine j_iload_n (pc := 10) hX 2 dX10_dealsSum_10 rfl rfl ?_
  refine j_aload_n (pc := 11) hX 0 dX10_dealsSum_11 rfl rfl ?_
  refine j_getI (pc := 12) hX (jb rfl) rfl (ci := 9) (C := RX10) (T := TX10) (N := 30) rfl (jb rfl) inX10 (j := 4) (jb rfl) rfl tw_924 dX10_dealsSum_12 ?_
  refine j_icmp_ge (pc := 15) hX 73 dX10_dealsSum_15 (by decide) ?_ ?_
  · exact j_sub [0, 1] rfl (hc73 x1 M)
  · refine j_iconst (pc := 18) (v := (0 : Int32)) hX dX10_dealsSum_18 ci_0 ?_
    refine j_istore_n (pc := 19) (lv' := [(3, .int (0 : Int32)), (0, .ref (gad (gM E) 0)), (1, .int x1), (2, .int x2)]) hX dX10_dealsSum_19 rfl (jb rfl) rfl ?_
    refine j_sub [1, 2, 3, 0] rfl (wX10_dealsSum_20 hX fu   _ ?_ fu x1 x2 (0 : Int32) M)
    · intro y4 y5 M6
      refine j_aload_n (pc := 49) hX 0 dX10_dealsSum_49 rfl rfl ?_
      refine j_iconst (pc := 50) (v := (0 : Int32)) hX dX10_dealsSum_50 ci_0 ?_
      refine j_aload_n (pc := 51) hX 0 dX10_dealsSum_51 rfl rfl ?_
      refine j_getR (pc := 52) (t := 15) hX (jb rfl) rfl (ci := 9) (C := RX10) (T := TX10) (N := 30) rfl (jb rfl) inX10 (j := 28) (jb rfl) rfl tw_948 dX10_dealsSum_52 ?_
      refine j_iload_n (pc := 55) hX 2 dX10_dealsSum_55 rfl rfl ?_
      refine j_iald (pc := 56) hX (jb rfl) rfl rfl dX10_dealsSum_56 (fun v7 => ?_)
      refine j_iload_n (pc := 57) hX 2 dX10_dealsSum_57 rfl rfl ?_
      refine j_callV (pc := 58) hX [.int (0 : Int32), .int v7, .int y5] (mX10_canSend _ E hX.2.2.2.2.2.2.2.2.1 fu   (0 : Int32) v7 y5 M6) qX10_canSend tw_1119 (jb rfl) rfl (ci := 9) (T := TX10) (N := 30) rfl (jb rfl) rfl ⟨rfl, rfl⟩ ⟨(Nat.le_of_ble_eq_true rfl), (Nat.le_of_ble_eq_true rfl)⟩ (Nat.le_of_ble_eq_true rfl) dX10_dealsSum_58 (fun _ => rfl) rfl (fun r9 M8 => ?_)
      refine j_if_ne (pc := 61) hX 67 dX10_dealsSum_61 (by decide) ?_ ?_
      · refine j_iinc (pc := 67) (v := (y5 + (1 : Int32))) (lv' := [(2, .int (y5 + (1 : Int32))), (0, .ref (gad (gM E) 0)), (1, .int y4)]) hX 2 dX10_dealsSum_67 rfl (by rw [ci_1]) (jb rfl) rfl ?_
        refine j_goto (pc := 70) hX 10 dX10_dealsSum_70 (by decide) ?_
        exact j_sub [1, 2, 0] rfl (hc10 y4 (y5 + (1 : Int32)) M8)
      · refine j_bipush (pc := 64) (v := (-4 : Int32)) hX dX10_dealsSum_64 cb_m4 ?_
        exact j_iret (pc := 66) hX rfl dX10_dealsSum_66
def pX10_dealsSum_10 (fu : Nat) (c73 : Int32 → Mem → Res) : Nat → Int32 → Int32 → Mem → Res
  | 0, _, _, _ => none
  | n + 1, x1, x2, M => pX10_dealsSum_10b fu  x1 x2 M (pX10_dealsSum_10 fu  c73 n) c73
theorem wX10_dealsSum_10 {E : jE} {X : jC} (hX : jOk X uX10_dealsSum (gM E)) (fu : Nat)  (c73 : Int32 → Mem → Res) (hc73 : ∀ (x1 : Int32) (M : Mem), J X uX10_dealsSum (gM E) 73 [(0, .ref (gad (gM E) 0)), (1, .int x1)] [] M (c73 x1 M)) : ∀ (n : Nat) (x1 : Int32) (x2 : Int32) (M : Mem), J X uX10_dealsSum (gM E) 10 [(0, .ref (gad (gM E) 0)), (1, .int x1), (2, .int x2)] [] M (pX10_dealsSum_10 fu  c73 n x1 x2 M) := by
  intro n
  induction n with
  | zero => intro x1 x2 M; exact j_none
  | succ n ih => intro x1 x2 M; exact wX10_dealsSum_10b hX fu   x1 x2 M (pX10_dealsSum_10 fu  c73 n) c73 ih hc73
def pX10_dealsSum_75b (fu : Nat) (x1 : Int32) (x2 : Int32) (M : Mem) (c75 : Int32 → Int32 → Mem → Res) (c104 : Int32 → Mem → Res) : Res :=
  if (M 0 4) ≤ x2 then (
    c104 x1 M)
  else
  ld M 15 4 x2 fun v12 =>
  bV (pX10_sends fu (704 : Int32) v12 x1 x2 M) fun M13 =>
  c75 x1 (x2 + (1 : Int32)) M13
set_option maxRecDepth 100000 in
theorem wX10_dealsSum_75b {E : jE} {X : jC} (hX : jOk X uX10_dealsSum (gM E)) (fu : Nat)  (x1 : Int32) (x2 : Int32) (M : Mem) (c75 : Int32 → Int32 → Mem → Res) (c104 : Int32 → Mem → Res) (hc75 : ∀ (x1 : Int32) (x2 : Int32) (M : Mem), J X uX10_dealsSum (gM E) 75 [(0, .ref (gad (gM E) 0)), (1, .int x1), (2, .int x2)] [] M (c75 x1 x2 M)) (hc104 : ∀ (x1 : Int32) (M : Mem), J X uX10_dealsSum (gM E) 104 [(0, .ref (gad (gM E) 0)), (1, .int x1)] [] M (c104 x1 M)) : J X uX10_dealsSum (gM E) 75 [(0, .ref (gad (gM E) 0)), (1, .int x1), (2, .int x2)] [] M (pX10_dealsSum_75b fu  x1 x2 M c75 c104) := by
  unfold pX10_dealsSum_75b
  refine j_iload_n (pc := 75) hX 2 dX10_dealsSum_75 rfl rfl ?_
  refine j_aload_n (pc := 76) hX 0 dX10_dealsSum_76 rfl rfl ?_
  refine j_getI (pc := 77) hX (jb rfl) rfl (ci := 9) (C := RX10) (T := TX10) (N := 30) rfl (jb rfl) inX10 (j := 4) (jb rfl) rfl tw_924 dX10_dealsSum_77 ?_
  refine j_icmp_ge (pc := 80) hX 104 dX10_dealsSum_80 (by decide) ?_ ?_
  · exact j_sub [0, 1] rfl (hc104 x1 M)
  · refine j_aload_n (pc := 83) hX 0 dX10_dealsSum_83 rfl rfl ?_
    refine j_sipush (pc := 84) (v := (704 : Int32)) hX dX10_dealsSum_84 cs_704 ?_
    refine j_aload_n (pc := 87) hX 0 dX10_dealsSum_87 rfl rfl ?_
    refine j_getR (pc := 88) (t := 15) hX (jb rfl) rfl (ci := 9) (C := RX10) (T := TX10) (N := 30) rfl (jb rfl) inX10 (j := 28) (jb rfl) rfl tw_948 dX10_dealsSum_88 ?_
    refine j_iload_n (pc := 91) hX 2 dX10_dealsSum_91 rfl rfl ?_
    refine j_iald (pc := 92) hX (jb rfl) rfl rfl dX10_dealsSum_92 (fun v12 => ?_)
    refine j_iload_n (pc := 93) hX 1 dX10_dealsSum_93 rfl rfl ?_
    refine j_iload_n (pc := 94) hX 2 dX10_dealsSum_94 rfl rfl ?_
    refine j_callVv (pc := 95) hX [.int (704 : Int32), .int v12, .int x1, .int x2] (mX10_sends _ E hX.2.2.2.2.2.2.2.2.1 fu   (704 : Int32) v12 x1 x2 M) qX10_sends tw_1127 (jb rfl) rfl (ci := 9) (T := TX10) (N := 30) rfl (jb rfl) rfl ⟨rfl, rfl⟩ ⟨(Nat.le_of_ble_eq_true rfl), (Nat.le_of_ble_eq_true rfl)⟩ (Nat.le_of_ble_eq_true rfl) dX10_dealsSum_95 rfl (fun M13 => ?_)
    refine j_iinc (pc := 98) (v := (x2 + (1 : Int32))) (lv' := [(2, .int (x2 + (1 : Int32))), (0, .ref (gad (gM E) 0)), (1, .int x1)]) hX 2 dX10_dealsSum_98 rfl (by rw [ci_1]) (jb rfl) rfl ?_
    refine j_goto (pc := 101) hX 75 dX10_dealsSum_101 (by decide) ?_
    exact j_sub [1, 2, 0] rfl (hc75 x1 (x2 + (1 : Int32)) M13)
def pX10_dealsSum_75 (fu : Nat) (c104 : Int32 → Mem → Res) : Nat → Int32 → Int32 → Mem → Res
  | 0, _, _, _ => none
  | n + 1, x1, x2, M => pX10_dealsSum_75b fu  x1 x2 M (pX10_dealsSum_75 fu  c104 n) c104
theorem wX10_dealsSum_75 {E : jE} {X : jC} (hX : jOk X uX10_dealsSum (gM E)) (fu : Nat)  (c104 : Int32 → Mem → Res) (hc104 : ∀ (x1 : Int32) (M : Mem), J X uX10_dealsSum (gM E) 104 [(0, .ref (gad (gM E) 0)), (1, .int x1)] [] M (c104 x1 M)) : ∀ (n : Nat) (x1 : Int32) (x2 : Int32) (M : Mem), J X uX10_dealsSum (gM E) 75 [(0, .ref (gad (gM E) 0)), (1, .int x1), (2, .int x2)] [] M (pX10_dealsSum_75 fu  c104 n x1 x2 M) := by
  intro n
  induction n with
  | zero => intro x1 x2 M; exact j_none
  | succ n ih => intro x1 x2 M; exact wX10_dealsSum_75b hX fu   x1 x2 M (pX10_dealsSum_75 fu  c104 n) c104 ih hc104
def pX10_dealsSum_106b (fu : Nat) (x1 : Int32) (x2 : Int32) (M : Mem) (c106 : Int32 → Int32 → Mem → Res) (c125 : Int32 → Mem → Res) : Res :=
  if (5 : Int32) ≤ x2 then (
    c125 x1 M)
  else
  sto M 14 5 x2 (-4 : Int32) fun M16 =>
  c106 x1 (x2 + (1 : Int32)) M16
set_option maxRecDepth 100000 in
theorem wX10_dealsSum_106b {E : jE} {X : jC} (hX : jOk X uX10_dealsSum (gM E)) (fu : Nat)  (x1 : Int32) (x2 : Int32) (M : Mem) (c106 : Int32 → Int32 → Mem → Res) (c125 : Int32 → Mem → Res) (hc106 : ∀ (x1 : Int32) (x2 : Int32) (M : Mem), J X uX10_dealsSum (gM E) 106 [(0, .ref (gad (gM E) 0)), (1, .int x1), (2, .int x2)] [] M (c106 x1 x2 M)) (hc125 : ∀ (x1 : Int32) (M : Mem), J X uX10_dealsSum (gM E) 125 [(0, .ref (gad (gM E) 0)), (1, .int x1)] [] M (c125 x1 M)) : J X uX10_dealsSum (gM E) 106 [(0, .ref (gad (gM E) 0)), (1, .int x1), (2, .int x2)] [] M (pX10_dealsSum_106b fu  x1 x2 M c106 c125) := by
  unfold pX10_dealsSum_106b
  refine j_iload_n (pc := 106) hX 2 dX10_dealsSum_106 rfl rfl ?_
  refine j_iconst (pc := 107) (v := (5 : Int32)) hX dX10_dealsSum_107 ci_5 ?_
  refine j_icmp_ge (pc := 108) hX 125 dX10_dealsSum_108 (by decide) ?_ ?_
  · exact j_sub [0, 1] rfl (hc125 x1 M)
  · refine j_aload_n (pc := 111) hX 0 dX10_dealsSum_111 rfl rfl ?_
    refine j_getR (pc := 112) (t := 14) hX (jb rfl) rfl (ci := 9) (C := RX10) (T := TX10) (N := 30) rfl (jb rfl) inX10 (j := 27) (jb rfl) rfl tw_947 dX10_dealsSum_112 ?_
    refine j_iload_n (pc := 115) hX 2 dX10_dealsSum_115 rfl rfl ?_
    refine j_bipush (pc := 116) (v := (-4 : Int32)) hX dX10_dealsSum_116 cb_m4 ?_
    refine j_iast (pc := 118) hX (jb rfl) rfl rfl dX10_dealsSum_118 (fun M16 => ?_)
    refine j_iinc (pc := 119) (v := (x2 + (1 : Int32))) (lv' := [(2, .int (x2 + (1 : Int32))), (0, .ref (gad (gM E) 0)), (1, .int x1)]) hX 2 dX10_dealsSum_119 rfl (by rw [ci_1]) (jb rfl) rfl ?_
    refine j_goto (pc := 122) hX 106 dX10_dealsSum_122 (by decide) ?_
    exact j_sub [1, 2, 0] rfl (hc106 x1 (x2 + (1 : Int32)) M16)
def pX10_dealsSum_106 (fu : Nat) (c125 : Int32 → Mem → Res) : Nat → Int32 → Int32 → Mem → Res
  | 0, _, _, _ => none
  | n + 1, x1, x2, M => pX10_dealsSum_106b fu  x1 x2 M (pX10_dealsSum_106 fu  c125 n) c125
theorem wX10_dealsSum_106 {E : jE} {X : jC} (hX : jOk X uX10_dealsSum (gM E)) (fu : Nat)  (c125 : Int32 → Mem → Res) (hc125 : ∀ (x1 : Int32) (M : Mem), J X uX10_dealsSum (gM E) 125 [(0, .ref (gad (gM E) 0)), (1, .int x1)] [] M (c125 x1 M)) : ∀ (n : Nat) (x1 : Int32) (x2 : Int32) (M : Mem), J X uX10_dealsSum (gM E) 106 [(0, .ref (gad (gM E) 0)), (1, .int x1), (2, .int x2)] [] M (pX10_dealsSum_106 fu  c125 n x1 x2 M) := by
  intro n
  induction n with
  | zero => intro x1 x2 M; exact j_none
  | succ n ih => intro x1 x2 M; exact wX10_dealsSum_106b hX fu   x1 x2 M (pX10_dealsSum_106 fu  c125 n) c125 ih hc125
def pX10_dealsSum_189 (fu : Nat) (x1 : Int32) (x2 : Int32) (x3 : Int32) (s0 : Int32) (s1 : Int32) (M : Mem) (c143 : Int32 → Int32 → Int32 → Mem → Res) : Res :=
  sto M 14 5 s1 s0 fun M22 =>
  c143 x1 x2 (x3 + (1 : Int32)) M22
set_option maxRecDepth 100000 in
theorem wX10_dealsSum_189 {E : jE} {X : jC} (hX : jOk X uX10_dealsSum (gM E)) (fu : Nat)  (x1 : Int32) (x2 : Int32) (x3 : Int32) (s0 : Int32) (s1 : Int32) (M : Mem) (c143 : Int32 → Int32 → Int32 → Mem → Res) (hc143 : ∀ (x1 : Int32) (x2 : Int32) (x3 : Int32) (M : Mem), J X uX10_dealsSum (gM E) 143 [(0, .ref (gad (gM E) 0)), (1, .int x1), (2, .int x2), (3, .int x3)] [] M (c143 x1 x2 x3 M)) : J X uX10_dealsSum (gM E) 189 [(0, .ref (gad (gM E) 0)), (1, .int x1), (2, .int x2), (3, .int x3)] [.int s0, .int s1, .ref (gad (gM E) 14)] M (pX10_dealsSum_189 fu  x1 x2 x3 s0 s1 M c143) := by
  unfold pX10_dealsSum_189
  refine j_iast (pc := 189) hX (jb rfl) rfl rfl dX10_dealsSum_189 (fun M22 => ?_)
  refine j_iinc (pc := 190) (v := (x3 + (1 : Int32))) (lv' := [(3, .int (x3 + (1 : Int32))), (0, .ref (gad (gM E) 0)), (1, .int x1), (2, .int x2)]) hX 3 dX10_dealsSum_190 rfl (by rw [ci_1]) (jb rfl) rfl ?_
  refine j_goto (pc := 193) hX 143 dX10_dealsSum_193 (by decide) ?_
  exact j_sub [1, 2, 3, 0] rfl (hc143 x1 x2 (x3 + (1 : Int32)) M22)
def pX10_dealsSum_183 (fu : Nat) (x1 : Int32) (x2 : Int32) (x3 : Int32) (s0 : Int32) (M : Mem) (c143 : Int32 → Int32 → Int32 → Mem → Res) : Res :=
  ld M 14 5 x3 fun v21 =>
  pX10_dealsSum_189 fu  x1 x2 x3 v21 s0 M c143
set_option maxRecDepth 100000 in
theorem wX10_dealsSum_183 {E : jE} {X : jC} (hX : jOk X uX10_dealsSum (gM E)) (fu : Nat)  (x1 : Int32) (x2 : Int32) (x3 : Int32) (s0 : Int32) (M : Mem) (c143 : Int32 → Int32 → Int32 → Mem → Res) (hc143 : ∀ (x1 : Int32) (x2 : Int32) (x3 : Int32) (M : Mem), J X uX10_dealsSum (gM E) 143 [(0, .ref (gad (gM E) 0)), (1, .int x1), (2, .int x2), (3, .int x3)] [] M (c143 x1 x2 x3 M)) : J X uX10_dealsSum (gM E) 183 [(0, .ref (gad (gM E) 0)), (1, .int x1), (2, .int x2), (3, .int x3)] [.int s0, .ref (gad (gM E) 14)] M (pX10_dealsSum_183 fu  x1 x2 x3 s0 M c143) := by
  unfold pX10_dealsSum_183
  refine j_aload_n (pc := 183) hX 0 dX10_dealsSum_183 rfl rfl ?_
  refine j_getR (pc := 184) (t := 14) hX (jb rfl) rfl (ci := 9) (C := RX10) (T := TX10) (N := 30) rfl (jb rfl) inX10 (j := 27) (jb rfl) rfl tw_947 dX10_dealsSum_184 ?_
  refine j_iload_n (pc := 187) hX 3 dX10_dealsSum_187 rfl rfl ?_
  refine j_iald (pc := 188) hX (jb rfl) rfl rfl dX10_dealsSum_188 (fun v21 => ?_)
  exact j_sub [0, 1, 2, 3] rfl (wX10_dealsSum_189 hX fu   x1 x2 x3 v21 s0 M c143 hc143)
def pX10_dealsSum_143b (fu : Nat) (x1 : Int32) (x2 : Int32) (x3 : Int32) (M : Mem) (c143 : Int32 → Int32 → Int32 → Mem → Res) (c196 : Int32 → Int32 → Mem → Res) : Res :=
  if (M 0 7) ≤ x3 then (
    c196 x1 x2 M)
  else
  ld M 14 5 x3 fun v20 =>
  if 0 ≤ v20 then (
    pX10_dealsSum_183 fu  x1 x2 x3 x3 M c143)
  else
  ld M 12 768 ((704 : Int32) + x3) fun v23 =>
  if v23 = (2 : Int32) then (
    pX10_dealsSum_189 fu  x1 x2 x3 x2 x3 M c143)
  else
  pX10_dealsSum_183 fu  x1 x2 x3 x3 M c143
set_option maxRecDepth 100000 in
theorem wX10_dealsSum_143b {E : jE} {X : jC} (hX : jOk X uX10_dealsSum (gM E)) (fu : Nat)  (x1 : Int32) (x2 : Int32) (x3 : Int32) (M : Mem) (c143 : Int32 → Int32 → Int32 → Mem → Res) (c196 : Int32 → Int32 → Mem → Res) (hc143 : ∀ (x1 : Int32) (x2 : Int32) (x3 : Int32) (M : Mem), J X uX10_dealsSum (gM E) 143 [(0, .ref (gad (gM E) 0)), (1, .int x1), (2, .int x2), (3, .int x3)] [] M (c143 x1 x2 x3 M)) (hc196 : ∀ (x1 : Int32) (x2 : Int32) (M : Mem), J X uX10_dealsSum (gM E) 196 [(0, .ref (gad (gM E) 0)), (1, .int x1), (2, .int x2)] [] M (c196 x1 x2 M)) : J X uX10_dealsSum (gM E) 143 [(0, .ref (gad (gM E) 0)), (1, .int x1), (2, .int x2), (3, .int x3)] [] M (pX10_dealsSum_143b fu  x1 x2 x3 M c143 c196) := by
  unfold pX10_dealsSum_143b
  refine j_iload_n (pc := 143) hX 3 dX10_dealsSum_143 rfl rfl ?_
  refine j_aload_n (pc := 144) hX 0 dX10_dealsSum_144 rfl rfl ?_
  refine j_getI (pc := 145) hX (jb rfl) rfl (ci := 9) (C := RX10) (T := TX10) (N := 30) rfl (jb rfl) inX10 (j := 7) (jb rfl) rfl tw_927 dX10_dealsSum_145 ?_
  refine j_icmp_ge (pc := 148) hX 196 dX10_dealsSum_148 (by decide) ?_ ?_
  · exact j_sub [0, 1, 2] rfl (hc196 x1 x2 M)
  · refine j_aload_n (pc := 151) hX 0 dX10_dealsSum_151 rfl rfl ?_
    refine j_getR (pc := 152) (t := 14) hX (jb rfl) rfl (ci := 9) (C := RX10) (T := TX10) (N := 30) rfl (jb rfl) inX10 (j := 27) (jb rfl) rfl tw_947 dX10_dealsSum_152 ?_
    refine j_iload_n (pc := 155) hX 3 dX10_dealsSum_155 rfl rfl ?_
    refine j_aload_n (pc := 156) hX 0 dX10_dealsSum_156 rfl rfl ?_
    refine j_getR (pc := 157) (t := 14) hX (jb rfl) rfl (ci := 9) (C := RX10) (T := TX10) (N := 30) rfl (jb rfl) inX10 (j := 27) (jb rfl) rfl tw_947 dX10_dealsSum_157 ?_
    refine j_iload_n (pc := 160) hX 3 dX10_dealsSum_160 rfl rfl ?_
    refine j_iald (pc := 161) hX (jb rfl) rfl rfl dX10_dealsSum_161 (fun v20 => ?_)
    refine j_if_ge (pc := 162) hX 183 dX10_dealsSum_162 (by decide) ?_ ?_
    · exact j_sub [0, 1, 2, 3] rfl (wX10_dealsSum_183 hX fu   x1 x2 x3 x3 M c143 hc143)
    · refine j_aload_n (pc := 165) hX 0 dX10_dealsSum_165 rfl rfl ?_
      refine j_getR (pc := 166) (t := 12) hX (jb rfl) rfl (ci := 9) (C := RX10) (T := TX10) (N := 30) rfl (jb rfl) inX10 (j := 19) (jb rfl) rfl tw_939 dX10_dealsSum_166 ?_
      refine j_sipush (pc := 169) (v := (704 : Int32)) hX dX10_dealsSum_169 cs_704 ?_
      refine j_iload_n (pc := 172) hX 3 dX10_dealsSum_172 rfl rfl ?_
      refine j_iadd (pc := 173) hX dX10_dealsSum_173 ?_
      refine j_iald (pc := 174) hX (jb rfl) rfl rfl dX10_dealsSum_174 (fun v23 => ?_)
      refine j_iconst (pc := 175) (v := (2 : Int32)) hX dX10_dealsSum_175 ci_2 ?_
      refine j_icmp_ne (pc := 176) hX 183 dX10_dealsSum_176 (by decide) ?_ ?_
      · exact j_sub [0, 1, 2, 3] rfl (wX10_dealsSum_183 hX fu   x1 x2 x3 x3 M c143 hc143)
      · refine j_iload_n (pc := 179) hX 2 dX10_dealsSum_179 rfl rfl ?_
        refine j_goto (pc := 180) hX 189 dX10_dealsSum_180 (by decide) ?_
        exact j_sub [0, 1, 2, 3] rfl (wX10_dealsSum_189 hX fu   x1 x2 x3 x2 x3 M c143 hc143)
def pX10_dealsSum_143 (fu : Nat) (c196 : Int32 → Int32 → Mem → Res) : Nat → Int32 → Int32 → Int32 → Mem → Res
  | 0, _, _, _, _ => none
  | n + 1, x1, x2, x3, M => pX10_dealsSum_143b fu  x1 x2 x3 M (pX10_dealsSum_143 fu  c196 n) c196
theorem wX10_dealsSum_143 {E : jE} {X : jC} (hX : jOk X uX10_dealsSum (gM E)) (fu : Nat)  (c196 : Int32 → Int32 → Mem → Res) (hc196 : ∀ (x1 : Int32) (x2 : Int32) (M : Mem), J X uX10_dealsSum (gM E) 196 [(0, .ref (gad (gM E) 0)), (1, .int x1), (2, .int x2)] [] M (c196 x1 x2 M)) : ∀ (n : Nat) (x1 : Int32) (x2 : Int32) (x3 : Int32) (M : Mem), J X uX10_dealsSum (gM E) 143 [(0, .ref (gad (gM E) 0)), (1, .int x1), (2, .int x2), (3, .int x3)] [] M (pX10_dealsSum_143 fu  c196 n x1 x2 x3 M) := by
  intro n
  induction n with
  | zero => intro x1 x2 x3 M; exact j_none
  | succ n ih => intro x1 x2 x3 M; exact wX10_dealsSum_143b hX fu   x1 x2 x3 M (pX10_dealsSum_143 fu  c196 n) c196 ih hc196
def pX10_dealsSum_127b (fu : Nat) (x1 : Int32) (x2 : Int32) (M : Mem) (c127 : Int32 → Int32 → Mem → Res) (c202 : Int32 → Mem → Res) : Res :=
  if (99 : Int32) < x2 then (
    c202 x1 M)
  else
  bV (pX10_hour fu (704 : Int32) (-1 : Int32) M) fun M19 =>
  pX10_dealsSum_143 fu
    (fun y24 y25 M26 =>
      c127 y24 (y25 + (1 : Int32)) M26)
    fu x1 x2 (0 : Int32) M19
set_option maxRecDepth 100000 in
theorem wX10_dealsSum_127b {E : jE} {X : jC} (hX : jOk X uX10_dealsSum (gM E)) (fu : Nat)  (x1 : Int32) (x2 : Int32) (M : Mem) (c127 : Int32 → Int32 → Mem → Res) (c202 : Int32 → Mem → Res) (hc127 : ∀ (x1 : Int32) (x2 : Int32) (M : Mem), J X uX10_dealsSum (gM E) 127 [(0, .ref (gad (gM E) 0)), (1, .int x1), (2, .int x2)] [] M (c127 x1 x2 M)) (hc202 : ∀ (x1 : Int32) (M : Mem), J X uX10_dealsSum (gM E) 202 [(0, .ref (gad (gM E) 0)), (1, .int x1)] [] M (c202 x1 M)) : J X uX10_dealsSum (gM E) 127 [(0, .ref (gad (gM E) 0)), (1, .int x1), (2, .int x2)] [] M (pX10_dealsSum_127b fu  x1 x2 M c127 c202) := by
  unfold pX10_dealsSum_127b
  refine j_iload_n (pc := 127) hX 2 dX10_dealsSum_127 rfl rfl ?_
  refine j_bipush (pc := 128) (v := (99 : Int32)) hX dX10_dealsSum_128 cb_99 ?_
  refine j_icmp_gt (pc := 130) hX 202 dX10_dealsSum_130 (by decide) ?_ ?_
  · exact j_sub [0, 1] rfl (hc202 x1 M)
  · refine j_aload_n (pc := 133) hX 0 dX10_dealsSum_133 rfl rfl ?_
    refine j_sipush (pc := 134) (v := (704 : Int32)) hX dX10_dealsSum_134 cs_704 ?_
    refine j_iconst (pc := 137) (v := (-1 : Int32)) hX dX10_dealsSum_137 ci_m1 ?_
    refine j_callVv (pc := 138) hX [.int (704 : Int32), .int (-1 : Int32)] (mX10_hour _ E hX.2.2.2.2.2.2.2.2.1 fu   (704 : Int32) (-1 : Int32) M) qX10_hour tw_1136 (jb rfl) rfl (ci := 9) (T := TX10) (N := 30) rfl (jb rfl) rfl ⟨rfl, rfl⟩ ⟨(Nat.le_of_ble_eq_true rfl), (Nat.le_of_ble_eq_true rfl)⟩ (Nat.le_of_ble_eq_true rfl) dX10_dealsSum_138 rfl (fun M19 => ?_)
    refine j_iconst (pc := 141) (v := (0 : Int32)) hX dX10_dealsSum_141 ci_0 ?_
    refine j_istore_n (pc := 142) (lv' := [(3, .int (0 : Int32)), (0, .ref (gad (gM E) 0)), (1, .int x1), (2, .int x2)]) hX dX10_dealsSum_142 rfl (jb rfl) rfl ?_
    refine j_sub [1, 2, 3, 0] rfl (wX10_dealsSum_143 hX fu   _ ?_ fu x1 x2 (0 : Int32) M19)
    · intro y24 y25 M26
      refine j_iinc (pc := 196) (v := (y25 + (1 : Int32))) (lv' := [(2, .int (y25 + (1 : Int32))), (0, .ref (gad (gM E) 0)), (1, .int y24)]) hX 2 dX10_dealsSum_196 rfl (by rw [ci_1]) (jb rfl) rfl ?_
      refine j_goto (pc := 199) hX 127 dX10_dealsSum_199 (by decide) ?_
      exact j_sub [1, 2, 0] rfl (hc127 y24 (y25 + (1 : Int32)) M26)
def pX10_dealsSum_127 (fu : Nat) (c202 : Int32 → Mem → Res) : Nat → Int32 → Int32 → Mem → Res
  | 0, _, _, _ => none
  | n + 1, x1, x2, M => pX10_dealsSum_127b fu  x1 x2 M (pX10_dealsSum_127 fu  c202 n) c202
theorem wX10_dealsSum_127 {E : jE} {X : jC} (hX : jOk X uX10_dealsSum (gM E)) (fu : Nat)  (c202 : Int32 → Mem → Res) (hc202 : ∀ (x1 : Int32) (M : Mem), J X uX10_dealsSum (gM E) 202 [(0, .ref (gad (gM E) 0)), (1, .int x1)] [] M (c202 x1 M)) : ∀ (n : Nat) (x1 : Int32) (x2 : Int32) (M : Mem), J X uX10_dealsSum (gM E) 127 [(0, .ref (gad (gM E) 0)), (1, .int x1), (2, .int x2)] [] M (pX10_dealsSum_127 fu  c202 n x1 x2 M) := by
  intro n
  induction n with
  | zero => intro x1 x2 M; exact j_none
  | succ n ih => intro x1 x2 M; exact wX10_dealsSum_127b hX fu   x1 x2 M (pX10_dealsSum_127 fu  c202 n) c202 ih hc202
def pX10_dealsSum_206b (fu : Nat) (x1 : Int32) (x2 : Int32) (x3 : Int32) (M : Mem) (c206 : Int32 → Int32 → Int32 → Mem → Res) : Res :=
  if (M 0 4) ≤ x3 then (
    some (x2, M))
  else
  ld M 15 4 x3 fun v29 =>
  ld M 14 5 v29 fun v30 =>
  if v30 < 0 then (
    some ((-4 : Int32), M))
  else
  ld M 15 4 x3 fun v31 =>
  bI (pX10_read fu (704 : Int32) v31 M) fun r33 M32 =>
  if r33 = x1 then (
    ld M32 15 4 x3 fun v34 =>
    ld M32 14 5 v34 fun v35 =>
    c206 x1 (x2 + v35) (x3 + (1 : Int32)) M32)
  else
  some ((-4 : Int32), M32)
set_option maxRecDepth 100000 in
theorem wX10_dealsSum_206b {E : jE} {X : jC} (hX : jOk X uX10_dealsSum (gM E)) (fu : Nat)  (x1 : Int32) (x2 : Int32) (x3 : Int32) (M : Mem) (c206 : Int32 → Int32 → Int32 → Mem → Res) (hc206 : ∀ (x1 : Int32) (x2 : Int32) (x3 : Int32) (M : Mem), J X uX10_dealsSum (gM E) 206 [(0, .ref (gad (gM E) 0)), (1, .int x1), (2, .int x2), (3, .int x3)] [] M (c206 x1 x2 x3 M)) : J X uX10_dealsSum (gM E) 206 [(0, .ref (gad (gM E) 0)), (1, .int x1), (2, .int x2), (3, .int x3)] [] M (pX10_dealsSum_206b fu  x1 x2 x3 M c206) := by
  unfold pX10_dealsSum_206b
  refine j_iload_n (pc := 206) hX 3 dX10_dealsSum_206 rfl rfl ?_
  refine j_aload_n (pc := 207) hX 0 dX10_dealsSum_207 rfl rfl ?_
  refine j_getI (pc := 208) hX (jb rfl) rfl (ci := 9) (C := RX10) (T := TX10) (N := 30) rfl (jb rfl) inX10 (j := 4) (jb rfl) rfl tw_924 dX10_dealsSum_208 ?_
  refine j_icmp_ge (pc := 211) hX 268 dX10_dealsSum_211 (by decide) ?_ ?_
  · refine j_iload_n (pc := 268) hX 2 dX10_dealsSum_268 rfl rfl ?_
    exact j_iret (pc := 269) hX rfl dX10_dealsSum_269
  · refine j_aload_n (pc := 214) hX 0 dX10_dealsSum_214 rfl rfl ?_
    refine j_getR (pc := 215) (t := 14) hX (jb rfl) rfl (ci := 9) (C := RX10) (T := TX10) (N := 30) rfl (jb rfl) inX10 (j := 27) (jb rfl) rfl tw_947 dX10_dealsSum_215 ?_
    refine j_aload_n (pc := 218) hX 0 dX10_dealsSum_218 rfl rfl ?_
    refine j_getR (pc := 219) (t := 15) hX (jb rfl) rfl (ci := 9) (C := RX10) (T := TX10) (N := 30) rfl (jb rfl) inX10 (j := 28) (jb rfl) rfl tw_948 dX10_dealsSum_219 ?_
    refine j_iload_n (pc := 222) hX 3 dX10_dealsSum_222 rfl rfl ?_
    refine j_iald (pc := 223) hX (jb rfl) rfl rfl dX10_dealsSum_223 (fun v29 => ?_)
    refine j_iald (pc := 224) hX (jb rfl) rfl rfl dX10_dealsSum_224 (fun v30 => ?_)
    refine j_if_lt (pc := 225) hX 245 dX10_dealsSum_225 (by decide) ?_ ?_
    · refine j_bipush (pc := 245) (v := (-4 : Int32)) hX dX10_dealsSum_245 cb_m4 ?_
      exact j_iret (pc := 247) hX rfl dX10_dealsSum_247
    · refine j_aload_n (pc := 228) hX 0 dX10_dealsSum_228 rfl rfl ?_
      refine j_sipush (pc := 229) (v := (704 : Int32)) hX dX10_dealsSum_229 cs_704 ?_
      refine j_aload_n (pc := 232) hX 0 dX10_dealsSum_232 rfl rfl ?_
      refine j_getR (pc := 233) (t := 15) hX (jb rfl) rfl (ci := 9) (C := RX10) (T := TX10) (N := 30) rfl (jb rfl) inX10 (j := 28) (jb rfl) rfl tw_948 dX10_dealsSum_233 ?_
      refine j_iload_n (pc := 236) hX 3 dX10_dealsSum_236 rfl rfl ?_
      refine j_iald (pc := 237) hX (jb rfl) rfl rfl dX10_dealsSum_237 (fun v31 => ?_)
      refine j_callV (pc := 238) hX [.int (704 : Int32), .int v31] (mX10_read _ E hX.2.2.2.2.2.2.2.2.1 fu   (704 : Int32) v31 M) qX10_read tw_1167 (jb rfl) rfl (ci := 9) (T := TX10) (N := 30) rfl (jb rfl) rfl ⟨rfl, rfl⟩ ⟨(Nat.le_of_ble_eq_true rfl), (Nat.le_of_ble_eq_true rfl)⟩ (Nat.le_of_ble_eq_true rfl) dX10_dealsSum_238 (fun _ => rfl) rfl (fun r33 M32 => ?_)
      refine j_iload_n (pc := 241) hX 1 dX10_dealsSum_241 rfl rfl ?_
      refine j_icmp_eq (pc := 242) hX 248 dX10_dealsSum_242 (by decide) ?_ ?_
      · refine j_iload_n (pc := 248) hX 2 dX10_dealsSum_248 rfl rfl ?_
        refine j_aload_n (pc := 249) hX 0 dX10_dealsSum_249 rfl rfl ?_
        refine j_getR (pc := 250) (t := 14) hX (jb rfl) rfl (ci := 9) (C := RX10) (T := TX10) (N := 30) rfl (jb rfl) inX10 (j := 27) (jb rfl) rfl tw_947 dX10_dealsSum_250 ?_
        refine j_aload_n (pc := 253) hX 0 dX10_dealsSum_253 rfl rfl ?_
        refine j_getR (pc := 254) (t := 15) hX (jb rfl) rfl (ci := 9) (C := RX10) (T := TX10) (N := 30) rfl (jb rfl) inX10 (j := 28) (jb rfl) rfl tw_948 dX10_dealsSum_254 ?_
        refine j_iload_n (pc := 257) hX 3 dX10_dealsSum_257 rfl rfl ?_
        refine j_iald (pc := 258) hX (jb rfl) rfl rfl dX10_dealsSum_258 (fun v34 => ?_)
        refine j_iald (pc := 259) hX (jb rfl) rfl rfl dX10_dealsSum_259 (fun v35 => ?_)
        refine j_iadd (pc := 260) hX dX10_dealsSum_260 ?_
        refine j_istore_n (pc := 261) (lv' := [(2, .int (x2 + v35)), (0, .ref (gad (gM E) 0)), (1, .int x1), (3, .int x3)]) hX dX10_dealsSum_261 rfl (jb rfl) rfl ?_
        refine j_iinc (pc := 262) (v := (x3 + (1 : Int32))) (lv' := [(3, .int (x3 + (1 : Int32))), (2, .int (x2 + v35)), (0, .ref (gad (gM E) 0)), (1, .int x1)]) hX 3 dX10_dealsSum_262 rfl (by rw [ci_1]) (jb rfl) rfl ?_
        refine j_goto (pc := 265) hX 206 dX10_dealsSum_265 (by decide) ?_
        exact j_sub [2, 3, 1, 0] rfl (hc206 x1 (x2 + v35) (x3 + (1 : Int32)) M32)
      · refine j_bipush (pc := 245) (v := (-4 : Int32)) hX dX10_dealsSum_245 cb_m4 ?_
        exact j_iret (pc := 247) hX rfl dX10_dealsSum_247
def pX10_dealsSum_206 (fu : Nat)  : Nat → Int32 → Int32 → Int32 → Mem → Res
  | 0, _, _, _, _ => none
  | n + 1, x1, x2, x3, M => pX10_dealsSum_206b fu  x1 x2 x3 M (pX10_dealsSum_206 fu   n)
theorem wX10_dealsSum_206 {E : jE} {X : jC} (hX : jOk X uX10_dealsSum (gM E)) (fu : Nat)    : ∀ (n : Nat) (x1 : Int32) (x2 : Int32) (x3 : Int32) (M : Mem), J X uX10_dealsSum (gM E) 206 [(0, .ref (gad (gM E) 0)), (1, .int x1), (2, .int x2), (3, .int x3)] [] M (pX10_dealsSum_206 fu   n x1 x2 x3 M) := by
  intro n
  induction n with
  | zero => intro x1 x2 x3 M; exact j_none
  | succ n ih => intro x1 x2 x3 M; exact wX10_dealsSum_206b hX fu   x1 x2 x3 M (pX10_dealsSum_206 fu   n) ih
def pX10_dealsSum (fu : Nat) (x1 : Int32) (M : Mem) : Res :=
  bV (pX10_copies fu (0 : Int32) (704 : Int32) M) fun M1 =>
  pX10_dealsSum_10 fu
    (fun y10 M11 =>
      pX10_dealsSum_75 fu
        (fun y14 M15 =>
          pX10_dealsSum_106 fu
            (fun y17 M18 =>
              pX10_dealsSum_127 fu
                (fun y27 M28 =>
                  pX10_dealsSum_206 fu
                    fu y27 (0 : Int32) (0 : Int32) M28)
                fu y17 (1 : Int32) M18)
            fu y14 (0 : Int32) M15)
        fu y10 (0 : Int32) M11)
    fu x1 (0 : Int32) M1
set_option maxRecDepth 100000 in
theorem wX10_dealsSum {E : jE} {X : jC} (hX : jOk X uX10_dealsSum (gM E)) (fu : Nat)  (x1 : Int32) (M : Mem) : J X uX10_dealsSum (gM E) 0 [(0, .ref (gad (gM E) 0)), (1, .int x1)] [] M (pX10_dealsSum fu  x1 M) := by
  unfold pX10_dealsSum
  refine j_aload_n (pc := 0) hX 0 dX10_dealsSum_0 rfl rfl ?_
  refine j_iconst (pc := 1) (v := (0 : Int32)) hX dX10_dealsSum_1 ci_0 ?_
  refine j_sipush (pc := 2) (v := (704 : Int32)) hX dX10_dealsSum_2 cs_704 ?_
  refine j_callVv (pc := 5) hX [.int (0 : Int32), .int (704 : Int32)] (mX10_copies _ E hX.2.2.2.2.2.2.2.2.1 fu   (0 : Int32) (704 : Int32) M) qX10_copies tw_916 (jb rfl) rfl (ci := 9) (T := TX10) (N := 30) rfl (jb rfl) rfl ⟨rfl, rfl⟩ ⟨(Nat.le_of_ble_eq_true rfl), (Nat.le_of_ble_eq_true rfl)⟩ (Nat.le_of_ble_eq_true rfl) dX10_dealsSum_5 rfl (fun M1 => ?_)
  refine j_iconst (pc := 8) (v := (0 : Int32)) hX dX10_dealsSum_8 ci_0 ?_
  refine j_istore_n (pc := 9) (lv' := [(2, .int (0 : Int32)), (0, .ref (gad (gM E) 0)), (1, .int x1)]) hX dX10_dealsSum_9 rfl (jb rfl) rfl ?_
  refine j_sub [1, 2, 0] rfl (wX10_dealsSum_10 hX fu   _ ?_ fu x1 (0 : Int32) M1)
  · intro y10 M11
    refine j_iconst (pc := 73) (v := (0 : Int32)) hX dX10_dealsSum_73 ci_0 ?_
    refine j_istore_n (pc := 74) (lv' := [(2, .int (0 : Int32)), (0, .ref (gad (gM E) 0)), (1, .int y10)]) hX dX10_dealsSum_74 rfl (jb rfl) rfl ?_
    refine j_sub [1, 2, 0] rfl (wX10_dealsSum_75 hX fu   _ ?_ fu y10 (0 : Int32) M11)
    · intro y14 M15
      refine j_iconst (pc := 104) (v := (0 : Int32)) hX dX10_dealsSum_104 ci_0 ?_
      refine j_istore_n (pc := 105) (lv' := [(2, .int (0 : Int32)), (0, .ref (gad (gM E) 0)), (1, .int y14)]) hX dX10_dealsSum_105 rfl (jb rfl) rfl ?_
      refine j_sub [1, 2, 0] rfl (wX10_dealsSum_106 hX fu   _ ?_ fu y14 (0 : Int32) M15)
      · intro y17 M18
        refine j_iconst (pc := 125) (v := (1 : Int32)) hX dX10_dealsSum_125 ci_1 ?_
        refine j_istore_n (pc := 126) (lv' := [(2, .int (1 : Int32)), (0, .ref (gad (gM E) 0)), (1, .int y17)]) hX dX10_dealsSum_126 rfl (jb rfl) rfl ?_
        refine j_sub [1, 2, 0] rfl (wX10_dealsSum_127 hX fu   _ ?_ fu y17 (1 : Int32) M18)
        · intro y27 M28
          refine j_iconst (pc := 202) (v := (0 : Int32)) hX dX10_dealsSum_202 ci_0 ?_
          refine j_istore_n (pc := 203) (lv' := [(2, .int (0 : Int32)), (0, .ref (gad (gM E) 0)), (1, .int y27)]) hX dX10_dealsSum_203 rfl (jb rfl) rfl ?_
          refine j_iconst (pc := 204) (v := (0 : Int32)) hX dX10_dealsSum_204 ci_0 ?_
          refine j_istore_n (pc := 205) (lv' := [(3, .int (0 : Int32)), (2, .int (0 : Int32)), (0, .ref (gad (gM E) 0)), (1, .int y27)]) hX dX10_dealsSum_205 rfl (jb rfl) rfl ?_
          refine j_sub [2, 3, 1, 0] rfl (wX10_dealsSum_206 hX fu     fu y27 (0 : Int32) (0 : Int32) M28)
theorem mX10_dealsSum (l : Launch) (E : jE) (hI : jInj (gM E)) (fu : Nat)  (x1 : Int32) (M : Mem) : jMet l (gM E) yX10_dealsSum cX10_dealsSum 4 (some .int) rX10_dealsSum [.ref (gad (gM E) 0), .int x1] M (pX10_dealsSum fu  x1 M) :=
  j_entry hI (by decide +kernel) (Nat.le_of_ble_eq_true rfl) rfl (fun X _ hX => wX10_dealsSum hX fu   x1 M)
theorem qX10_deal : jYv yX10_deal cX10_deal 9 (some .int) 2 := ⟨tw_1217, tw_1218, tw_72, tw_1219, ⟨by decide +kernel, by decide +kernel, by decide +kernel⟩⟩
abbrev rX10_deal : Room := { frames := 5, cells := 0, slots := 0, locals := 116 }
def uX10_deal : jM := (cX10_deal, 9, RX10, (some .int), rX10_deal)
def pX10_deal_37b (fu : Nat) (x1 : Int32) (x2 : Int32) (x3 : Int32) (x4 : Int32) (M : Mem) (c37 : Int32 → Int32 → Int32 → Int32 → Mem → Res) (c59 : Int32 → Int32 → Int32 → Mem → Res) : Res :=
  if (M 0 4) ≤ x4 then (
    c59 x1 x2 x3 M)
  else
  c37 x1 x2 (x3 * (M 0 7)) (x4 + (1 : Int32)) M
set_option maxRecDepth 100000 in
theorem wX10_deal_37b {E : jE} {X : jC} (hX : jOk X uX10_deal (gM E)) (fu : Nat)  (x1 : Int32) (x2 : Int32) (x3 : Int32) (x4 : Int32) (M : Mem) (c37 : Int32 → Int32 → Int32 → Int32 → Mem → Res) (c59 : Int32 → Int32 → Int32 → Mem → Res) (hc37 : ∀ (x1 : Int32) (x2 : Int32) (x3 : Int32) (x4 : Int32) (M : Mem), J X uX10_deal (gM E) 37 [(0, .ref (gad (gM E) 0)), (1, .int x1), (2, .int x2), (3, .int x3), (4, .int x4)] [] M (c37 x1 x2 x3 x4 M)) (hc59 : ∀ (x1 : Int32) (x2 : Int32) (x3 : Int32) (M : Mem), J X uX10_deal (gM E) 59 [(0, .ref (gad (gM E) 0)), (1, .int x1), (2, .int x2), (3, .int x3)] [] M (c59 x1 x2 x3 M)) : J X uX10_deal (gM E) 37 [(0, .ref (gad (gM E) 0)), (1, .int x1), (2, .int x2), (3, .int x3), (4, .int x4)] [] M (pX10_deal_37b fu  x1 x2 x3 x4 M c37 c59) := by
  unfold pX10_deal_37b
  refine j_iload (pc := 37) hX 4 dX10_deal_37 rfl ?_
  refine j_aload_n (pc := 39) hX 0 dX10_deal_39 rfl rfl ?_
  refine j_getI (pc := 40) hX (jb rfl) rfl (ci := 9) (C := RX10) (T := TX10) (N := 30) rfl (jb rfl) inX10 (j := 4) (jb rfl) rfl tw_924 dX10_deal_40 ?_
  refine j_icmp_ge (pc := 43) hX 59 dX10_deal_43 (by decide) ?_ ?_
  · exact j_sub [0, 1, 2, 3] rfl (hc59 x1 x2 x3 M)
  · refine j_iload_n (pc := 46) hX 3 dX10_deal_46 rfl rfl ?_
    refine j_aload_n (pc := 47) hX 0 dX10_deal_47 rfl rfl ?_
    refine j_getI (pc := 48) hX (jb rfl) rfl (ci := 9) (C := RX10) (T := TX10) (N := 30) rfl (jb rfl) inX10 (j := 7) (jb rfl) rfl tw_927 dX10_deal_48 ?_
    refine j_imul (pc := 51) hX dX10_deal_51 ?_
    refine j_istore_n (pc := 52) (lv' := [(3, .int (x3 * (M 0 7))), (0, .ref (gad (gM E) 0)), (1, .int x1), (2, .int x2), (4, .int x4)]) hX dX10_deal_52 rfl (jb rfl) rfl ?_
    refine j_iinc (pc := 53) (v := (x4 + (1 : Int32))) (lv' := [(4, .int (x4 + (1 : Int32))), (3, .int (x3 * (M 0 7))), (0, .ref (gad (gM E) 0)), (1, .int x1), (2, .int x2)]) hX 4 dX10_deal_53 rfl (by rw [ci_1]) (jb rfl) rfl ?_
    refine j_goto (pc := 56) hX 37 dX10_deal_56 (by decide) ?_
    exact j_sub [2, 3, 4, 1, 0] rfl (hc37 x1 x2 (x3 * (M 0 7)) (x4 + (1 : Int32)) M)
def pX10_deal_37 (fu : Nat) (c59 : Int32 → Int32 → Int32 → Mem → Res) : Nat → Int32 → Int32 → Int32 → Int32 → Mem → Res
  | 0, _, _, _, _, _ => none
  | n + 1, x1, x2, x3, x4, M => pX10_deal_37b fu  x1 x2 x3 x4 M (pX10_deal_37 fu  c59 n) c59
theorem wX10_deal_37 {E : jE} {X : jC} (hX : jOk X uX10_deal (gM E)) (fu : Nat)  (c59 : Int32 → Int32 → Int32 → Mem → Res) (hc59 : ∀ (x1 : Int32) (x2 : Int32) (x3 : Int32) (M : Mem), J X uX10_deal (gM E) 59 [(0, .ref (gad (gM E) 0)), (1, .int x1), (2, .int x2), (3, .int x3)] [] M (c59 x1 x2 x3 M)) : ∀ (n : Nat) (x1 : Int32) (x2 : Int32) (x3 : Int32) (x4 : Int32) (M : Mem), J X uX10_deal (gM E) 37 [(0, .ref (gad (gM E) 0)), (1, .int x1), (2, .int x2), (3, .int x3), (4, .int x4)] [] M (pX10_deal_37 fu  c59 n x1 x2 x3 x4 M) := by
  intro n
  induction n with
  | zero => intro x1 x2 x3 x4 M; exact j_none
  | succ n ih => intro x1 x2 x3 x4 M; exact wX10_deal_37b hX fu   x1 x2 x3 x4 M (pX10_deal_37 fu  c59 n) c59 ih hc59
def pX10_deal_84b (fu : Nat) (x1 : Int32) (x2 : Int32) (x3 : Int32) (x4 : Int32) (x5 : Int32) (x6 : Int32) (x7 : Int32) (M : Mem) (c84 : Int32 → Int32 → Int32 → Int32 → Int32 → Int32 → Int32 → Mem → Res) (c118 : Int32 → Int32 → Int32 → Int32 → Int32 → Mem → Res) : Res :=
  if x7 < 0 then (
    c118 x1 x2 x3 x4 x5 M)
  else
  if (M 0 7) = 0 then none else
  sto M 15 4 x7 (irm x6 (M 0 7)) fun M9 =>
  if (M9 0 7) = 0 then none else
  c84 x1 x2 x3 x4 x5 (x6 / (M9 0 7)) (x7 + (-1 : Int32)) M9
set_option maxRecDepth 100000 in
theorem wX10_deal_84b {E : jE} {X : jC} (hX : jOk X uX10_deal (gM E)) (fu : Nat)  (x1 : Int32) (x2 : Int32) (x3 : Int32) (x4 : Int32) (x5 : Int32) (x6 : Int32) (x7 : Int32) (M : Mem) (c84 : Int32 → Int32 → Int32 → Int32 → Int32 → Int32 → Int32 → Mem → Res) (c118 : Int32 → Int32 → Int32 → Int32 → Int32 → Mem → Res) (hc84 : ∀ (x1 : Int32) (x2 : Int32) (x3 : Int32) (x4 : Int32) (x5 : Int32) (x6 : Int32) (x7 : Int32) (M : Mem), J X uX10_deal (gM E) 84 [(0, .ref (gad (gM E) 0)), (1, .int x1), (2, .int x2), (3, .int x3), (4, .int x4), (5, .int x5), (6, .int x6), (7, .int x7)] [] M (c84 x1 x2 x3 x4 x5 x6 x7 M)) (hc118 : ∀ (x1 : Int32) (x2 : Int32) (x3 : Int32) (x4 : Int32) (x5 : Int32) (M : Mem), J X uX10_deal (gM E) 118 [(0, .ref (gad (gM E) 0)), (1, .int x1), (2, .int x2), (3, .int x3), (4, .int x4), (5, .int x5)] [] M (c118 x1 x2 x3 x4 x5 M)) : J X uX10_deal (gM E) 84 [(0, .ref (gad (gM E) 0)), (1, .int x1), (2, .int x2), (3, .int x3), (4, .int x4), (5, .int x5), (6, .int x6), (7, .int x7)] [] M (pX10_deal_84b fu  x1 x2 x3 x4 x5 x6 x7 M c84 c118) := by
  unfold pX10_deal_84b
  refine j_iload (pc := 84) hX 7 dX10_deal_84 rfl ?_
  refine j_if_lt (pc := 86) hX 118 dX10_deal_86 (by decide) ?_ ?_
  · exact j_sub [0, 1, 2, 3, 4, 5] rfl (hc118 x1 x2 x3 x4 x5 M)
  · refine j_aload_n (pc := 89) hX 0 dX10_deal_89 rfl rfl ?_
    refine j_getR (pc := 90) (t := 15) hX (jb rfl) rfl (ci := 9) (C := RX10) (T := TX10) (N := 30) rfl (jb rfl) inX10 (j := 28) (jb rfl) rfl tw_948 dX10_deal_90 ?_
    refine j_iload (pc := 93) hX 7 dX10_deal_93 rfl ?_
    refine j_iload (pc := 95) hX 6 dX10_deal_95 rfl ?_
    refine j_aload_n (pc := 97) hX 0 dX10_deal_97 rfl rfl ?_
    refine j_getI (pc := 98) hX (jb rfl) rfl (ci := 9) (C := RX10) (T := TX10) (N := 30) rfl (jb rfl) inX10 (j := 7) (jb rfl) rfl tw_927 dX10_deal_98 ?_
    refine j_irem (pc := 101) hX dX10_deal_101 ?_
    refine j_iast (pc := 102) hX (jb rfl) rfl rfl dX10_deal_102 (fun M9 => ?_)
    refine j_iload (pc := 103) hX 6 dX10_deal_103 rfl ?_
    refine j_aload_n (pc := 105) hX 0 dX10_deal_105 rfl rfl ?_
    refine j_getI (pc := 106) hX (jb rfl) rfl (ci := 9) (C := RX10) (T := TX10) (N := 30) rfl (jb rfl) inX10 (j := 7) (jb rfl) rfl tw_927 dX10_deal_106 ?_
    refine j_idiv (pc := 109) hX dX10_deal_109 ?_
    refine j_istore (pc := 110) (lv' := [(6, .int (x6 / (M9 0 7))), (0, .ref (gad (gM E) 0)), (1, .int x1), (2, .int x2), (3, .int x3), (4, .int x4), (5, .int x5), (7, .int x7)]) hX dX10_deal_110 (jb rfl) rfl ?_
    refine j_iinc (pc := 112) (v := (x7 + (-1 : Int32))) (lv' := [(7, .int (x7 + (-1 : Int32))), (6, .int (x6 / (M9 0 7))), (0, .ref (gad (gM E) 0)), (1, .int x1), (2, .int x2), (3, .int x3), (4, .int x4), (5, .int x5)]) hX 7 dX10_deal_112 rfl (by rw [ci_m1]) (jb rfl) rfl ?_
    refine j_goto (pc := 115) hX 84 dX10_deal_115 (by decide) ?_
    exact j_sub [2, 3, 4, 5, 6, 7, 1, 0] rfl (hc84 x1 x2 x3 x4 x5 (x6 / (M9 0 7)) (x7 + (-1 : Int32)) M9)
def pX10_deal_84 (fu : Nat) (c118 : Int32 → Int32 → Int32 → Int32 → Int32 → Mem → Res) : Nat → Int32 → Int32 → Int32 → Int32 → Int32 → Int32 → Int32 → Mem → Res
  | 0, _, _, _, _, _, _, _, _ => none
  | n + 1, x1, x2, x3, x4, x5, x6, x7, M => pX10_deal_84b fu  x1 x2 x3 x4 x5 x6 x7 M (pX10_deal_84 fu  c118 n) c118
theorem wX10_deal_84 {E : jE} {X : jC} (hX : jOk X uX10_deal (gM E)) (fu : Nat)  (c118 : Int32 → Int32 → Int32 → Int32 → Int32 → Mem → Res) (hc118 : ∀ (x1 : Int32) (x2 : Int32) (x3 : Int32) (x4 : Int32) (x5 : Int32) (M : Mem), J X uX10_deal (gM E) 118 [(0, .ref (gad (gM E) 0)), (1, .int x1), (2, .int x2), (3, .int x3), (4, .int x4), (5, .int x5)] [] M (c118 x1 x2 x3 x4 x5 M)) : ∀ (n : Nat) (x1 : Int32) (x2 : Int32) (x3 : Int32) (x4 : Int32) (x5 : Int32) (x6 : Int32) (x7 : Int32) (M : Mem), J X uX10_deal (gM E) 84 [(0, .ref (gad (gM E) 0)), (1, .int x1), (2, .int x2), (3, .int x3), (4, .int x4), (5, .int x5), (6, .int x6), (7, .int x7)] [] M (pX10_deal_84 fu  c118 n x1 x2 x3 x4 x5 x6 x7 M) := by
  intro n
  induction n with
  | zero => intro x1 x2 x3 x4 x5 x6 x7 M; exact j_none
  | succ n ih => intro x1 x2 x3 x4 x5 x6 x7 M; exact wX10_deal_84b hX fu   x1 x2 x3 x4 x5 x6 x7 M (pX10_deal_84 fu  c118 n) c118 ih hc118
def pX10_deal_175 (fu : Nat) (x1 : Int32) (x2 : Int32) (x3 : Int32) (x4 : Int32) (x5 : Int32) (M : Mem) (c66 : Int32 → Int32 → Int32 → Int32 → Int32 → Mem → Res) : Res :=
  c66 x1 x2 x3 x4 (x5 + (1 : Int32)) M
set_option maxRecDepth 100000 in
theorem wX10_deal_175 {E : jE} {X : jC} (hX : jOk X uX10_deal (gM E)) (fu : Nat)  (x1 : Int32) (x2 : Int32) (x3 : Int32) (x4 : Int32) (x5 : Int32) (M : Mem) (c66 : Int32 → Int32 → Int32 → Int32 → Int32 → Mem → Res) (hc66 : ∀ (x1 : Int32) (x2 : Int32) (x3 : Int32) (x4 : Int32) (x5 : Int32) (M : Mem), J X uX10_deal (gM E) 66 [(0, .ref (gad (gM E) 0)), (1, .int x1), (2, .int x2), (3, .int x3), (4, .int x4), (5, .int x5)] [] M (c66 x1 x2 x3 x4 x5 M)) : J X uX10_deal (gM E) 175 [(0, .ref (gad (gM E) 0)), (1, .int x1), (2, .int x2), (3, .int x3), (4, .int x4), (5, .int x5)] [] M (pX10_deal_175 fu  x1 x2 x3 x4 x5 M c66) := by
  unfold pX10_deal_175
  refine j_iinc (pc := 175) (v := (x5 + (1 : Int32))) (lv' := [(5, .int (x5 + (1 : Int32))), (0, .ref (gad (gM E) 0)), (1, .int x1), (2, .int x2), (3, .int x3), (4, .int x4)]) hX 5 dX10_deal_175 rfl (by rw [ci_1]) (jb rfl) rfl ?_
  refine j_goto (pc := 178) hX 66 dX10_deal_178 (by decide) ?_
  exact j_sub [1, 2, 3, 4, 5, 0] rfl (hc66 x1 x2 x3 x4 (x5 + (1 : Int32)) M)
def pX10_deal_149b (fu : Nat) (x1 : Int32) (x2 : Int32) (x3 : Int32) (x4 : Int32) (x5 : Int32) (x8 : Int32) (M : Mem) (c149 : Int32 → Int32 → Int32 → Int32 → Int32 → Int32 → Mem → Res) (c175 : Int32 → Int32 → Int32 → Int32 → Int32 → Mem → Res) : Res :=
  if (4 : Int32) ≤ x8 then (
    c175 x1 x2 x3 x4 x5 M)
  else
  ld M 15 4 x8 fun v18 =>
  sto M 16 4 x8 v18 fun M19 =>
  c149 x1 x2 x3 x4 x5 (x8 + (1 : Int32)) M19
set_option maxRecDepth 100000 in
theorem wX10_deal_149b {E : jE} {X : jC} (hX : jOk X uX10_deal (gM E)) (fu : Nat)  (x1 : Int32) (x2 : Int32) (x3 : Int32) (x4 : Int32) (x5 : Int32) (x8 : Int32) (M : Mem) (c149 : Int32 → Int32 → Int32 → Int32 → Int32 → Int32 → Mem → Res) (c175 : Int32 → Int32 → Int32 → Int32 → Int32 → Mem → Res) (hc149 : ∀ (x1 : Int32) (x2 : Int32) (x3 : Int32) (x4 : Int32) (x5 : Int32) (x8 : Int32) (M : Mem), J X uX10_deal (gM E) 149 [(0, .ref (gad (gM E) 0)), (1, .int x1), (2, .int x2), (3, .int x3), (4, .int x4), (5, .int x5), (8, .int x8)] [] M (c149 x1 x2 x3 x4 x5 x8 M)) (hc175 : ∀ (x1 : Int32) (x2 : Int32) (x3 : Int32) (x4 : Int32) (x5 : Int32) (M : Mem), J X uX10_deal (gM E) 175 [(0, .ref (gad (gM E) 0)), (1, .int x1), (2, .int x2), (3, .int x3), (4, .int x4), (5, .int x5)] [] M (c175 x1 x2 x3 x4 x5 M)) : J X uX10_deal (gM E) 149 [(0, .ref (gad (gM E) 0)), (1, .int x1), (2, .int x2), (3, .int x3), (4, .int x4), (5, .int x5), (8, .int x8)] [] M (pX10_deal_149b fu  x1 x2 x3 x4 x5 x8 M c149 c175) := by
  unfold pX10_deal_149b
  refine j_iload (pc := 149) hX 6 dX10_deal_149 rfl ?_
  refine j_iconst (pc := 151) (v := (4 : Int32)) hX dX10_deal_151 ci_4 ?_
  refine j_icmp_ge (pc := 152) hX 175 dX10_deal_152 (by decide) ?_ ?_
  · exact j_sub [0, 1, 2, 3, 4, 5] rfl (hc175 x1 x2 x3 x4 x5 M)
  · refine j_aload_n (pc := 155) hX 0 dX10_deal_155 rfl rfl ?_
    refine j_getR (pc := 156) (t := 16) hX (jb rfl) rfl (ci := 9) (C := RX10) (T := TX10) (N := 30) rfl (jb rfl) inX10 (j := 29) (jb rfl) rfl tw_949 dX10_deal_156 ?_
    refine j_iload (pc := 159) hX 6 dX10_deal_159 rfl ?_
    refine j_aload_n (pc := 161) hX 0 dX10_deal_161 rfl rfl ?_
    refine j_getR (pc := 162) (t := 15) hX (jb rfl) rfl (ci := 9) (C := RX10) (T := TX10) (N := 30) rfl (jb rfl) inX10 (j := 28) (jb rfl) rfl tw_948 dX10_deal_162 ?_
    refine j_iload (pc := 165) hX 6 dX10_deal_165 rfl ?_
    refine j_iald (pc := 167) hX (jb rfl) rfl rfl dX10_deal_167 (fun v18 => ?_)
    refine j_iast (pc := 168) hX (jb rfl) rfl rfl dX10_deal_168 (fun M19 => ?_)
    refine j_iinc (pc := 169) (v := (x8 + (1 : Int32))) (lv' := [(8, .int (x8 + (1 : Int32))), (0, .ref (gad (gM E) 0)), (1, .int x1), (2, .int x2), (3, .int x3), (4, .int x4), (5, .int x5)]) hX 6 dX10_deal_169 rfl (by rw [ci_1]) (jb rfl) rfl ?_
    refine j_goto (pc := 172) hX 149 dX10_deal_172 (by decide) ?_
    exact j_sub [1, 2, 3, 4, 5, 6, 0] rfl (hc149 x1 x2 x3 x4 x5 (x8 + (1 : Int32)) M19)
def pX10_deal_149 (fu : Nat) (c175 : Int32 → Int32 → Int32 → Int32 → Int32 → Mem → Res) : Nat → Int32 → Int32 → Int32 → Int32 → Int32 → Int32 → Mem → Res
  | 0, _, _, _, _, _, _, _ => none
  | n + 1, x1, x2, x3, x4, x5, x8, M => pX10_deal_149b fu  x1 x2 x3 x4 x5 x8 M (pX10_deal_149 fu  c175 n) c175
theorem wX10_deal_149 {E : jE} {X : jC} (hX : jOk X uX10_deal (gM E)) (fu : Nat)  (c175 : Int32 → Int32 → Int32 → Int32 → Int32 → Mem → Res) (hc175 : ∀ (x1 : Int32) (x2 : Int32) (x3 : Int32) (x4 : Int32) (x5 : Int32) (M : Mem), J X uX10_deal (gM E) 175 [(0, .ref (gad (gM E) 0)), (1, .int x1), (2, .int x2), (3, .int x3), (4, .int x4), (5, .int x5)] [] M (c175 x1 x2 x3 x4 x5 M)) : ∀ (n : Nat) (x1 : Int32) (x2 : Int32) (x3 : Int32) (x4 : Int32) (x5 : Int32) (x8 : Int32) (M : Mem), J X uX10_deal (gM E) 149 [(0, .ref (gad (gM E) 0)), (1, .int x1), (2, .int x2), (3, .int x3), (4, .int x4), (5, .int x5), (8, .int x8)] [] M (pX10_deal_149 fu  c175 n x1 x2 x3 x4 x5 x8 M) := by
  intro n
  induction n with
  | zero => intro x1 x2 x3 x4 x5 x8 M; exact j_none
  | succ n ih => intro x1 x2 x3 x4 x5 x8 M; exact wX10_deal_149b hX fu   x1 x2 x3 x4 x5 x8 M (pX10_deal_149 fu  c175 n) c175 ih hc175
def pX10_deal_142 (fu : Nat) (x1 : Int32) (x2 : Int32) (x3 : Int32) (x5 : Int32) (x7 : Int32) (M : Mem) (c66 : Int32 → Int32 → Int32 → Int32 → Int32 → Mem → Res) : Res :=
  pX10_deal_149 fu
    (fun y20 y21 y22 y23 y24 M25 =>
      pX10_deal_175 fu  y20 y21 y22 y23 y24 M25 c66)
    fu x1 x2 x3 x7 x5 (0 : Int32) M
set_option maxRecDepth 100000 in
theorem wX10_deal_142 {E : jE} {X : jC} (hX : jOk X uX10_deal (gM E)) (fu : Nat)  (x1 : Int32) (x2 : Int32) (x3 : Int32) (x5 : Int32) (x7 : Int32) (M : Mem) (c66 : Int32 → Int32 → Int32 → Int32 → Int32 → Mem → Res) (hc66 : ∀ (x1 : Int32) (x2 : Int32) (x3 : Int32) (x4 : Int32) (x5 : Int32) (M : Mem), J X uX10_deal (gM E) 66 [(0, .ref (gad (gM E) 0)), (1, .int x1), (2, .int x2), (3, .int x3), (4, .int x4), (5, .int x5)] [] M (c66 x1 x2 x3 x4 x5 M)) : J X uX10_deal (gM E) 142 [(0, .ref (gad (gM E) 0)), (1, .int x1), (2, .int x2), (3, .int x3), (5, .int x5), (7, .int x7)] [] M (pX10_deal_142 fu  x1 x2 x3 x5 x7 M c66) := by
  unfold pX10_deal_142
  refine j_iload (pc := 142) hX 5 dX10_deal_142 rfl ?_
  refine j_istore (pc := 144) (lv' := [(4, .int x7), (0, .ref (gad (gM E) 0)), (1, .int x1), (2, .int x2), (3, .int x3), (5, .int x5), (7, .int x7)]) hX dX10_deal_144 (jb rfl) rfl ?_
  refine j_iconst (pc := 146) (v := (0 : Int32)) hX dX10_deal_146 ci_0 ?_
  refine j_istore (pc := 147) (lv' := [(8, .int (0 : Int32)), (4, .int x7), (0, .ref (gad (gM E) 0)), (1, .int x1), (2, .int x2), (3, .int x3), (5, .int x5), (7, .int x7)]) hX dX10_deal_147 (jb rfl) rfl ?_
  refine j_sub [2, 3, 4, 5, 1, 6, 0] rfl (wX10_deal_149 hX fu   _ ?_ fu x1 x2 x3 x7 x5 (0 : Int32) M)
  · intro y20 y21 y22 y23 y24 M25
    exact j_sub [0, 1, 2, 3, 4, 5] rfl (wX10_deal_175 hX fu   y20 y21 y22 y23 y24 M25 c66 hc66)
def pX10_deal_66b (fu : Nat) (x1 : Int32) (x2 : Int32) (x3 : Int32) (x4 : Int32) (x5 : Int32) (M : Mem) (c66 : Int32 → Int32 → Int32 → Int32 → Int32 → Mem → Res) (c181 : Int32 → Int32 → Mem → Res) : Res :=
  if x3 ≤ x5 then (
    c181 x2 x4 M)
  else
  pX10_deal_84 fu
    (fun y10 y11 y12 y13 y14 M15 =>
      bI (pX10_dealsSum fu y10 M15) fun r17 M16 =>
      if r17 < 0 then (
        pX10_deal_175 fu  y10 y11 y12 y13 y14 M16 c66)
      else
      if y13 < 0 then (
        pX10_deal_142 fu  y10 y11 y12 y14 r17 M16 c66)
      else
      if y13 ≤ r17 then (
        pX10_deal_175 fu  y10 y11 y12 y13 y14 M16 c66)
      else
      pX10_deal_142 fu  y10 y11 y12 y14 r17 M16 c66)
    fu x1 x2 x3 x4 x5 x5 ((M 0 4) - (1 : Int32)) M
set_option maxRecDepth 100000 in
theorem wX10_deal_66b {E : jE} {X : jC} (hX : jOk X uX10_deal (gM E)) (fu : Nat)  (x1 : Int32) (x2 : Int32) (x3 : Int32) (x4 : Int32) (x5 : Int32) (M : Mem) (c66 : Int32 → Int32 → Int32 → Int32 → Int32 → Mem → Res) (c181 : Int32 → Int32 → Mem → Res) (hc66 : ∀ (x1 : Int32) (x2 : Int32) (x3 : Int32) (x4 : Int32) (x5 : Int32) (M : Mem), J X uX10_deal (gM E) 66 [(0, .ref (gad (gM E) 0)), (1, .int x1), (2, .int x2), (3, .int x3), (4, .int x4), (5, .int x5)] [] M (c66 x1 x2 x3 x4 x5 M)) (hc181 : ∀ (x2 : Int32) (x4 : Int32) (M : Mem), J X uX10_deal (gM E) 181 [(0, .ref (gad (gM E) 0)), (2, .int x2), (4, .int x4)] [] M (c181 x2 x4 M)) : J X uX10_deal (gM E) 66 [(0, .ref (gad (gM E) 0)), (1, .int x1), (2, .int x2), (3, .int x3), (4, .int x4), (5, .int x5)] [] M (pX10_deal_66b fu  x1 x2 x3 x4 x5 M c66 c181) := by
  unfold pX10_deal_66b
  refine j_iload (pc := 66) hX 5 dX10_deal_66 rfl ?_
  refine j_iload_n (pc := 68) hX 3 dX10_deal_68 rfl rfl ?_
  refine j_icmp_ge (pc := 69) hX 181 dX10_deal_69 (by decide) ?_ ?_
  · exact j_sub [0, 2, 4] rfl (hc181 x2 x4 M)
  · refine j_iload (pc := 72) hX 5 dX10_deal_72 rfl ?_
    refine j_istore (pc := 74) (lv' := [(6, .int x5), (0, .ref (gad (gM E) 0)), (1, .int x1), (2, .int x2), (3, .int x3), (4, .int x4), (5, .int x5)]) hX dX10_deal_74 (jb rfl) rfl ?_
    refine j_aload_n (pc := 76) hX 1 dX10_deal_76 rfl rfl ?_
    refine j_getI (pc := 77) hX (jb rfl) rfl (ci := 9) (C := RX10) (T := TX10) (N := 30) rfl (jb rfl) inX10 (j := 4) (jb rfl) rfl tw_924 dX10_deal_77 ?_
    refine j_iconst (pc := 80) (v := (1 : Int32)) hX dX10_deal_80 ci_1 ?_
    refine j_isub (pc := 81) hX dX10_deal_81 ?_
    refine j_istore (pc := 82) (lv' := [(7, .int ((M 0 4) - (1 : Int32))), (6, .int x5), (0, .ref (gad (gM E) 0)), (1, .int x1), (2, .int x2), (3, .int x3), (4, .int x4), (5, .int x5)]) hX dX10_deal_82 (jb rfl) rfl ?_
    refine j_sub [2, 3, 4, 5, 6, 7, 1, 0] rfl (wX10_deal_84 hX fu   _ ?_ fu x1 x2 x3 x4 x5 x5 ((M 0 4) - (1 : Int32)) M)
    · intro y10 y11 y12 y13 y14 M15
      refine j_aload_n (pc := 118) hX 0 dX10_deal_118 rfl rfl ?_
      refine j_iload_n (pc := 119) hX 1 dX10_deal_119 rfl rfl ?_
      refine j_callV (pc := 120) hX [.int y10] (mX10_dealsSum _ E hX.2.2.2.2.2.2.2.2.1 fu   y10 M15) qX10_dealsSum tw_1221 (jb rfl) rfl (ci := 9) (T := TX10) (N := 30) rfl (jb rfl) rfl ⟨rfl, rfl⟩ ⟨(Nat.le_of_ble_eq_true rfl), (Nat.le_of_ble_eq_true rfl)⟩ (Nat.le_of_ble_eq_true rfl) dX10_deal_120 (fun _ => rfl) rfl (fun r17 M16 => ?_)
      refine j_istore (pc := 123) (lv' := [(7, .int r17), (0, .ref (gad (gM E) 0)), (1, .int y10), (2, .int y11), (3, .int y12), (4, .int y13), (5, .int y14)]) hX dX10_deal_123 (jb rfl) rfl ?_
      refine j_iload (pc := 125) hX 0 dX10_deal_125 rfl ?_
      refine j_if_lt (pc := 127) hX 175 dX10_deal_127 (by decide) ?_ ?_
      · exact j_sub [1, 2, 3, 4, 5, 6] rfl (wX10_deal_175 hX fu   y10 y11 y12 y13 y14 M16 c66 hc66)
      · refine j_iload (pc := 130) hX 5 dX10_deal_130 rfl ?_
        refine j_if_lt (pc := 132) hX 142 dX10_deal_132 (by decide) ?_ ?_
        · exact j_sub [1, 2, 3, 4, 6, 0] rfl (wX10_deal_142 hX fu   y10 y11 y12 y14 r17 M16 c66 hc66)
        · refine j_iload (pc := 135) hX 0 dX10_deal_135 rfl ?_
          refine j_iload (pc := 137) hX 5 dX10_deal_137 rfl ?_
          refine j_icmp_ge (pc := 139) hX 175 dX10_deal_139 (by decide) ?_ ?_
          · exact j_sub [1, 2, 3, 4, 5, 6] rfl (wX10_deal_175 hX fu   y10 y11 y12 y13 y14 M16 c66 hc66)
          · exact j_sub [1, 2, 3, 4, 6, 0] rfl (wX10_deal_142 hX fu   y10 y11 y12 y14 r17 M16 c66 hc66)
def pX10_deal_66 (fu : Nat) (c181 : Int32 → Int32 → Mem → Res) : Nat → Int32 → Int32 → Int32 → Int32 → Int32 → Mem → Res
  | 0, _, _, _, _, _, _ => none
  | n + 1, x1, x2, x3, x4, x5, M => pX10_deal_66b fu  x1 x2 x3 x4 x5 M (pX10_deal_66 fu  c181 n) c181
theorem wX10_deal_66 {E : jE} {X : jC} (hX : jOk X uX10_deal (gM E)) (fu : Nat)  (c181 : Int32 → Int32 → Mem → Res) (hc181 : ∀ (x2 : Int32) (x4 : Int32) (M : Mem), J X uX10_deal (gM E) 181 [(0, .ref (gad (gM E) 0)), (2, .int x2), (4, .int x4)] [] M (c181 x2 x4 M)) : ∀ (n : Nat) (x1 : Int32) (x2 : Int32) (x3 : Int32) (x4 : Int32) (x5 : Int32) (M : Mem), J X uX10_deal (gM E) 66 [(0, .ref (gad (gM E) 0)), (1, .int x1), (2, .int x2), (3, .int x3), (4, .int x4), (5, .int x5)] [] M (pX10_deal_66 fu  c181 n x1 x2 x3 x4 x5 M) := by
  intro n
  induction n with
  | zero => intro x1 x2 x3 x4 x5 M; exact j_none
  | succ n ih => intro x1 x2 x3 x4 x5 M; exact wX10_deal_66b hX fu   x1 x2 x3 x4 x5 M (pX10_deal_66 fu  c181 n) c181 ih hc181
def pX10_deal (fu : Nat) (x1 : Int32) (x2 : Int32) (M : Mem) : Res :=
  bI (pX10_in fu (x1).toInt64 (0 : Int64) (7 : Int64) M) fun r2 M1 =>
  if r2 = 0 then (
    some ((-1 : Int32), M1))
  else
  bI (pX10_in fu (x2).toInt64 (-1 : Int64) (((M1 0 4) - (1 : Int32))).toInt64 M1) fun r4 M3 =>
  if r4 = 0 then (
    some ((-1 : Int32), M3))
  else
  pX10_deal_37 fu
    (fun y5 y6 y7 M8 =>
      pX10_deal_66 fu
        (fun y26 y27 M28 =>
          if 0 ≤ y27 then (
            if 0 ≤ y26 then (
              ld M28 16 4 y26 fun v29 =>
              some (v29, M28))
            else
            some (y27, M28))
          else
          some ((-4 : Int32), M28))
        fu y5 y6 y7 (-4 : Int32) (0 : Int32) M8)
    fu x1 x2 (1 : Int32) (0 : Int32) M3
set_option maxRecDepth 100000 in
theorem wX10_deal {E : jE} {X : jC} (hX : jOk X uX10_deal (gM E)) (fu : Nat)  (x1 : Int32) (x2 : Int32) (M : Mem) : J X uX10_deal (gM E) 0 [(0, .ref (gad (gM E) 0)), (1, .int x1), (2, .int x2)] [] M (pX10_deal fu  x1 x2 M) := by
  unfold pX10_deal
  refine j_iload_n (pc := 0) hX 1 dX10_deal_0 rfl rfl ?_
  refine j_i2l (pc := 1) hX dX10_deal_1 ?_
  refine j_lconst (pc := 2) (v := (0 : Int64)) hX dX10_deal_2 rfl ?_
  refine j_ldc2 (pc := 3) (v := (7 : Int64)) hX tw_1099 dX10_deal_3 ?_
  refine j_callS (pc := 6) hX [.long (x1).toInt64, .long (0 : Int64), .long (7 : Int64)] (mX10_in _ E hX.2.2.2.2.2.2.2.2.1 fu   (x1).toInt64 (0 : Int64) (7 : Int64) M) qX10_in tw_1017 rfl ⟨rfl, rfl⟩ ⟨(Nat.le_of_ble_eq_true rfl), (Nat.le_of_ble_eq_true rfl)⟩ (Nat.le_of_ble_eq_true rfl) dX10_deal_6 (fun _ => rfl) rfl (fun r2 M1 => ?_)
  refine j_if_eq (pc := 9) hX 30 dX10_deal_9 (by decide) ?_ ?_
  · refine j_iconst (pc := 30) (v := (-1 : Int32)) hX dX10_deal_30 ci_m1 ?_
    exact j_iret (pc := 31) hX rfl dX10_deal_31
  · refine j_iload_n (pc := 12) hX 2 dX10_deal_12 rfl rfl ?_
    refine j_i2l (pc := 13) hX dX10_deal_13 ?_
    refine j_ldc2 (pc := 14) (v := (-1 : Int64)) hX tw_1220 dX10_deal_14 ?_
    refine j_aload_n (pc := 17) hX 0 dX10_deal_17 rfl rfl ?_
    refine j_getI (pc := 18) hX (jb rfl) rfl (ci := 9) (C := RX10) (T := TX10) (N := 30) rfl (jb rfl) inX10 (j := 4) (jb rfl) rfl tw_924 dX10_deal_18 ?_
    refine j_iconst (pc := 21) (v := (1 : Int32)) hX dX10_deal_21 ci_1 ?_
    refine j_isub (pc := 22) hX dX10_deal_22 ?_
    refine j_i2l (pc := 23) hX dX10_deal_23 ?_
    refine j_callS (pc := 24) hX [.long (x2).toInt64, .long (-1 : Int64), .long (((M1 0 4) - (1 : Int32))).toInt64] (mX10_in _ E hX.2.2.2.2.2.2.2.2.1 fu   (x2).toInt64 (-1 : Int64) (((M1 0 4) - (1 : Int32))).toInt64 M1) qX10_in tw_1017 rfl ⟨rfl, rfl⟩ ⟨(Nat.le_of_ble_eq_true rfl), (Nat.le_of_ble_eq_true rfl)⟩ (Nat.le_of_ble_eq_true rfl) dX10_deal_24 (fun _ => rfl) rfl (fun r4 M3 => ?_)
    refine j_if_ne (pc := 27) hX 32 dX10_deal_27 (by decide) ?_ ?_
    · refine j_iconst (pc := 32) (v := (1 : Int32)) hX dX10_deal_32 ci_1 ?_
      refine j_istore_n (pc := 33) (lv' := [(3, .int (1 : Int32)), (0, .ref (gad (gM E) 0)), (1, .int x1), (2, .int x2)]) hX dX10_deal_33 rfl (jb rfl) rfl ?_
      refine j_iconst (pc := 34) (v := (0 : Int32)) hX dX10_deal_34 ci_0 ?_
      refine j_istore (pc := 35) (lv' := [(4, .int (0 : Int32)), (3, .int (1 : Int32)), (0, .ref (gad (gM E) 0)), (1, .int x1), (2, .int x2)]) hX dX10_deal_35 (jb rfl) rfl ?_
      refine j_sub [2, 3, 4, 1, 0] rfl (wX10_deal_37 hX fu   _ ?_ fu x1 x2 (1 : Int32) (0 : Int32) M3)
      · intro y5 y6 y7 M8
        refine j_bipush (pc := 59) (v := (-4 : Int32)) hX dX10_deal_59 cb_m4 ?_
        refine j_istore (pc := 61) (lv' := [(4, .int (-4 : Int32)), (0, .ref (gad (gM E) 0)), (1, .int y5), (2, .int y6), (3, .int y7)]) hX dX10_deal_61 (jb rfl) rfl ?_
        refine j_iconst (pc := 63) (v := (0 : Int32)) hX dX10_deal_63 ci_0 ?_
        refine j_istore (pc := 64) (lv' := [(5, .int (0 : Int32)), (4, .int (-4 : Int32)), (0, .ref (gad (gM E) 0)), (1, .int y5), (2, .int y6), (3, .int y7)]) hX dX10_deal_64 (jb rfl) rfl ?_
        refine j_sub [2, 3, 4, 5, 1, 0] rfl (wX10_deal_66 hX fu   _ ?_ fu y5 y6 y7 (-4 : Int32) (0 : Int32) M8)
        · intro y26 y27 M28
          refine j_iload (pc := 181) hX 2 dX10_deal_181 rfl ?_
          refine j_if_ge (pc := 183) hX 191 dX10_deal_183 (by decide) ?_ ?_
          · refine j_iload_n (pc := 191) hX 1 dX10_deal_191 rfl rfl ?_
            refine j_if_ge (pc := 192) hX 200 dX10_deal_192 (by decide) ?_ ?_
            · refine j_aload_n (pc := 200) hX 0 dX10_deal_200 rfl rfl ?_
              refine j_getR (pc := 201) (t := 16) hX (jb rfl) rfl (ci := 9) (C := RX10) (T := TX10) (N := 30) rfl (jb rfl) inX10 (j := 29) (jb rfl) rfl tw_949 dX10_deal_201 ?_
              refine j_iload_n (pc := 204) hX 1 dX10_deal_204 rfl rfl ?_
              refine j_iald (pc := 205) hX (jb rfl) rfl rfl dX10_deal_205 (fun v29 => ?_)
              exact j_iret (pc := 206) hX rfl dX10_deal_206
            · refine j_iload (pc := 195) hX 2 dX10_deal_195 rfl ?_
              refine j_goto (pc := 197) hX 206 dX10_deal_197 (by decide) ?_
              exact j_iret (pc := 206) hX rfl dX10_deal_206
          · refine j_bipush (pc := 186) (v := (-4 : Int32)) hX dX10_deal_186 cb_m4 ?_
            refine j_goto (pc := 188) hX 206 dX10_deal_188 (by decide) ?_
            exact j_iret (pc := 206) hX rfl dX10_deal_206
    · refine j_iconst (pc := 30) (v := (-1 : Int32)) hX dX10_deal_30 ci_m1 ?_
      exact j_iret (pc := 31) hX rfl dX10_deal_31
theorem mX10_deal (l : Launch) (E : jE) (hI : jInj (gM E)) (fu : Nat)  (x1 : Int32) (x2 : Int32) (M : Mem) : jMet l (gM E) yX10_deal cX10_deal 9 (some .int) rX10_deal [.ref (gad (gM E) 0), .int x1, .int x2] M (pX10_deal fu  x1 x2 M) :=
  j_entry hI (by decide +kernel) (Nat.le_of_ble_eq_true rfl) rfl (fun X _ hX => wX10_deal hX fu   x1 x2 M)
theorem qX10_lure : jYv yX10_lure cX10_lure 7 (some .int) 1 := ⟨tw_1226, tw_1227, tw_72, tw_1228, ⟨by decide +kernel, by decide +kernel, by decide +kernel⟩⟩
abbrev rX10_lure : Room := { frames := 6, cells := 0, slots := 0, locals := 136 }
def uX10_lure : jM := (cX10_lure, 7, RX10, (some .int), rX10_lure)
def pX10_lure_141 (fu : Nat) (x1 : Int32) (x3 : Int32) (x4 : Int32) (s0 : Int32) (M : Mem) (c43 : Int32 → Int32 → Int32 → Int32 → Mem → Res) : Res :=
  c43 x1 s0 x3 (x4 + (1 : Int32)) M
set_option maxRecDepth 100000 in
theorem wX10_lure_141 {E : jE} {X : jC} (hX : jOk X uX10_lure (gM E)) (fu : Nat)  (x1 : Int32) (x3 : Int32) (x4 : Int32) (s0 : Int32) (M : Mem) (c43 : Int32 → Int32 → Int32 → Int32 → Mem → Res) (hc43 : ∀ (x1 : Int32) (x2 : Int32) (x3 : Int32) (x4 : Int32) (M : Mem), J X uX10_lure (gM E) 43 [(0, .ref (gad (gM E) 0)), (1, .int x1), (2, .int x2), (3, .int x3), (4, .int x4)] [] M (c43 x1 x2 x3 x4 M)) : J X uX10_lure (gM E) 141 [(0, .ref (gad (gM E) 0)), (1, .int x1), (3, .int x3), (4, .int x4)] [.int s0] M (pX10_lure_141 fu  x1 x3 x4 s0 M c43) := by
  unfold pX10_lure_141
  refine j_istore_n (pc := 141) (lv' := [(2, .int s0), (0, .ref (gad (gM E) 0)), (1, .int x1), (3, .int x3), (4, .int x4)]) hX dX10_lure_141 rfl (jb rfl) rfl ?_
  refine j_iinc (pc := 142) (v := (x4 + (1 : Int32))) (lv' := [(4, .int (x4 + (1 : Int32))), (2, .int s0), (0, .ref (gad (gM E) 0)), (1, .int x1), (3, .int x3)]) hX 4 dX10_lure_142 rfl (by rw [ci_1]) (jb rfl) rfl ?_
  refine j_goto (pc := 145) hX 43 dX10_lure_145 (by decide) ?_
  exact j_sub [2, 3, 1, 4, 0] rfl (hc43 x1 s0 x3 (x4 + (1 : Int32)) M)
def pX10_lure_129 (fu : Nat) (x1 : Int32) (x2 : Int32) (x4 : Int32) (x5 : Int32) (x6 : Int32) (s0 : Int32) (M : Mem) (c43 : Int32 → Int32 → Int32 → Int32 → Mem → Res) : Res :=
  if x6 = 0 then (
    pX10_lure_141 fu  x1 s0 x4 x2 M c43)
  else
  pX10_lure_141 fu  x1 s0 x4 x5 M c43
set_option maxRecDepth 100000 in
theorem wX10_lure_129 {E : jE} {X : jC} (hX : jOk X uX10_lure (gM E)) (fu : Nat)  (x1 : Int32) (x2 : Int32) (x4 : Int32) (x5 : Int32) (x6 : Int32) (s0 : Int32) (M : Mem) (c43 : Int32 → Int32 → Int32 → Int32 → Mem → Res) (hc43 : ∀ (x1 : Int32) (x2 : Int32) (x3 : Int32) (x4 : Int32) (M : Mem), J X uX10_lure (gM E) 43 [(0, .ref (gad (gM E) 0)), (1, .int x1), (2, .int x2), (3, .int x3), (4, .int x4)] [] M (c43 x1 x2 x3 x4 M)) : J X uX10_lure (gM E) 129 [(0, .ref (gad (gM E) 0)), (1, .int x1), (2, .int x2), (4, .int x4), (5, .int x5), (6, .int x6)] [.int s0] M (pX10_lure_129 fu  x1 x2 x4 x5 x6 s0 M c43) := by
  unfold pX10_lure_129
  refine j_istore_n (pc := 129) (lv' := [(3, .int s0), (0, .ref (gad (gM E) 0)), (1, .int x1), (2, .int x2), (4, .int x4), (5, .int x5), (6, .int x6)]) hX dX10_lure_129 rfl (jb rfl) rfl ?_
  refine j_iload (pc := 130) hX 6 dX10_lure_130 rfl ?_
  refine j_if_eq (pc := 132) hX 140 dX10_lure_132 (by decide) ?_ ?_
  · refine j_iload_n (pc := 140) hX 3 dX10_lure_140 rfl rfl ?_
    exact j_sub [1, 2, 0, 4] rfl (wX10_lure_141 hX fu   x1 s0 x4 x2 M c43 hc43)
  · refine j_iload (pc := 135) hX 5 dX10_lure_135 rfl ?_
    refine j_goto (pc := 137) hX 141 dX10_lure_137 (by decide) ?_
    exact j_sub [1, 2, 0, 4] rfl (wX10_lure_141 hX fu   x1 s0 x4 x5 M c43 hc43)
def pX10_lure_116 (fu : Nat) (x1 : Int32) (x2 : Int32) (x3 : Int32) (x4 : Int32) (x5 : Int32) (s0 : Int32) (M : Mem) (c43 : Int32 → Int32 → Int32 → Int32 → Mem → Res) : Res :=
  if s0 = 0 then (
    pX10_lure_129 fu  x1 x2 x4 x5 s0 x3 M c43)
  else
  pX10_lure_129 fu  x1 x2 x4 x5 s0 x4 M c43
set_option maxRecDepth 100000 in
theorem wX10_lure_116 {E : jE} {X : jC} (hX : jOk X uX10_lure (gM E)) (fu : Nat)  (x1 : Int32) (x2 : Int32) (x3 : Int32) (x4 : Int32) (x5 : Int32) (s0 : Int32) (M : Mem) (c43 : Int32 → Int32 → Int32 → Int32 → Mem → Res) (hc43 : ∀ (x1 : Int32) (x2 : Int32) (x3 : Int32) (x4 : Int32) (M : Mem), J X uX10_lure (gM E) 43 [(0, .ref (gad (gM E) 0)), (1, .int x1), (2, .int x2), (3, .int x3), (4, .int x4)] [] M (c43 x1 x2 x3 x4 M)) : J X uX10_lure (gM E) 116 [(0, .ref (gad (gM E) 0)), (1, .int x1), (2, .int x2), (3, .int x3), (4, .int x4), (5, .int x5)] [.int s0] M (pX10_lure_116 fu  x1 x2 x3 x4 x5 s0 M c43) := by
  unfold pX10_lure_116
  refine j_istore (pc := 116) (lv' := [(6, .int s0), (0, .ref (gad (gM E) 0)), (1, .int x1), (2, .int x2), (3, .int x3), (4, .int x4), (5, .int x5)]) hX dX10_lure_116 (jb rfl) rfl ?_
  refine j_iload (pc := 118) hX 0 dX10_lure_118 rfl ?_
  refine j_if_eq (pc := 120) hX 128 dX10_lure_120 (by decide) ?_ ?_
  · refine j_iload_n (pc := 128) hX 4 dX10_lure_128 rfl rfl ?_
    exact j_sub [1, 2, 3, 5, 6, 0] rfl (wX10_lure_129 hX fu   x1 x2 x4 x5 s0 x3 M c43 hc43)
  · refine j_iload (pc := 123) hX 5 dX10_lure_123 rfl ?_
    refine j_goto (pc := 125) hX 129 dX10_lure_125 (by decide) ?_
    exact j_sub [1, 2, 3, 5, 6, 0] rfl (wX10_lure_129 hX fu   x1 x2 x4 x5 s0 x4 M c43 hc43)
def pX10_lure_115 (fu : Nat) (x1 : Int32) (x2 : Int32) (x3 : Int32) (x4 : Int32) (x5 : Int32) (M : Mem) (c43 : Int32 → Int32 → Int32 → Int32 → Mem → Res) : Res :=
  pX10_lure_116 fu  x1 x2 x3 x4 x5 (0 : Int32) M c43
set_option maxRecDepth 100000 in
theorem wX10_lure_115 {E : jE} {X : jC} (hX : jOk X uX10_lure (gM E)) (fu : Nat)  (x1 : Int32) (x2 : Int32) (x3 : Int32) (x4 : Int32) (x5 : Int32) (M : Mem) (c43 : Int32 → Int32 → Int32 → Int32 → Mem → Res) (hc43 : ∀ (x1 : Int32) (x2 : Int32) (x3 : Int32) (x4 : Int32) (M : Mem), J X uX10_lure (gM E) 43 [(0, .ref (gad (gM E) 0)), (1, .int x1), (2, .int x2), (3, .int x3), (4, .int x4)] [] M (c43 x1 x2 x3 x4 M)) : J X uX10_lure (gM E) 115 [(0, .ref (gad (gM E) 0)), (1, .int x1), (2, .int x2), (3, .int x3), (4, .int x4), (5, .int x5)] [] M (pX10_lure_115 fu  x1 x2 x3 x4 x5 M c43) := by
  unfold pX10_lure_115
  refine j_iconst (pc := 115) (v := (0 : Int32)) hX dX10_lure_115 ci_0 ?_
  exact j_sub [0, 1, 2, 3, 4, 5] rfl (wX10_lure_116 hX fu   x1 x2 x3 x4 x5 (0 : Int32) M c43 hc43)
def pX10_lure_43b (fu : Nat) (x1 : Int32) (x2 : Int32) (x3 : Int32) (x4 : Int32) (M : Mem) (c43 : Int32 → Int32 → Int32 → Int32 → Mem → Res) : Res :=
  if (M 0 0) ≤ x4 then (
    some (x3, M))
  else
  if x2 < 0 then (
    some (x3, M))
  else
  bV (pX10_copies fu (0 : Int32) (704 : Int32) M) fun M7 =>
  ld M7 12 768 ((759 : Int32) + x4) fun v8 =>
  bI (pX10_smaller fu (9 : Int32) (v8 + (1 : Int32)) M7) fun r10 M9 =>
  sto M9 12 768 ((759 : Int32) + x4) r10 fun M11 =>
  bI (pX10_readThen fu x1 M11) fun r13 M12 =>
  if r13 < 0 then (
    pX10_lure_115 fu  x1 x2 x3 x4 r13 M12 c43)
  else
  if x2 ≤ r13 then (
    pX10_lure_115 fu  x1 x2 x3 x4 r13 M12 c43)
  else
  pX10_lure_116 fu  x1 x2 x3 x4 r13 (1 : Int32) M12 c43
set_option maxRecDepth 100000 in
theorem wX10_lure_43b {E : jE} {X : jC} (hX : jOk X uX10_lure (gM E)) (fu : Nat)  (x1 : Int32) (x2 : Int32) (x3 : Int32) (x4 : Int32) (M : Mem) (c43 : Int32 → Int32 → Int32 → Int32 → Mem → Res) (hc43 : ∀ (x1 : Int32) (x2 : Int32) (x3 : Int32) (x4 : Int32) (M : Mem), J X uX10_lure (gM E) 43 [(0, .ref (gad (gM E) 0)), (1, .int x1), (2, .int x2), (3, .int x3), (4, .int x4)] [] M (c43 x1 x2 x3 x4 M)) : J X uX10_lure (gM E) 43 [(0, .ref (gad (gM E) 0)), (1, .int x1), (2, .int x2), (3, .int x3), (4, .int x4)] [] M (pX10_lure_43b fu  x1 x2 x3 x4 M c43) := by
  unfold pX10_lure_43b
  refine j_iload (pc := 43) hX 4 dX10_lure_43 rfl ?_
  refine j_aload_n (pc := 45) hX 0 dX10_lure_45 rfl rfl ?_
  refine j_getI (pc := 46) hX (jb rfl) rfl (ci := 9) (C := RX10) (T := TX10) (N := 30) rfl (jb rfl) inX10 (j := 0) (jb rfl) rfl tw_920 dX10_lure_46 ?_
  refine j_icmp_ge (pc := 49) hX 148 dX10_lure_49 (by decide) ?_ ?_
  · refine j_iload_n (pc := 148) hX 3 dX10_lure_148 rfl rfl ?_
    exact j_iret (pc := 149) hX rfl dX10_lure_149
  · refine j_iload_n (pc := 52) hX 2 dX10_lure_52 rfl rfl ?_
    refine j_if_lt (pc := 53) hX 148 dX10_lure_53 (by decide) ?_ ?_
    · refine j_iload_n (pc := 148) hX 3 dX10_lure_148 rfl rfl ?_
      exact j_iret (pc := 149) hX rfl dX10_lure_149
    · refine j_aload_n (pc := 56) hX 0 dX10_lure_56 rfl rfl ?_
      refine j_iconst (pc := 57) (v := (0 : Int32)) hX dX10_lure_57 ci_0 ?_
      refine j_sipush (pc := 58) (v := (704 : Int32)) hX dX10_lure_58 cs_704 ?_
      refine j_callVv (pc := 61) hX [.int (0 : Int32), .int (704 : Int32)] (mX10_copies _ E hX.2.2.2.2.2.2.2.2.1 fu   (0 : Int32) (704 : Int32) M) qX10_copies tw_916 (jb rfl) rfl (ci := 9) (T := TX10) (N := 30) rfl (jb rfl) rfl ⟨rfl, rfl⟩ ⟨(Nat.le_of_ble_eq_true rfl), (Nat.le_of_ble_eq_true rfl)⟩ (Nat.le_of_ble_eq_true rfl) dX10_lure_61 rfl (fun M7 => ?_)
      refine j_aload_n (pc := 64) hX 0 dX10_lure_64 rfl rfl ?_
      refine j_getR (pc := 65) (t := 12) hX (jb rfl) rfl (ci := 9) (C := RX10) (T := TX10) (N := 30) rfl (jb rfl) inX10 (j := 19) (jb rfl) rfl tw_939 dX10_lure_65 ?_
      refine j_sipush (pc := 68) (v := (759 : Int32)) hX dX10_lure_68 cs_759 ?_
      refine j_iload (pc := 71) hX 4 dX10_lure_71 rfl ?_
      refine j_iadd (pc := 73) hX dX10_lure_73 ?_
      refine j_bipush (pc := 74) (v := (9 : Int32)) hX dX10_lure_74 cb_9 ?_
      refine j_aload_n (pc := 76) hX 0 dX10_lure_76 rfl rfl ?_
      refine j_getR (pc := 77) (t := 12) hX (jb rfl) rfl (ci := 9) (C := RX10) (T := TX10) (N := 30) rfl (jb rfl) inX10 (j := 19) (jb rfl) rfl tw_939 dX10_lure_77 ?_
      refine j_sipush (pc := 80) (v := (759 : Int32)) hX dX10_lure_80 cs_759 ?_
      refine j_iload (pc := 83) hX 4 dX10_lure_83 rfl ?_
      refine j_iadd (pc := 85) hX dX10_lure_85 ?_
      refine j_iald (pc := 86) hX (jb rfl) rfl rfl dX10_lure_86 (fun v8 => ?_)
      refine j_iconst (pc := 87) (v := (1 : Int32)) hX dX10_lure_87 ci_1 ?_
      refine j_iadd (pc := 88) hX dX10_lure_88 ?_
      refine j_callS (pc := 89) hX [.int (9 : Int32), .int (v8 + (1 : Int32))] (mX10_smaller _ E hX.2.2.2.2.2.2.2.2.1 fu   (9 : Int32) (v8 + (1 : Int32)) M7) qX10_smaller tw_913 rfl ⟨rfl, rfl⟩ ⟨(Nat.le_of_ble_eq_true rfl), (Nat.le_of_ble_eq_true rfl)⟩ (Nat.le_of_ble_eq_true rfl) dX10_lure_89 (fun _ => rfl) rfl (fun r10 M9 => ?_)
      refine j_iast (pc := 92) hX (jb rfl) rfl rfl dX10_lure_92 (fun M11 => ?_)
      refine j_aload_n (pc := 93) hX 0 dX10_lure_93 rfl rfl ?_
      refine j_iload_n (pc := 94) hX 1 dX10_lure_94 rfl rfl ?_
      refine j_callV (pc := 95) hX [.int x1] (mX10_readThen _ E hX.2.2.2.2.2.2.2.2.1 fu   x1 M11) qX10_readThen tw_1196 (jb rfl) rfl (ci := 9) (T := TX10) (N := 30) rfl (jb rfl) rfl ⟨rfl, rfl⟩ ⟨(Nat.le_of_ble_eq_true rfl), (Nat.le_of_ble_eq_true rfl)⟩ (Nat.le_of_ble_eq_true rfl) dX10_lure_95 (fun _ => rfl) rfl (fun r13 M12 => ?_)
      refine j_istore (pc := 98) (lv' := [(5, .int r13), (0, .ref (gad (gM E) 0)), (1, .int x1), (2, .int x2), (3, .int x3), (4, .int x4)]) hX dX10_lure_98 (jb rfl) rfl ?_
      refine j_iload (pc := 100) hX 0 dX10_lure_100 rfl ?_
      refine j_if_lt (pc := 102) hX 115 dX10_lure_102 (by decide) ?_ ?_
      · exact j_sub [1, 2, 3, 4, 5, 0] rfl (wX10_lure_115 hX fu   x1 x2 x3 x4 r13 M12 c43 hc43)
      · refine j_iload (pc := 105) hX 0 dX10_lure_105 rfl ?_
        refine j_iload_n (pc := 107) hX 3 dX10_lure_107 rfl rfl ?_
        refine j_icmp_ge (pc := 108) hX 115 dX10_lure_108 (by decide) ?_ ?_
        · exact j_sub [1, 2, 3, 4, 5, 0] rfl (wX10_lure_115 hX fu   x1 x2 x3 x4 r13 M12 c43 hc43)
        · refine j_iconst (pc := 111) (v := (1 : Int32)) hX dX10_lure_111 ci_1 ?_
          refine j_goto (pc := 112) hX 116 dX10_lure_112 (by decide) ?_
          exact j_sub [1, 2, 3, 4, 5, 0] rfl (wX10_lure_116 hX fu   x1 x2 x3 x4 r13 (1 : Int32) M12 c43 hc43)
def pX10_lure_43 (fu : Nat)  : Nat → Int32 → Int32 → Int32 → Int32 → Mem → Res
  | 0, _, _, _, _, _ => none
  | n + 1, x1, x2, x3, x4, M => pX10_lure_43b fu  x1 x2 x3 x4 M (pX10_lure_43 fu   n)
theorem wX10_lure_43 {E : jE} {X : jC} (hX : jOk X uX10_lure (gM E)) (fu : Nat)    : ∀ (n : Nat) (x1 : Int32) (x2 : Int32) (x3 : Int32) (x4 : Int32) (M : Mem), J X uX10_lure (gM E) 43 [(0, .ref (gad (gM E) 0)), (1, .int x1), (2, .int x2), (3, .int x3), (4, .int x4)] [] M (pX10_lure_43 fu   n x1 x2 x3 x4 M) := by
  intro n
  induction n with
  | zero => intro x1 x2 x3 x4 M; exact j_none
  | succ n ih => intro x1 x2 x3 x4 M; exact wX10_lure_43b hX fu   x1 x2 x3 x4 M (pX10_lure_43 fu   n) ih
def pX10_lure (fu : Nat) (x1 : Int32) (M : Mem) : Res :=
  bI (pX10_isBeast fu x1 M) fun r2 M1 =>
  if r2 = 0 then (
    some ((-1 : Int32), M1))
  else
  ld M1 12 768 x1 fun v3 =>
  if v3 = (1 : Int32) then (
    bV (pX10_copies fu (0 : Int32) (704 : Int32) M1) fun M4 =>
    bI (pX10_readThen fu x1 M4) fun r6 M5 =>
    pX10_lure_43 fu
      fu x1 r6 (-4 : Int32) (0 : Int32) M5)
  else
  some ((-2 : Int32), M1)
set_option maxRecDepth 100000 in
theorem wX10_lure {E : jE} {X : jC} (hX : jOk X uX10_lure (gM E)) (fu : Nat)  (x1 : Int32) (M : Mem) : J X uX10_lure (gM E) 0 [(0, .ref (gad (gM E) 0)), (1, .int x1)] [] M (pX10_lure fu  x1 M) := by
  unfold pX10_lure
  refine j_aload_n (pc := 0) hX 0 dX10_lure_0 rfl rfl ?_
  refine j_iload_n (pc := 1) hX 1 dX10_lure_1 rfl rfl ?_
  refine j_callV (pc := 2) hX [.int x1] (mX10_isBeast _ E hX.2.2.2.2.2.2.2.2.1 fu   x1 M) qX10_isBeast tw_1095 (jb rfl) rfl (ci := 9) (T := TX10) (N := 30) rfl (jb rfl) rfl ⟨rfl, rfl⟩ ⟨(Nat.le_of_ble_eq_true rfl), (Nat.le_of_ble_eq_true rfl)⟩ (Nat.le_of_ble_eq_true rfl) dX10_lure_2 (fun _ => rfl) rfl (fun r2 M1 => ?_)
  refine j_if_ne (pc := 5) hX 10 dX10_lure_5 (by decide) ?_ ?_
  · refine j_aload_n (pc := 10) hX 0 dX10_lure_10 rfl rfl ?_
    refine j_getR (pc := 11) (t := 12) hX (jb rfl) rfl (ci := 9) (C := RX10) (T := TX10) (N := 30) rfl (jb rfl) inX10 (j := 19) (jb rfl) rfl tw_939 dX10_lure_11 ?_
    refine j_iload_n (pc := 14) hX 1 dX10_lure_14 rfl rfl ?_
    refine j_iald (pc := 15) hX (jb rfl) rfl rfl dX10_lure_15 (fun v3 => ?_)
    refine j_iconst (pc := 16) (v := (1 : Int32)) hX dX10_lure_16 ci_1 ?_
    refine j_icmp_eq (pc := 17) hX 23 dX10_lure_17 (by decide) ?_ ?_
    · refine j_aload_n (pc := 23) hX 0 dX10_lure_23 rfl rfl ?_
      refine j_iconst (pc := 24) (v := (0 : Int32)) hX dX10_lure_24 ci_0 ?_
      refine j_sipush (pc := 25) (v := (704 : Int32)) hX dX10_lure_25 cs_704 ?_
      refine j_callVv (pc := 28) hX [.int (0 : Int32), .int (704 : Int32)] (mX10_copies _ E hX.2.2.2.2.2.2.2.2.1 fu   (0 : Int32) (704 : Int32) M1) qX10_copies tw_916 (jb rfl) rfl (ci := 9) (T := TX10) (N := 30) rfl (jb rfl) rfl ⟨rfl, rfl⟩ ⟨(Nat.le_of_ble_eq_true rfl), (Nat.le_of_ble_eq_true rfl)⟩ (Nat.le_of_ble_eq_true rfl) dX10_lure_28 rfl (fun M4 => ?_)
      refine j_aload_n (pc := 31) hX 0 dX10_lure_31 rfl rfl ?_
      refine j_iload_n (pc := 32) hX 1 dX10_lure_32 rfl rfl ?_
      refine j_callV (pc := 33) hX [.int x1] (mX10_readThen _ E hX.2.2.2.2.2.2.2.2.1 fu   x1 M4) qX10_readThen tw_1196 (jb rfl) rfl (ci := 9) (T := TX10) (N := 30) rfl (jb rfl) rfl ⟨rfl, rfl⟩ ⟨(Nat.le_of_ble_eq_true rfl), (Nat.le_of_ble_eq_true rfl)⟩ (Nat.le_of_ble_eq_true rfl) dX10_lure_33 (fun _ => rfl) rfl (fun r6 M5 => ?_)
      refine j_istore_n (pc := 36) (lv' := [(2, .int r6), (0, .ref (gad (gM E) 0)), (1, .int x1)]) hX dX10_lure_36 rfl (jb rfl) rfl ?_
      refine j_bipush (pc := 37) (v := (-4 : Int32)) hX dX10_lure_37 cb_m4 ?_
      refine j_istore_n (pc := 39) (lv' := [(3, .int (-4 : Int32)), (2, .int r6), (0, .ref (gad (gM E) 0)), (1, .int x1)]) hX dX10_lure_39 rfl (jb rfl) rfl ?_
      refine j_iconst (pc := 40) (v := (0 : Int32)) hX dX10_lure_40 ci_0 ?_
      refine j_istore (pc := 41) (lv' := [(4, .int (0 : Int32)), (3, .int (-4 : Int32)), (2, .int r6), (0, .ref (gad (gM E) 0)), (1, .int x1)]) hX dX10_lure_41 (jb rfl) rfl ?_
      refine j_sub [3, 4, 2, 1, 0] rfl (wX10_lure_43 hX fu     fu x1 r6 (-4 : Int32) (0 : Int32) M5)
    · refine j_bipush (pc := 20) (v := (-2 : Int32)) hX dX10_lure_20 cb_m2 ?_
      exact j_iret (pc := 22) hX rfl dX10_lure_22
  · refine j_iconst (pc := 8) (v := (-1 : Int32)) hX dX10_lure_8 ci_m1 ?_
    exact j_iret (pc := 9) hX rfl dX10_lure_9
theorem mX10_lure (l : Launch) (E : jE) (hI : jInj (gM E)) (fu : Nat)  (x1 : Int32) (M : Mem) : jMet l (gM E) yX10_lure cX10_lure 7 (some .int) rX10_lure [.ref (gad (gM E) 0), .int x1] M (pX10_lure fu  x1 M) :=
  j_entry hI (by decide +kernel) (Nat.le_of_ble_eq_true rfl) rfl (fun X _ hX => wX10_lure hX fu   x1 M)
theorem qX10_next : jYv yX10_next cX10_next 6 (some .int) 2 := ⟨tw_1230, tw_1231, tw_72, tw_1232, ⟨by decide +kernel, by decide +kernel, by decide +kernel⟩⟩
abbrev rX10_next : Room := { frames := 2, cells := 0, slots := 0, locals := 46 }
def uX10_next : jM := (cX10_next, 6, RX10, (some .int), rX10_next)
def pX10_next_91b (fu : Nat) (x3 : Int32) (x4 : Int32) (x5 : Int32) (M : Mem) (c91 : Int32 → Int32 → Int32 → Mem → Res) : Res :=
  if x3 = x4 then (
    some ((-4 : Int32), M))
  else
  bI (pX10_nextOn fu x3 x4 M) fun r9 M8 =>
  if x5 = 0 then (
    some (r9, M8))
  else
  c91 r9 x4 (x5 + (-1 : Int32)) M8
set_option maxRecDepth 100000 in
theorem wX10_next_91b {E : jE} {X : jC} (hX : jOk X uX10_next (gM E)) (fu : Nat)  (x3 : Int32) (x4 : Int32) (x5 : Int32) (M : Mem) (c91 : Int32 → Int32 → Int32 → Mem → Res) (hc91 : ∀ (x3 : Int32) (x4 : Int32) (x5 : Int32) (M : Mem), J X uX10_next (gM E) 91 [(0, .ref (gad (gM E) 0)), (3, .int x3), (4, .int x4), (5, .int x5)] [] M (c91 x3 x4 x5 M)) : J X uX10_next (gM E) 91 [(0, .ref (gad (gM E) 0)), (3, .int x3), (4, .int x4), (5, .int x5)] [] M (pX10_next_91b fu  x3 x4 x5 M c91) := by
  unfold pX10_next_91b
  refine j_iload_n (pc := 91) hX 1 dX10_next_91 rfl rfl ?_
  refine j_iload (pc := 92) hX 2 dX10_next_92 rfl ?_
  refine j_icmp_eq (pc := 94) hX 118 dX10_next_94 (by decide) ?_ ?_
  · refine j_bipush (pc := 118) (v := (-4 : Int32)) hX dX10_next_118 cb_m4 ?_
    exact j_iret (pc := 120) hX rfl dX10_next_120
  · refine j_aload_n (pc := 97) hX 0 dX10_next_97 rfl rfl ?_
    refine j_iload_n (pc := 98) hX 1 dX10_next_98 rfl rfl ?_
    refine j_iload (pc := 99) hX 2 dX10_next_99 rfl ?_
    refine j_callV (pc := 101) hX [.int x3, .int x4] (mX10_nextOn _ E hX.2.2.2.2.2.2.2.2.1 fu   x3 x4 M) qX10_nextOn tw_1152 (jb rfl) rfl (ci := 9) (T := TX10) (N := 30) rfl (jb rfl) rfl ⟨rfl, rfl⟩ ⟨(Nat.le_of_ble_eq_true rfl), (Nat.le_of_ble_eq_true rfl)⟩ (Nat.le_of_ble_eq_true rfl) dX10_next_101 (fun _ => rfl) rfl (fun r9 M8 => ?_)
    refine j_istore_n (pc := 104) (lv' := [(3, .int r9), (0, .ref (gad (gM E) 0)), (4, .int x4), (5, .int x5)]) hX dX10_next_104 rfl (jb rfl) rfl ?_
    refine j_iload (pc := 105) hX 3 dX10_next_105 rfl ?_
    refine j_if_ne (pc := 107) hX 112 dX10_next_107 (by decide) ?_ ?_
    · refine j_iinc (pc := 112) (v := (x5 + (-1 : Int32))) (lv' := [(5, .int (x5 + (-1 : Int32))), (3, .int r9), (0, .ref (gad (gM E) 0)), (4, .int x4)]) hX 3 dX10_next_112 rfl (by rw [ci_m1]) (jb rfl) rfl ?_
      refine j_goto (pc := 115) hX 91 dX10_next_115 (by decide) ?_
      exact j_sub [2, 1, 3, 0] rfl (hc91 r9 x4 (x5 + (-1 : Int32)) M8)
    · refine j_iload_n (pc := 110) hX 0 dX10_next_110 rfl rfl ?_
      exact j_iret (pc := 111) hX rfl dX10_next_111
def pX10_next_91 (fu : Nat)  : Nat → Int32 → Int32 → Int32 → Mem → Res
  | 0, _, _, _, _ => none
  | n + 1, x3, x4, x5, M => pX10_next_91b fu  x3 x4 x5 M (pX10_next_91 fu   n)
theorem wX10_next_91 {E : jE} {X : jC} (hX : jOk X uX10_next (gM E)) (fu : Nat)    : ∀ (n : Nat) (x3 : Int32) (x4 : Int32) (x5 : Int32) (M : Mem), J X uX10_next (gM E) 91 [(0, .ref (gad (gM E) 0)), (3, .int x3), (4, .int x4), (5, .int x5)] [] M (pX10_next_91 fu   n x3 x4 x5 M) := by
  intro n
  induction n with
  | zero => intro x3 x4 x5 M; exact j_none
  | succ n ih => intro x3 x4 x5 M; exact wX10_next_91b hX fu   x3 x4 x5 M (pX10_next_91 fu   n) ih
def pX10_next_37 (fu : Nat) (x1 : Int32) (x2 : Int32) (M : Mem)  : Res :=
  ld M 12 768 ((5 : Int32) + x1) fun v4 =>
  bI (pX10_goal fu (0 : Int32) x1 M) fun r6 M5 =>
  ld M5 12 768 ((10 : Int32) + x1) fun v7 =>
  if v7 = (-4 : Int32) then (
    pX10_next_91 fu
      fu v4 r6 x2 M5)
  else
  ld M5 12 768 ((10 : Int32) + x1) fun v10 =>
  if x2 = 0 then (
    some (v10, M5))
  else
  pX10_next_91 fu
    fu v10 r6 (x2 + (-1 : Int32)) M5
set_option maxRecDepth 100000 in
theorem wX10_next_37 {E : jE} {X : jC} (hX : jOk X uX10_next (gM E)) (fu : Nat)  (x1 : Int32) (x2 : Int32) (M : Mem)   : J X uX10_next (gM E) 37 [(0, .ref (gad (gM E) 0)), (1, .int x1), (2, .int x2)] [] M (pX10_next_37 fu  x1 x2 M ) := by
  unfold pX10_next_37
  refine j_aload_n (pc := 37) hX 0 dX10_next_37 rfl rfl ?_
  refine j_getR (pc := 38) (t := 12) hX (jb rfl) rfl (ci := 9) (C := RX10) (T := TX10) (N := 30) rfl (jb rfl) inX10 (j := 19) (jb rfl) rfl tw_939 dX10_next_38 ?_
  refine j_iconst (pc := 41) (v := (5 : Int32)) hX dX10_next_41 ci_5 ?_
  refine j_iload_n (pc := 42) hX 1 dX10_next_42 rfl rfl ?_
  refine j_iadd (pc := 43) hX dX10_next_43 ?_
  refine j_iald (pc := 44) hX (jb rfl) rfl rfl dX10_next_44 (fun v4 => ?_)
  refine j_istore_n (pc := 45) (lv' := [(3, .int v4), (0, .ref (gad (gM E) 0)), (1, .int x1), (2, .int x2)]) hX dX10_next_45 rfl (jb rfl) rfl ?_
  refine j_aload_n (pc := 46) hX 1 dX10_next_46 rfl rfl ?_
  refine j_iconst (pc := 47) (v := (0 : Int32)) hX dX10_next_47 ci_0 ?_
  refine j_iload_n (pc := 48) hX 2 dX10_next_48 rfl rfl ?_
  refine j_callV (pc := 49) hX [.int (0 : Int32), .int x1] (mX10_goal _ E hX.2.2.2.2.2.2.2.2.1 fu   (0 : Int32) x1 M) qX10_goal tw_1144 (jb rfl) rfl (ci := 9) (T := TX10) (N := 30) rfl (jb rfl) rfl ⟨rfl, rfl⟩ ⟨(Nat.le_of_ble_eq_true rfl), (Nat.le_of_ble_eq_true rfl)⟩ (Nat.le_of_ble_eq_true rfl) dX10_next_49 (fun _ => rfl) rfl (fun r6 M5 => ?_)
  refine j_istore (pc := 52) (lv' := [(4, .int r6), (3, .int v4), (0, .ref (gad (gM E) 0)), (1, .int x1), (2, .int x2)]) hX dX10_next_52 (jb rfl) rfl ?_
  refine j_iload_n (pc := 54) hX 4 dX10_next_54 rfl rfl ?_
  refine j_istore (pc := 55) (lv' := [(5, .int x2), (4, .int r6), (3, .int v4), (0, .ref (gad (gM E) 0)), (1, .int x1), (2, .int x2)]) hX dX10_next_55 (jb rfl) rfl ?_
  refine j_aload_n (pc := 57) hX 3 dX10_next_57 rfl rfl ?_
  refine j_getR (pc := 58) (t := 12) hX (jb rfl) rfl (ci := 9) (C := RX10) (T := TX10) (N := 30) rfl (jb rfl) inX10 (j := 19) (jb rfl) rfl tw_939 dX10_next_58 ?_
  refine j_bipush (pc := 61) (v := (10 : Int32)) hX dX10_next_61 cb_10 ?_
  refine j_iload_n (pc := 63) hX 4 dX10_next_63 rfl rfl ?_
  refine j_iadd (pc := 64) hX dX10_next_64 ?_
  refine j_iald (pc := 65) hX (jb rfl) rfl rfl dX10_next_65 (fun v7 => ?_)
  refine j_bipush (pc := 66) (v := (-4 : Int32)) hX dX10_next_66 cb_m4 ?_
  refine j_icmp_eq (pc := 68) hX 91 dX10_next_68 (by decide) ?_ ?_
  · refine j_sub [3, 2, 1, 0] rfl (wX10_next_91 hX fu     fu v4 r6 x2 M5)
  · refine j_aload_n (pc := 71) hX 3 dX10_next_71 rfl rfl ?_
    refine j_getR (pc := 72) (t := 12) hX (jb rfl) rfl (ci := 9) (C := RX10) (T := TX10) (N := 30) rfl (jb rfl) inX10 (j := 19) (jb rfl) rfl tw_939 dX10_next_72 ?_
    refine j_bipush (pc := 75) (v := (10 : Int32)) hX dX10_next_75 cb_10 ?_
    refine j_iload_n (pc := 77) hX 4 dX10_next_77 rfl rfl ?_
    refine j_iadd (pc := 78) hX dX10_next_78 ?_
    refine j_iald (pc := 79) hX (jb rfl) rfl rfl dX10_next_79 (fun v10 => ?_)
    refine j_istore_n (pc := 80) (lv' := [(3, .int v10), (5, .int x2), (4, .int r6), (0, .ref (gad (gM E) 0)), (1, .int x1), (2, .int x2)]) hX dX10_next_80 rfl (jb rfl) rfl ?_
    refine j_iload (pc := 81) hX 1 dX10_next_81 rfl ?_
    refine j_if_ne (pc := 83) hX 88 dX10_next_83 (by decide) ?_ ?_
    · refine j_iinc (pc := 88) (v := (x2 + (-1 : Int32))) (lv' := [(5, .int (x2 + (-1 : Int32))), (3, .int v10), (4, .int r6), (0, .ref (gad (gM E) 0)), (1, .int x1), (2, .int x2)]) hX 1 dX10_next_88 rfl (by rw [ci_m1]) (jb rfl) rfl ?_
      refine j_sub [3, 1, 2, 0] rfl (wX10_next_91 hX fu     fu v10 r6 (x2 + (-1 : Int32)) M5)
    · refine j_iload_n (pc := 86) hX 0 dX10_next_86 rfl rfl ?_
      exact j_iret (pc := 87) hX rfl dX10_next_87
def pX10_next (fu : Nat) (x1 : Int32) (x2 : Int32) (M : Mem) : Res :=
  bI (pX10_isBeast fu x1 M) fun r2 M1 =>
  if r2 = 0 then (
    some ((-1 : Int32), M1))
  else
  if 0 ≤ x2 then (
    ld M1 12 768 x1 fun v3 =>
    if v3 = (1 : Int32) then (
      pX10_next_37 fu  x1 x2 M1 )
    else
    ld M1 12 768 x1 fun v11 =>
    if v11 = (3 : Int32) then (
      pX10_next_37 fu  x1 x2 M1 )
    else
    some ((-2 : Int32), M1))
  else
  some ((-1 : Int32), M1)
set_option maxRecDepth 100000 in
theorem wX10_next {E : jE} {X : jC} (hX : jOk X uX10_next (gM E)) (fu : Nat)  (x1 : Int32) (x2 : Int32) (M : Mem) : J X uX10_next (gM E) 0 [(0, .ref (gad (gM E) 0)), (1, .int x1), (2, .int x2)] [] M (pX10_next fu  x1 x2 M) := by
  unfold pX10_next
  refine j_aload_n (pc := 0) hX 0 dX10_next_0 rfl rfl ?_
  refine j_iload_n (pc := 1) hX 1 dX10_next_1 rfl rfl ?_
  refine j_callV (pc := 2) hX [.int x1] (mX10_isBeast _ E hX.2.2.2.2.2.2.2.2.1 fu   x1 M) qX10_isBeast tw_1095 (jb rfl) rfl (ci := 9) (T := TX10) (N := 30) rfl (jb rfl) rfl ⟨rfl, rfl⟩ ⟨(Nat.le_of_ble_eq_true rfl), (Nat.le_of_ble_eq_true rfl)⟩ (Nat.le_of_ble_eq_true rfl) dX10_next_2 (fun _ => rfl) rfl (fun r2 M1 => ?_)
  refine j_if_eq (pc := 5) hX 12 dX10_next_5 (by decide) ?_ ?_
  · refine j_iconst (pc := 12) (v := (-1 : Int32)) hX dX10_next_12 ci_m1 ?_
    exact j_iret (pc := 13) hX rfl dX10_next_13
  · refine j_iload_n (pc := 8) hX 2 dX10_next_8 rfl rfl ?_
    refine j_if_ge (pc := 9) hX 14 dX10_next_9 (by decide) ?_ ?_
    · refine j_aload_n (pc := 14) hX 0 dX10_next_14 rfl rfl ?_
      refine j_getR (pc := 15) (t := 12) hX (jb rfl) rfl (ci := 9) (C := RX10) (T := TX10) (N := 30) rfl (jb rfl) inX10 (j := 19) (jb rfl) rfl tw_939 dX10_next_15 ?_
      refine j_iload_n (pc := 18) hX 1 dX10_next_18 rfl rfl ?_
      refine j_iald (pc := 19) hX (jb rfl) rfl rfl dX10_next_19 (fun v3 => ?_)
      refine j_iconst (pc := 20) (v := (1 : Int32)) hX dX10_next_20 ci_1 ?_
      refine j_icmp_eq (pc := 21) hX 37 dX10_next_21 (by decide) ?_ ?_
      · exact j_sub [0, 1, 2] rfl (wX10_next_37 hX fu   x1 x2 M1  )
      · refine j_aload_n (pc := 24) hX 0 dX10_next_24 rfl rfl ?_
        refine j_getR (pc := 25) (t := 12) hX (jb rfl) rfl (ci := 9) (C := RX10) (T := TX10) (N := 30) rfl (jb rfl) inX10 (j := 19) (jb rfl) rfl tw_939 dX10_next_25 ?_
        refine j_iload_n (pc := 28) hX 1 dX10_next_28 rfl rfl ?_
        refine j_iald (pc := 29) hX (jb rfl) rfl rfl dX10_next_29 (fun v11 => ?_)
        refine j_iconst (pc := 30) (v := (3 : Int32)) hX dX10_next_30 ci_3 ?_
        refine j_icmp_eq (pc := 31) hX 37 dX10_next_31 (by decide) ?_ ?_
        · exact j_sub [0, 1, 2] rfl (wX10_next_37 hX fu   x1 x2 M1  )
        · refine j_bipush (pc := 34) (v := (-2 : Int32)) hX dX10_next_34 cb_m2 ?_
          exact j_iret (pc := 36) hX rfl dX10_next_36
    · refine j_iconst (pc := 12) (v := (-1 : Int32)) hX dX10_next_12 ci_m1 ?_
      exact j_iret (pc := 13) hX rfl dX10_next_13
theorem mX10_next (l : Launch) (E : jE) (hI : jInj (gM E)) (fu : Nat)  (x1 : Int32) (x2 : Int32) (M : Mem) : jMet l (gM E) yX10_next cX10_next 6 (some .int) rX10_next [.ref (gad (gM E) 0), .int x1, .int x2] M (pX10_next fu  x1 x2 M) :=
  j_entry hI (by decide +kernel) (Nat.le_of_ble_eq_true rfl) rfl (fun X _ hX => wX10_next hX fu   x1 x2 M)
