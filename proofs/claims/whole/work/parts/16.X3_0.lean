theorem dX0_power_0 : decode cX0_power 0 = .ok (.iconst 1, 1) := by decide +kernel
theorem dX0_power_1 : decode cX0_power 1 = .ok (.istore_n 1, 1) := by decide +kernel
theorem dX0_power_2 : decode cX0_power 2 = .ok (.iconst 0, 1) := by decide +kernel
theorem dX0_power_3 : decode cX0_power 3 = .ok (.istore_n 2, 1) := by decide +kernel
theorem dX0_power_4 : decode cX0_power 4 = .ok (.iload_n 2, 1) := by decide +kernel
theorem dX0_power_5 : decode cX0_power 5 = .ok (.iload_n 0, 1) := by decide +kernel
theorem dX0_power_6 : decode cX0_power 6 = .ok (.if_icmp .ge 20, 3) := by decide +kernel
theorem dX0_power_9 : decode cX0_power 9 = .ok (.iload_n 2, 1) := by decide +kernel
theorem dX0_power_10 : decode cX0_power 10 = .ok (.bipush 8, 2) := by decide +kernel
theorem dX0_power_12 : decode cX0_power 12 = .ok (.if_icmp .ge 14, 3) := by decide +kernel
theorem dX0_power_15 : decode cX0_power 15 = .ok (.iload_n 1, 1) := by decide +kernel
theorem dX0_power_16 : decode cX0_power 16 = .ok (.bipush 10, 2) := by decide +kernel
theorem dX0_power_18 : decode cX0_power 18 = .ok (.imul, 1) := by decide +kernel
theorem dX0_power_19 : decode cX0_power 19 = .ok (.istore_n 1, 1) := by decide +kernel
theorem dX0_power_20 : decode cX0_power 20 = .ok (.iinc 2 1, 3) := by decide +kernel
theorem dX0_power_23 : decode cX0_power 23 = .ok (.goto (-19), 3) := by decide +kernel
theorem dX0_power_26 : decode cX0_power 26 = .ok (.iload_n 1, 1) := by decide +kernel
theorem dX0_power_27 : decode cX0_power 27 = .ok (.ireturn, 1) := by decide +kernel
theorem dX0_weigh_0 : decode cX0_weigh 0 = .ok (.iload_n 2, 1) := by decide +kernel
theorem dX0_weigh_1 : decode cX0_weigh 1 = .ok (.ifCond .lt 34, 3) := by decide +kernel
theorem dX0_weigh_4 : decode cX0_weigh 4 = .ok (.iload_n 2, 1) := by decide +kernel
theorem dX0_weigh_5 : decode cX0_weigh 5 = .ok (.aload_n 0, 1) := by decide +kernel
theorem dX0_weigh_6 : decode cX0_weigh 6 = .ok (.getfield 11, 3) := by decide +kernel
theorem dX0_weigh_9 : decode cX0_weigh 9 = .ok (.arraylength, 1) := by decide +kernel
theorem dX0_weigh_10 : decode cX0_weigh 10 = .ok (.if_icmp .ge 25, 3) := by decide +kernel
theorem dX0_weigh_13 : decode cX0_weigh 13 = .ok (.aload_n 0, 1) := by decide +kernel
theorem dX0_weigh_14 : decode cX0_weigh 14 = .ok (.getfield 11, 3) := by decide +kernel
theorem dX0_weigh_17 : decode cX0_weigh 17 = .ok (.iload_n 2, 1) := by decide +kernel
theorem dX0_weigh_18 : decode cX0_weigh 18 = .ok (.aaload, 1) := by decide +kernel
theorem dX0_weigh_19 : decode cX0_weigh 19 = .ok (.ifnull 16, 3) := by decide +kernel
theorem dX0_weigh_22 : decode cX0_weigh 22 = .ok (.aload_n 0, 1) := by decide +kernel
theorem dX0_weigh_23 : decode cX0_weigh 23 = .ok (.getfield 11, 3) := by decide +kernel
theorem dX0_weigh_26 : decode cX0_weigh 26 = .ok (.iload_n 2, 1) := by decide +kernel
theorem dX0_weigh_27 : decode cX0_weigh 27 = .ok (.aaload, 1) := by decide +kernel
theorem dX0_weigh_28 : decode cX0_weigh 28 = .ok (.iload_n 1, 1) := by decide +kernel
theorem dX0_weigh_29 : decode cX0_weigh 29 = .ok (.invokevirtual 28, 3) := by decide +kernel
theorem dX0_weigh_32 : decode cX0_weigh 32 = .ok (.ifCond .ne 5, 3) := by decide +kernel
theorem dX0_weigh_35 : decode cX0_weigh 35 = .ok (.iconst 0, 1) := by decide +kernel
theorem dX0_weigh_36 : decode cX0_weigh 36 = .ok (.ireturn, 1) := by decide +kernel
theorem dX0_weigh_37 : decode cX0_weigh 37 = .ok (.aload_n 0, 1) := by decide +kernel
theorem dX0_weigh_38 : decode cX0_weigh 38 = .ok (.getfield 11, 3) := by decide +kernel
theorem dX0_weigh_41 : decode cX0_weigh 41 = .ok (.iload_n 2, 1) := by decide +kernel
theorem dX0_weigh_42 : decode cX0_weigh 42 = .ok (.aaload, 1) := by decide +kernel
theorem dX0_weigh_43 : decode cX0_weigh 43 = .ok (.iload_n 1, 1) := by decide +kernel
theorem dX0_weigh_44 : decode cX0_weigh 44 = .ok (.iconst 2, 1) := by decide +kernel
theorem dX0_weigh_45 : decode cX0_weigh 45 = .ok (.invokevirtual 32, 3) := by decide +kernel
theorem dX0_weigh_48 : decode cX0_weigh 48 = .ok (.ifCond .eq 8, 3) := by decide +kernel
theorem dX0_weigh_51 : decode cX0_weigh 51 = .ok (.iload_n 2, 1) := by decide +kernel
theorem dX0_weigh_52 : decode cX0_weigh 52 = .ok (.invokestatic 36, 3) := by decide +kernel
theorem dX0_weigh_55 : decode cX0_weigh 55 = .ok (.ireturn, 1) := by decide +kernel
theorem dX0_weigh_56 : decode cX0_weigh 56 = .ok (.iload_n 2, 1) := by decide +kernel
theorem dX0_weigh_57 : decode cX0_weigh 57 = .ok (.ifCond .eq 14, 3) := by decide +kernel
theorem dX0_weigh_60 : decode cX0_weigh 60 = .ok (.aload_n 0, 1) := by decide +kernel
theorem dX0_weigh_61 : decode cX0_weigh 61 = .ok (.getfield 11, 3) := by decide +kernel
theorem dX0_weigh_64 : decode cX0_weigh 64 = .ok (.iload_n 2, 1) := by decide +kernel
theorem dX0_weigh_65 : decode cX0_weigh 65 = .ok (.iconst 1, 1) := by decide +kernel
theorem dX0_weigh_66 : decode cX0_weigh 66 = .ok (.isub, 1) := by decide +kernel
theorem dX0_weigh_67 : decode cX0_weigh 67 = .ok (.aaload, 1) := by decide +kernel
theorem dX0_weigh_68 : decode cX0_weigh 68 = .ok (.ifnonnull 5, 3) := by decide +kernel
theorem dX0_weigh_71 : decode cX0_weigh 71 = .ok (.iconst 0, 1) := by decide +kernel
theorem dX0_weigh_72 : decode cX0_weigh 72 = .ok (.ireturn, 1) := by decide +kernel
theorem dX0_weigh_73 : decode cX0_weigh 73 = .ok (.aload_n 0, 1) := by decide +kernel
theorem dX0_weigh_74 : decode cX0_weigh 74 = .ok (.getfield 11, 3) := by decide +kernel
theorem dX0_weigh_77 : decode cX0_weigh 77 = .ok (.iload_n 2, 1) := by decide +kernel
theorem dX0_weigh_78 : decode cX0_weigh 78 = .ok (.iconst 1, 1) := by decide +kernel
theorem dX0_weigh_79 : decode cX0_weigh 79 = .ok (.isub, 1) := by decide +kernel
theorem dX0_weigh_80 : decode cX0_weigh 80 = .ok (.aaload, 1) := by decide +kernel
theorem dX0_weigh_81 : decode cX0_weigh 81 = .ok (.aload_n 0, 1) := by decide +kernel
theorem dX0_weigh_82 : decode cX0_weigh 82 = .ok (.getfield 11, 3) := by decide +kernel
theorem dX0_weigh_85 : decode cX0_weigh 85 = .ok (.iload_n 2, 1) := by decide +kernel
theorem dX0_weigh_86 : decode cX0_weigh 86 = .ok (.aaload, 1) := by decide +kernel
theorem dX0_weigh_87 : decode cX0_weigh 87 = .ok (.invokevirtual 20, 3) := by decide +kernel
theorem dX0_weigh_90 : decode cX0_weigh 90 = .ok (.aload_n 0, 1) := by decide +kernel
theorem dX0_weigh_91 : decode cX0_weigh 91 = .ok (.getfield 11, 3) := by decide +kernel
theorem dX0_weigh_94 : decode cX0_weigh 94 = .ok (.iload_n 2, 1) := by decide +kernel
theorem dX0_weigh_95 : decode cX0_weigh 95 = .ok (.iconst 1, 1) := by decide +kernel
theorem dX0_weigh_96 : decode cX0_weigh 96 = .ok (.isub, 1) := by decide +kernel
theorem dX0_weigh_97 : decode cX0_weigh 97 = .ok (.aaload, 1) := by decide +kernel
theorem dX0_weigh_98 : decode cX0_weigh 98 = .ok (.bipush (-4), 2) := by decide +kernel
theorem dX0_weigh_100 : decode cX0_weigh 100 = .ok (.invokevirtual 40, 3) := by decide +kernel
theorem dX0_weigh_103 : decode cX0_weigh 103 = .ok (.aload_n 0, 1) := by decide +kernel
theorem dX0_weigh_104 : decode cX0_weigh 104 = .ok (.iload_n 1, 1) := by decide +kernel
theorem dX0_weigh_105 : decode cX0_weigh 105 = .ok (.iload_n 2, 1) := by decide +kernel
theorem dX0_weigh_106 : decode cX0_weigh 106 = .ok (.iconst 1, 1) := by decide +kernel
theorem dX0_weigh_107 : decode cX0_weigh 107 = .ok (.isub, 1) := by decide +kernel
theorem dX0_weigh_108 : decode cX0_weigh 108 = .ok (.iload_n 3, 1) := by decide +kernel
theorem dX0_weigh_109 : decode cX0_weigh 109 = .ok (.invokevirtual 24, 3) := by decide +kernel
theorem dX0_weigh_112 : decode cX0_weigh 112 = .ok (.istore 4, 2) := by decide +kernel
theorem dX0_weigh_114 : decode cX0_weigh 114 = .ok (.aload_n 0, 1) := by decide +kernel
theorem dX0_weigh_115 : decode cX0_weigh 115 = .ok (.getfield 11, 3) := by decide +kernel
theorem dX0_weigh_118 : decode cX0_weigh 118 = .ok (.iload_n 2, 1) := by decide +kernel
theorem dX0_weigh_119 : decode cX0_weigh 119 = .ok (.iconst 1, 1) := by decide +kernel
theorem dX0_weigh_120 : decode cX0_weigh 120 = .ok (.isub, 1) := by decide +kernel
theorem dX0_weigh_121 : decode cX0_weigh 121 = .ok (.aaload, 1) := by decide +kernel
theorem dX0_weigh_122 : decode cX0_weigh 122 = .ok (.aload_n 0, 1) := by decide +kernel
theorem dX0_weigh_123 : decode cX0_weigh 123 = .ok (.getfield 11, 3) := by decide +kernel
theorem dX0_weigh_126 : decode cX0_weigh 126 = .ok (.iload_n 2, 1) := by decide +kernel
theorem dX0_weigh_127 : decode cX0_weigh 127 = .ok (.aaload, 1) := by decide +kernel
theorem dX0_weigh_128 : decode cX0_weigh 128 = .ok (.invokevirtual 20, 3) := by decide +kernel
theorem dX0_weigh_131 : decode cX0_weigh 131 = .ok (.aload_n 0, 1) := by decide +kernel
theorem dX0_weigh_132 : decode cX0_weigh 132 = .ok (.getfield 11, 3) := by decide +kernel
theorem dX0_weigh_135 : decode cX0_weigh 135 = .ok (.iload_n 2, 1) := by decide +kernel
theorem dX0_weigh_136 : decode cX0_weigh 136 = .ok (.iconst 1, 1) := by decide +kernel
theorem dX0_weigh_137 : decode cX0_weigh 137 = .ok (.isub, 1) := by decide +kernel
theorem dX0_weigh_138 : decode cX0_weigh 138 = .ok (.aaload, 1) := by decide +kernel
theorem dX0_weigh_139 : decode cX0_weigh 139 = .ok (.iload_n 1, 1) := by decide +kernel
theorem dX0_weigh_140 : decode cX0_weigh 140 = .ok (.invokevirtual 40, 3) := by decide +kernel
theorem dX0_weigh_143 : decode cX0_weigh 143 = .ok (.aload_n 0, 1) := by decide +kernel
theorem dX0_weigh_144 : decode cX0_weigh 144 = .ok (.iload_n 1, 1) := by decide +kernel
theorem dX0_weigh_145 : decode cX0_weigh 145 = .ok (.iload_n 2, 1) := by decide +kernel
theorem dX0_weigh_146 : decode cX0_weigh 146 = .ok (.iconst 1, 1) := by decide +kernel
theorem dX0_weigh_147 : decode cX0_weigh 147 = .ok (.isub, 1) := by decide +kernel
theorem dX0_weigh_148 : decode cX0_weigh 148 = .ok (.iload_n 3, 1) := by decide +kernel
theorem dX0_weigh_149 : decode cX0_weigh 149 = .ok (.invokevirtual 24, 3) := by decide +kernel
theorem dX0_weigh_152 : decode cX0_weigh 152 = .ok (.istore 5, 2) := by decide +kernel
theorem dX0_weigh_154 : decode cX0_weigh 154 = .ok (.bipush 10, 2) := by decide +kernel
theorem dX0_weigh_156 : decode cX0_weigh 156 = .ok (.iload_n 3, 1) := by decide +kernel
theorem dX0_weigh_157 : decode cX0_weigh 157 = .ok (.isub, 1) := by decide +kernel
theorem dX0_weigh_158 : decode cX0_weigh 158 = .ok (.iload 4, 2) := by decide +kernel
theorem dX0_weigh_160 : decode cX0_weigh 160 = .ok (.imul, 1) := by decide +kernel
theorem dX0_weigh_161 : decode cX0_weigh 161 = .ok (.iload_n 3, 1) := by decide +kernel
theorem dX0_weigh_162 : decode cX0_weigh 162 = .ok (.iload 5, 2) := by decide +kernel
theorem dX0_weigh_164 : decode cX0_weigh 164 = .ok (.imul, 1) := by decide +kernel
theorem dX0_weigh_165 : decode cX0_weigh 165 = .ok (.iadd, 1) := by decide +kernel
theorem dX0_weigh_166 : decode cX0_weigh 166 = .ok (.ireturn, 1) := by decide +kernel
theorem dX0_weightOf_0 : decode cX0_weightOf 0 = .ok (.iload_n 3, 1) := by decide +kernel
theorem dX0_weightOf_1 : decode cX0_weightOf 1 = .ok (.ifCond .lt 21, 3) := by decide +kernel
theorem dX0_weightOf_4 : decode cX0_weightOf 4 = .ok (.iload_n 3, 1) := by decide +kernel
theorem dX0_weightOf_5 : decode cX0_weightOf 5 = .ok (.aload_n 0, 1) := by decide +kernel
theorem dX0_weightOf_6 : decode cX0_weightOf 6 = .ok (.getfield 11, 3) := by decide +kernel
theorem dX0_weightOf_9 : decode cX0_weightOf 9 = .ok (.arraylength, 1) := by decide +kernel
theorem dX0_weightOf_10 : decode cX0_weightOf 10 = .ok (.if_icmp .ge 12, 3) := by decide +kernel
theorem dX0_weightOf_13 : decode cX0_weightOf 13 = .ok (.aload_n 0, 1) := by decide +kernel
theorem dX0_weightOf_14 : decode cX0_weightOf 14 = .ok (.getfield 11, 3) := by decide +kernel
theorem dX0_weightOf_17 : decode cX0_weightOf 17 = .ok (.iload_n 3, 1) := by decide +kernel
theorem dX0_weightOf_18 : decode cX0_weightOf 18 = .ok (.aaload, 1) := by decide +kernel
theorem dX0_weightOf_19 : decode cX0_weightOf 19 = .ok (.ifnonnull 5, 3) := by decide +kernel
theorem dX0_weightOf_22 : decode cX0_weightOf 22 = .ok (.iconst 0, 1) := by decide +kernel
theorem dX0_weightOf_23 : decode cX0_weightOf 23 = .ok (.ireturn, 1) := by decide +kernel
theorem dX0_weightOf_24 : decode cX0_weightOf 24 = .ok (.aload_n 0, 1) := by decide +kernel
theorem dX0_weightOf_25 : decode cX0_weightOf 25 = .ok (.getfield 11, 3) := by decide +kernel
theorem dX0_weightOf_28 : decode cX0_weightOf 28 = .ok (.iload_n 3, 1) := by decide +kernel
theorem dX0_weightOf_29 : decode cX0_weightOf 29 = .ok (.aaload, 1) := by decide +kernel
theorem dX0_weightOf_30 : decode cX0_weightOf 30 = .ok (.aload_n 1, 1) := by decide +kernel
theorem dX0_weightOf_31 : decode cX0_weightOf 31 = .ok (.invokevirtual 20, 3) := by decide +kernel
theorem dX0_weightOf_34 : decode cX0_weightOf 34 = .ok (.aload_n 0, 1) := by decide +kernel
theorem dX0_weightOf_35 : decode cX0_weightOf 35 = .ok (.iload_n 2, 1) := by decide +kernel
theorem dX0_weightOf_36 : decode cX0_weightOf 36 = .ok (.iload_n 3, 1) := by decide +kernel
theorem dX0_weightOf_37 : decode cX0_weightOf 37 = .ok (.iload 4, 2) := by decide +kernel
theorem dX0_weightOf_39 : decode cX0_weightOf 39 = .ok (.invokevirtual 24, 3) := by decide +kernel
theorem dX0_weightOf_42 : decode cX0_weightOf 42 = .ok (.ireturn, 1) := by decide +kernel
theorem dX0_commonDivisor_0 : decode cX0_commonDivisor 0 = .ok (.iload_n 0, 1) := by decide +kernel
theorem dX0_commonDivisor_1 : decode cX0_commonDivisor 1 = .ok (.istore_n 2, 1) := by decide +kernel
theorem dX0_commonDivisor_2 : decode cX0_commonDivisor 2 = .ok (.iload_n 1, 1) := by decide +kernel
theorem dX0_commonDivisor_3 : decode cX0_commonDivisor 3 = .ok (.istore_n 3, 1) := by decide +kernel
theorem dX0_commonDivisor_4 : decode cX0_commonDivisor 4 = .ok (.iconst 0, 1) := by decide +kernel
theorem dX0_commonDivisor_5 : decode cX0_commonDivisor 5 = .ok (.istore 4, 2) := by decide +kernel
theorem dX0_commonDivisor_7 : decode cX0_commonDivisor 7 = .ok (.iload 4, 2) := by decide +kernel
theorem dX0_commonDivisor_9 : decode cX0_commonDivisor 9 = .ok (.bipush 100, 2) := by decide +kernel
theorem dX0_commonDivisor_11 : decode cX0_commonDivisor 11 = .ok (.if_icmp .ge 23, 3) := by decide +kernel
theorem dX0_commonDivisor_14 : decode cX0_commonDivisor 14 = .ok (.iload_n 3, 1) := by decide +kernel
theorem dX0_commonDivisor_15 : decode cX0_commonDivisor 15 = .ok (.ifCond .eq 19, 3) := by decide +kernel
theorem dX0_commonDivisor_18 : decode cX0_commonDivisor 18 = .ok (.iload_n 2, 1) := by decide +kernel
theorem dX0_commonDivisor_19 : decode cX0_commonDivisor 19 = .ok (.iload_n 3, 1) := by decide +kernel
theorem dX0_commonDivisor_20 : decode cX0_commonDivisor 20 = .ok (.irem, 1) := by decide +kernel
theorem dX0_commonDivisor_21 : decode cX0_commonDivisor 21 = .ok (.istore 5, 2) := by decide +kernel
theorem dX0_commonDivisor_23 : decode cX0_commonDivisor 23 = .ok (.iload_n 3, 1) := by decide +kernel
theorem dX0_commonDivisor_24 : decode cX0_commonDivisor 24 = .ok (.istore_n 2, 1) := by decide +kernel
theorem dX0_commonDivisor_25 : decode cX0_commonDivisor 25 = .ok (.iload 5, 2) := by decide +kernel
theorem dX0_commonDivisor_27 : decode cX0_commonDivisor 27 = .ok (.istore_n 3, 1) := by decide +kernel
theorem dX0_commonDivisor_28 : decode cX0_commonDivisor 28 = .ok (.iinc 4 1, 3) := by decide +kernel
theorem dX0_commonDivisor_31 : decode cX0_commonDivisor 31 = .ok (.goto (-24), 3) := by decide +kernel
theorem dX0_commonDivisor_34 : decode cX0_commonDivisor 34 = .ok (.iload_n 2, 1) := by decide +kernel
theorem dX0_commonDivisor_35 : decode cX0_commonDivisor 35 = .ok (.ireturn, 1) := by decide +kernel
theorem dX2_pick_0 : decode cX2_pick 0 = .ok (.iload_n 1, 1) := by decide +kernel
theorem dX2_pick_1 : decode cX2_pick 1 = .ok (.istore_n 2, 1) := by decide +kernel
theorem dX2_pick_2 : decode cX2_pick 2 = .ok (.aload_n 0, 1) := by decide +kernel
theorem dX2_pick_3 : decode cX2_pick 3 = .ok (.getfield 18, 3) := by decide +kernel
theorem dX2_pick_6 : decode cX2_pick 6 = .ok (.invokevirtual 37, 3) := by decide +kernel
theorem dX2_pick_9 : decode cX2_pick 9 = .ok (.istore_n 3, 1) := by decide +kernel
theorem dX2_pick_10 : decode cX2_pick 10 = .ok (.aload_n 0, 1) := by decide +kernel
theorem dX2_pick_11 : decode cX2_pick 11 = .ok (.getfield 18, 3) := by decide +kernel
theorem dX2_pick_14 : decode cX2_pick 14 = .ok (.invokevirtual 31, 3) := by decide +kernel
theorem dX2_pick_17 : decode cX2_pick 17 = .ok (.iconst 1, 1) := by decide +kernel
theorem dX2_pick_18 : decode cX2_pick 18 = .ok (.isub, 1) := by decide +kernel
theorem dX2_pick_19 : decode cX2_pick 19 = .ok (.istore 4, 2) := by decide +kernel
theorem dX2_pick_21 : decode cX2_pick 21 = .ok (.iload 4, 2) := by decide +kernel
theorem dX2_pick_23 : decode cX2_pick 23 = .ok (.ifCond .lt 29, 3) := by decide +kernel
theorem dX2_pick_26 : decode cX2_pick 26 = .ok (.iload_n 3, 1) := by decide +kernel
theorem dX2_pick_27 : decode cX2_pick 27 = .ok (.ifCond .le 25, 3) := by decide +kernel
theorem dX2_pick_30 : decode cX2_pick 30 = .ok (.aload_n 0, 1) := by decide +kernel
theorem dX2_pick_31 : decode cX2_pick 31 = .ok (.getfield 9, 3) := by decide +kernel
theorem dX2_pick_34 : decode cX2_pick 34 = .ok (.iload 4, 2) := by decide +kernel
theorem dX2_pick_36 : decode cX2_pick 36 = .ok (.iload_n 2, 1) := by decide +kernel
theorem dX2_pick_37 : decode cX2_pick 37 = .ok (.iload_n 3, 1) := by decide +kernel
theorem dX2_pick_38 : decode cX2_pick 38 = .ok (.irem, 1) := by decide +kernel
theorem dX2_pick_39 : decode cX2_pick 39 = .ok (.invokestatic 64, 3) := by decide +kernel
theorem dX2_pick_42 : decode cX2_pick 42 = .ok (.iload_n 2, 1) := by decide +kernel
theorem dX2_pick_43 : decode cX2_pick 43 = .ok (.iload_n 3, 1) := by decide +kernel
theorem dX2_pick_44 : decode cX2_pick 44 = .ok (.idiv, 1) := by decide +kernel
theorem dX2_pick_45 : decode cX2_pick 45 = .ok (.istore_n 2, 1) := by decide +kernel
theorem dX2_pick_46 : decode cX2_pick 46 = .ok (.iinc 4 (-1), 3) := by decide +kernel
theorem dX2_pick_49 : decode cX2_pick 49 = .ok (.goto (-28), 3) := by decide +kernel
theorem dX2_pick_52 : decode cX2_pick 52 = .ok (.return_, 1) := by decide +kernel
theorem dX2_sendHand_0 : decode cX2_sendHand 0 = .ok (.aload_n 0, 1) := by decide +kernel
theorem dX2_sendHand_1 : decode cX2_sendHand 1 = .ok (.getfield 27, 3) := by decide +kernel
theorem dX2_sendHand_4 : decode cX2_sendHand 4 = .ok (.aload_n 1, 1) := by decide +kernel
theorem dX2_sendHand_5 : decode cX2_sendHand 5 = .ok (.invokevirtual 68, 3) := by decide +kernel
theorem dX2_sendHand_8 : decode cX2_sendHand 8 = .ok (.iconst 0, 1) := by decide +kernel
theorem dX2_sendHand_9 : decode cX2_sendHand 9 = .ok (.istore_n 3, 1) := by decide +kernel
theorem dX2_sendHand_10 : decode cX2_sendHand 10 = .ok (.iload_n 3, 1) := by decide +kernel
theorem dX2_sendHand_11 : decode cX2_sendHand 11 = .ok (.aload_n 0, 1) := by decide +kernel
theorem dX2_sendHand_12 : decode cX2_sendHand 12 = .ok (.getfield 18, 3) := by decide +kernel
theorem dX2_sendHand_15 : decode cX2_sendHand 15 = .ok (.invokevirtual 31, 3) := by decide +kernel
theorem dX2_sendHand_18 : decode cX2_sendHand 18 = .ok (.if_icmp .ge 60, 3) := by decide +kernel
theorem dX2_sendHand_21 : decode cX2_sendHand 21 = .ok (.aload_n 0, 1) := by decide +kernel
theorem dX2_sendHand_22 : decode cX2_sendHand 22 = .ok (.getfield 9, 3) := by decide +kernel
theorem dX2_sendHand_25 : decode cX2_sendHand 25 = .ok (.iload_n 3, 1) := by decide +kernel
theorem dX2_sendHand_26 : decode cX2_sendHand 26 = .ok (.invokestatic 58, 3) := by decide +kernel
theorem dX2_sendHand_29 : decode cX2_sendHand 29 = .ok (.istore 4, 2) := by decide +kernel
theorem dX2_sendHand_31 : decode cX2_sendHand 31 = .ok (.aload_n 0, 1) := by decide +kernel
theorem dX2_sendHand_32 : decode cX2_sendHand 32 = .ok (.getfield 27, 3) := by decide +kernel
theorem dX2_sendHand_35 : decode cX2_sendHand 35 = .ok (.iload 4, 2) := by decide +kernel
theorem dX2_sendHand_37 : decode cX2_sendHand 37 = .ok (.iload_n 3, 1) := by decide +kernel
theorem dX2_sendHand_38 : decode cX2_sendHand 38 = .ok (.invokevirtual 72, 3) := by decide +kernel
theorem dX2_sendHand_41 : decode cX2_sendHand 41 = .ok (.ifCond .ne 5, 3) := by decide +kernel
theorem dX2_sendHand_44 : decode cX2_sendHand 44 = .ok (.iconst 0, 1) := by decide +kernel
theorem dX2_sendHand_45 : decode cX2_sendHand 45 = .ok (.ireturn, 1) := by decide +kernel
theorem dX2_sendHand_46 : decode cX2_sendHand 46 = .ok (.aload_n 0, 1) := by decide +kernel
theorem dX2_sendHand_47 : decode cX2_sendHand 47 = .ok (.getfield 27, 3) := by decide +kernel
theorem dX2_sendHand_50 : decode cX2_sendHand 50 = .ok (.iload 4, 2) := by decide +kernel
theorem dX2_sendHand_52 : decode cX2_sendHand 52 = .ok (.iload_n 2, 1) := by decide +kernel
theorem dX2_sendHand_53 : decode cX2_sendHand 53 = .ok (.iload_n 3, 1) := by decide +kernel
theorem dX2_sendHand_54 : decode cX2_sendHand 54 = .ok (.invokevirtual 76, 3) := by decide +kernel
theorem dX2_sendHand_57 : decode cX2_sendHand 57 = .ok (.aload_n 0, 1) := by decide +kernel
theorem dX2_sendHand_58 : decode cX2_sendHand 58 = .ok (.getfield 27, 3) := by decide +kernel
theorem dX2_sendHand_61 : decode cX2_sendHand 61 = .ok (.iload 4, 2) := by decide +kernel
theorem dX2_sendHand_63 : decode cX2_sendHand 63 = .ok (.invokevirtual 80, 3) := by decide +kernel
theorem dX2_sendHand_66 : decode cX2_sendHand 66 = .ok (.iload_n 2, 1) := by decide +kernel
theorem dX2_sendHand_67 : decode cX2_sendHand 67 = .ok (.if_icmp .ge 5, 3) := by decide +kernel
theorem dX2_sendHand_70 : decode cX2_sendHand 70 = .ok (.iconst 0, 1) := by decide +kernel
theorem dX2_sendHand_71 : decode cX2_sendHand 71 = .ok (.ireturn, 1) := by decide +kernel
theorem dX2_sendHand_72 : decode cX2_sendHand 72 = .ok (.iinc 3 1, 3) := by decide +kernel
theorem dX2_sendHand_75 : decode cX2_sendHand 75 = .ok (.goto (-65), 3) := by decide +kernel
theorem dX2_sendHand_78 : decode cX2_sendHand 78 = .ok (.iconst 1, 1) := by decide +kernel
theorem dX2_sendHand_79 : decode cX2_sendHand 79 = .ok (.ireturn, 1) := by decide +kernel
theorem dX2_going_0 : decode cX2_going 0 = .ok (.iconst 0, 1) := by decide +kernel
theorem dX2_going_1 : decode cX2_going 1 = .ok (.istore_n 1, 1) := by decide +kernel
theorem dX2_going_2 : decode cX2_going 2 = .ok (.iconst 0, 1) := by decide +kernel
theorem dX2_going_3 : decode cX2_going 3 = .ok (.istore_n 2, 1) := by decide +kernel
theorem dX2_going_4 : decode cX2_going 4 = .ok (.iload_n 2, 1) := by decide +kernel
theorem dX2_going_5 : decode cX2_going 5 = .ok (.aload_n 0, 1) := by decide +kernel
theorem dX2_going_6 : decode cX2_going 6 = .ok (.getfield 18, 3) := by decide +kernel
theorem dX2_going_9 : decode cX2_going 9 = .ok (.invokevirtual 31, 3) := by decide +kernel
theorem dX2_going_12 : decode cX2_going 12 = .ok (.if_icmp .ge 36, 3) := by decide +kernel
theorem dX2_going_15 : decode cX2_going 15 = .ok (.iload_n 1, 1) := by decide +kernel
theorem dX2_going_16 : decode cX2_going 16 = .ok (.aload_n 0, 1) := by decide +kernel
theorem dX2_going_17 : decode cX2_going 17 = .ok (.getfield 27, 3) := by decide +kernel
theorem dX2_going_20 : decode cX2_going 20 = .ok (.aload_n 0, 1) := by decide +kernel
theorem dX2_going_21 : decode cX2_going 21 = .ok (.getfield 9, 3) := by decide +kernel
theorem dX2_going_24 : decode cX2_going 24 = .ok (.iload_n 2, 1) := by decide +kernel
theorem dX2_going_25 : decode cX2_going 25 = .ok (.invokestatic 58, 3) := by decide +kernel
theorem dX2_going_28 : decode cX2_going 28 = .ok (.iconst 1, 1) := by decide +kernel
theorem dX2_going_29 : decode cX2_going 29 = .ok (.invokevirtual 89, 3) := by decide +kernel
theorem dX2_going_32 : decode cX2_going 32 = .ok (.ifCond .eq 7, 3) := by decide +kernel
theorem dX2_going_35 : decode cX2_going 35 = .ok (.iconst 1, 1) := by decide +kernel
theorem dX2_going_36 : decode cX2_going 36 = .ok (.goto 4, 3) := by decide +kernel
theorem dX2_going_39 : decode cX2_going 39 = .ok (.iconst 0, 1) := by decide +kernel
theorem dX2_going_40 : decode cX2_going 40 = .ok (.iadd, 1) := by decide +kernel
theorem dX2_going_41 : decode cX2_going 41 = .ok (.istore_n 1, 1) := by decide +kernel
theorem dX2_going_42 : decode cX2_going 42 = .ok (.iinc 2 1, 3) := by decide +kernel
theorem dX2_going_45 : decode cX2_going 45 = .ok (.goto (-41), 3) := by decide +kernel
theorem dX2_going_48 : decode cX2_going 48 = .ok (.iload_n 1, 1) := by decide +kernel
theorem dX2_going_49 : decode cX2_going 49 = .ok (.ireturn, 1) := by decide +kernel
theorem dX2_awaitHand_0 : decode cX2_awaitHand 0 = .ok (.iconst 0, 1) := by decide +kernel
theorem dX2_awaitHand_1 : decode cX2_awaitHand 1 = .ok (.istore_n 2, 1) := by decide +kernel
theorem dX2_awaitHand_2 : decode cX2_awaitHand 2 = .ok (.iconst 0, 1) := by decide +kernel
theorem dX2_awaitHand_3 : decode cX2_awaitHand 3 = .ok (.istore_n 3, 1) := by decide +kernel
theorem dX2_awaitHand_4 : decode cX2_awaitHand 4 = .ok (.iload_n 3, 1) := by decide +kernel
theorem dX2_awaitHand_5 : decode cX2_awaitHand 5 = .ok (.bipush 99, 2) := by decide +kernel
theorem dX2_awaitHand_7 : decode cX2_awaitHand 7 = .ok (.if_icmp .ge 32, 3) := by decide +kernel
theorem dX2_awaitHand_10 : decode cX2_awaitHand 10 = .ok (.aload_n 0, 1) := by decide +kernel
theorem dX2_awaitHand_11 : decode cX2_awaitHand 11 = .ok (.invokevirtual 83, 3) := by decide +kernel
theorem dX2_awaitHand_14 : decode cX2_awaitHand 14 = .ok (.ifCond .le 25, 3) := by decide +kernel
theorem dX2_awaitHand_17 : decode cX2_awaitHand 17 = .ok (.iload_n 2, 1) := by decide +kernel
theorem dX2_awaitHand_18 : decode cX2_awaitHand 18 = .ok (.aload_n 0, 1) := by decide +kernel
theorem dX2_awaitHand_19 : decode cX2_awaitHand 19 = .ok (.invokevirtual 83, 3) := by decide +kernel
theorem dX2_awaitHand_22 : decode cX2_awaitHand 22 = .ok (.iadd, 1) := by decide +kernel
theorem dX2_awaitHand_23 : decode cX2_awaitHand 23 = .ok (.istore_n 2, 1) := by decide +kernel
theorem dX2_awaitHand_24 : decode cX2_awaitHand 24 = .ok (.aload_n 0, 1) := by decide +kernel
theorem dX2_awaitHand_25 : decode cX2_awaitHand 25 = .ok (.getfield 27, 3) := by decide +kernel
theorem dX2_awaitHand_28 : decode cX2_awaitHand 28 = .ok (.bipush (-4), 2) := by decide +kernel
theorem dX2_awaitHand_30 : decode cX2_awaitHand 30 = .ok (.invokevirtual 86, 3) := by decide +kernel
theorem dX2_awaitHand_33 : decode cX2_awaitHand 33 = .ok (.iinc 3 1, 3) := by decide +kernel
theorem dX2_awaitHand_36 : decode cX2_awaitHand 36 = .ok (.goto (-32), 3) := by decide +kernel
theorem dX2_awaitHand_39 : decode cX2_awaitHand 39 = .ok (.iconst 0, 1) := by decide +kernel
theorem dX2_awaitHand_40 : decode cX2_awaitHand 40 = .ok (.istore_n 3, 1) := by decide +kernel
theorem dX2_awaitHand_41 : decode cX2_awaitHand 41 = .ok (.iload_n 3, 1) := by decide +kernel
theorem dX2_awaitHand_42 : decode cX2_awaitHand 42 = .ok (.aload_n 0, 1) := by decide +kernel
theorem dX2_awaitHand_43 : decode cX2_awaitHand 43 = .ok (.getfield 18, 3) := by decide +kernel
theorem dX2_awaitHand_46 : decode cX2_awaitHand 46 = .ok (.invokevirtual 31, 3) := by decide +kernel
theorem dX2_awaitHand_49 : decode cX2_awaitHand 49 = .ok (.if_icmp .ge 48, 3) := by decide +kernel
theorem dX2_awaitHand_52 : decode cX2_awaitHand 52 = .ok (.aload_n 0, 1) := by decide +kernel
theorem dX2_awaitHand_53 : decode cX2_awaitHand 53 = .ok (.getfield 9, 3) := by decide +kernel
theorem dX2_awaitHand_56 : decode cX2_awaitHand 56 = .ok (.iload_n 3, 1) := by decide +kernel
theorem dX2_awaitHand_57 : decode cX2_awaitHand 57 = .ok (.invokestatic 58, 3) := by decide +kernel
theorem dX2_awaitHand_60 : decode cX2_awaitHand 60 = .ok (.istore 4, 2) := by decide +kernel
theorem dX2_awaitHand_62 : decode cX2_awaitHand 62 = .ok (.aload_n 0, 1) := by decide +kernel
theorem dX2_awaitHand_63 : decode cX2_awaitHand 63 = .ok (.getfield 27, 3) := by decide +kernel
theorem dX2_awaitHand_66 : decode cX2_awaitHand 66 = .ok (.iload 4, 2) := by decide +kernel
theorem dX2_awaitHand_68 : decode cX2_awaitHand 68 = .ok (.iconst 2, 1) := by decide +kernel
theorem dX2_awaitHand_69 : decode cX2_awaitHand 69 = .ok (.invokevirtual 89, 3) := by decide +kernel
theorem dX2_awaitHand_72 : decode cX2_awaitHand 72 = .ok (.ifCond .eq 16, 3) := by decide +kernel
theorem dX2_awaitHand_75 : decode cX2_awaitHand 75 = .ok (.aload_n 0, 1) := by decide +kernel
theorem dX2_awaitHand_76 : decode cX2_awaitHand 76 = .ok (.getfield 27, 3) := by decide +kernel
theorem dX2_awaitHand_79 : decode cX2_awaitHand 79 = .ok (.iload 4, 2) := by decide +kernel
theorem dX2_awaitHand_81 : decode cX2_awaitHand 81 = .ok (.invokevirtual 80, 3) := by decide +kernel
theorem dX2_awaitHand_84 : decode cX2_awaitHand 84 = .ok (.iload_n 1, 1) := by decide +kernel
theorem dX2_awaitHand_85 : decode cX2_awaitHand 85 = .ok (.if_icmp .eq 6, 3) := by decide +kernel
theorem dX2_awaitHand_88 : decode cX2_awaitHand 88 = .ok (.bipush (-4), 2) := by decide +kernel
theorem dX2_awaitHand_90 : decode cX2_awaitHand 90 = .ok (.ireturn, 1) := by decide +kernel
theorem dX2_awaitHand_91 : decode cX2_awaitHand 91 = .ok (.iinc 3 1, 3) := by decide +kernel
theorem dX2_awaitHand_94 : decode cX2_awaitHand 94 = .ok (.goto (-53), 3) := by decide +kernel
theorem dX2_awaitHand_97 : decode cX2_awaitHand 97 = .ok (.iload_n 2, 1) := by decide +kernel
theorem dX2_awaitHand_98 : decode cX2_awaitHand 98 = .ok (.ireturn, 1) := by decide +kernel
theorem dX2_fewestHours_0 : decode cX2_fewestHours 0 = .ok (.bipush (-4), 2) := by decide +kernel
theorem dX2_fewestHours_2 : decode cX2_fewestHours 2 = .ok (.istore_n 3, 1) := by decide +kernel
theorem dX2_fewestHours_3 : decode cX2_fewestHours 3 = .ok (.iconst 1, 1) := by decide +kernel
theorem dX2_fewestHours_4 : decode cX2_fewestHours 4 = .ok (.istore 4, 2) := by decide +kernel
theorem dX2_fewestHours_6 : decode cX2_fewestHours 6 = .ok (.iconst 0, 1) := by decide +kernel
theorem dX2_fewestHours_7 : decode cX2_fewestHours 7 = .ok (.istore 5, 2) := by decide +kernel
theorem dX2_fewestHours_9 : decode cX2_fewestHours 9 = .ok (.iload 5, 2) := by decide +kernel
theorem dX2_fewestHours_11 : decode cX2_fewestHours 11 = .ok (.aload_n 0, 1) := by decide +kernel
theorem dX2_fewestHours_12 : decode cX2_fewestHours 12 = .ok (.getfield 18, 3) := by decide +kernel
theorem dX2_fewestHours_15 : decode cX2_fewestHours 15 = .ok (.invokevirtual 31, 3) := by decide +kernel
theorem dX2_fewestHours_18 : decode cX2_fewestHours 18 = .ok (.if_icmp .ge 21, 3) := by decide +kernel
theorem dX2_fewestHours_21 : decode cX2_fewestHours 21 = .ok (.iload 4, 2) := by decide +kernel
theorem dX2_fewestHours_23 : decode cX2_fewestHours 23 = .ok (.aload_n 0, 1) := by decide +kernel
theorem dX2_fewestHours_24 : decode cX2_fewestHours 24 = .ok (.getfield 18, 3) := by decide +kernel
theorem dX2_fewestHours_27 : decode cX2_fewestHours 27 = .ok (.invokevirtual 37, 3) := by decide +kernel
theorem dX2_fewestHours_30 : decode cX2_fewestHours 30 = .ok (.imul, 1) := by decide +kernel
theorem dX2_fewestHours_31 : decode cX2_fewestHours 31 = .ok (.istore 4, 2) := by decide +kernel
theorem dX2_fewestHours_33 : decode cX2_fewestHours 33 = .ok (.iinc 5 1, 3) := by decide +kernel
theorem dX2_fewestHours_36 : decode cX2_fewestHours 36 = .ok (.goto (-27), 3) := by decide +kernel
theorem dX2_fewestHours_39 : decode cX2_fewestHours 39 = .ok (.iconst 0, 1) := by decide +kernel
theorem dX2_fewestHours_40 : decode cX2_fewestHours 40 = .ok (.istore 5, 2) := by decide +kernel
theorem dX2_fewestHours_42 : decode cX2_fewestHours 42 = .ok (.iload 5, 2) := by decide +kernel
theorem dX2_fewestHours_44 : decode cX2_fewestHours 44 = .ok (.iload 4, 2) := by decide +kernel
theorem dX2_fewestHours_46 : decode cX2_fewestHours 46 = .ok (.if_icmp .ge 76, 3) := by decide +kernel
theorem dX2_fewestHours_49 : decode cX2_fewestHours 49 = .ok (.aload_n 0, 1) := by decide +kernel
theorem dX2_fewestHours_50 : decode cX2_fewestHours 50 = .ok (.iload 5, 2) := by decide +kernel
theorem dX2_fewestHours_52 : decode cX2_fewestHours 52 = .ok (.invokevirtual 40, 3) := by decide +kernel
theorem dX2_fewestHours_55 : decode cX2_fewestHours 55 = .ok (.aload_n 0, 1) := by decide +kernel
theorem dX2_fewestHours_56 : decode cX2_fewestHours 56 = .ok (.aload_n 1, 1) := by decide +kernel
theorem dX2_fewestHours_57 : decode cX2_fewestHours 57 = .ok (.iload_n 2, 1) := by decide +kernel
theorem dX2_fewestHours_58 : decode cX2_fewestHours 58 = .ok (.invokevirtual 44, 3) := by decide +kernel
theorem dX2_fewestHours_61 : decode cX2_fewestHours 61 = .ok (.ifCond .eq 11, 3) := by decide +kernel
theorem dX2_fewestHours_64 : decode cX2_fewestHours 64 = .ok (.aload_n 0, 1) := by decide +kernel
theorem dX2_fewestHours_65 : decode cX2_fewestHours 65 = .ok (.iload_n 2, 1) := by decide +kernel
theorem dX2_fewestHours_66 : decode cX2_fewestHours 66 = .ok (.invokevirtual 48, 3) := by decide +kernel
theorem dX2_fewestHours_69 : decode cX2_fewestHours 69 = .ok (.goto 5, 3) := by decide +kernel
theorem dX2_fewestHours_72 : decode cX2_fewestHours 72 = .ok (.bipush (-4), 2) := by decide +kernel
theorem dX2_fewestHours_74 : decode cX2_fewestHours 74 = .ok (.istore 6, 2) := by decide +kernel
theorem dX2_fewestHours_76 : decode cX2_fewestHours 76 = .ok (.iload 6, 2) := by decide +kernel
theorem dX2_fewestHours_78 : decode cX2_fewestHours 78 = .ok (.bipush (-4), 2) := by decide +kernel
theorem dX2_fewestHours_80 : decode cX2_fewestHours 80 = .ok (.if_icmp .eq 36, 3) := by decide +kernel
theorem dX2_fewestHours_83 : decode cX2_fewestHours 83 = .ok (.iload_n 3, 1) := by decide +kernel
theorem dX2_fewestHours_84 : decode cX2_fewestHours 84 = .ok (.bipush (-4), 2) := by decide +kernel
theorem dX2_fewestHours_86 : decode cX2_fewestHours 86 = .ok (.if_icmp .eq 9, 3) := by decide +kernel
theorem dX2_fewestHours_89 : decode cX2_fewestHours 89 = .ok (.iload 6, 2) := by decide +kernel
theorem dX2_fewestHours_91 : decode cX2_fewestHours 91 = .ok (.iload_n 3, 1) := by decide +kernel
theorem dX2_fewestHours_92 : decode cX2_fewestHours 92 = .ok (.if_icmp .ge 24, 3) := by decide +kernel
theorem dX2_fewestHours_95 : decode cX2_fewestHours 95 = .ok (.iload 6, 2) := by decide +kernel
theorem dX2_fewestHours_97 : decode cX2_fewestHours 97 = .ok (.istore_n 3, 1) := by decide +kernel
theorem dX2_fewestHours_98 : decode cX2_fewestHours 98 = .ok (.aload_n 0, 1) := by decide +kernel
theorem dX2_fewestHours_99 : decode cX2_fewestHours 99 = .ok (.getfield 9, 3) := by decide +kernel
theorem dX2_fewestHours_102 : decode cX2_fewestHours 102 = .ok (.iconst 0, 1) := by decide +kernel
theorem dX2_fewestHours_103 : decode cX2_fewestHours 103 = .ok (.aload_n 0, 1) := by decide +kernel
theorem dX2_fewestHours_104 : decode cX2_fewestHours 104 = .ok (.getfield 15, 3) := by decide +kernel
theorem dX2_fewestHours_107 : decode cX2_fewestHours 107 = .ok (.iconst 0, 1) := by decide +kernel
theorem dX2_fewestHours_108 : decode cX2_fewestHours 108 = .ok (.aload_n 0, 1) := by decide +kernel
theorem dX2_fewestHours_109 : decode cX2_fewestHours 109 = .ok (.getfield 15, 3) := by decide +kernel
theorem dX2_fewestHours_112 : decode cX2_fewestHours 112 = .ok (.arraylength, 1) := by decide +kernel
theorem dX2_fewestHours_113 : decode cX2_fewestHours 113 = .ok (.invokestatic 52, 3) := by decide +kernel
theorem dX2_fewestHours_116 : decode cX2_fewestHours 116 = .ok (.iinc 5 1, 3) := by decide +kernel
theorem dX2_fewestHours_119 : decode cX2_fewestHours 119 = .ok (.goto (-77), 3) := by decide +kernel
theorem dX2_fewestHours_122 : decode cX2_fewestHours 122 = .ok (.iload_n 3, 1) := by decide +kernel
theorem dX2_fewestHours_123 : decode cX2_fewestHours 123 = .ok (.ireturn, 1) := by decide +kernel
theorem dX2_beastAt_0 : decode cX2_beastAt 0 = .ok (.aload_n 0, 1) := by decide +kernel
theorem dX2_beastAt_1 : decode cX2_beastAt 1 = .ok (.getfield 15, 3) := by decide +kernel
theorem dX2_beastAt_4 : decode cX2_beastAt 4 = .ok (.iload_n 1, 1) := by decide +kernel
theorem dX2_beastAt_5 : decode cX2_beastAt 5 = .ok (.invokestatic 58, 3) := by decide +kernel
theorem dX2_beastAt_8 : decode cX2_beastAt 8 = .ok (.ireturn, 1) := by decide +kernel
theorem dX3_awaitBeast_0 : decode cX3_awaitBeast 0 = .ok (.iconst 0, 1) := by decide +kernel
theorem dX3_awaitBeast_1 : decode cX3_awaitBeast 1 = .ok (.istore_n 2, 1) := by decide +kernel
theorem dX3_awaitBeast_2 : decode cX3_awaitBeast 2 = .ok (.iload_n 2, 1) := by decide +kernel
theorem dX3_awaitBeast_3 : decode cX3_awaitBeast 3 = .ok (.bipush 99, 2) := by decide +kernel
theorem dX3_awaitBeast_5 : decode cX3_awaitBeast 5 = .ok (.if_icmp .ge 32, 3) := by decide +kernel
theorem dX3_awaitBeast_8 : decode cX3_awaitBeast 8 = .ok (.aload_n 0, 1) := by decide +kernel
theorem dX3_awaitBeast_9 : decode cX3_awaitBeast 9 = .ok (.getfield 20, 3) := by decide +kernel
theorem dX3_awaitBeast_12 : decode cX3_awaitBeast 12 = .ok (.iload_n 1, 1) := by decide +kernel
theorem dX3_awaitBeast_13 : decode cX3_awaitBeast 13 = .ok (.iconst 2, 1) := by decide +kernel
theorem dX3_awaitBeast_14 : decode cX3_awaitBeast 14 = .ok (.invokevirtual 35, 3) := by decide +kernel
theorem dX3_awaitBeast_17 : decode cX3_awaitBeast 17 = .ok (.ifCond .eq 5, 3) := by decide +kernel
theorem dX3_awaitBeast_20 : decode cX3_awaitBeast 20 = .ok (.iload_n 2, 1) := by decide +kernel
theorem dX3_awaitBeast_21 : decode cX3_awaitBeast 21 = .ok (.ireturn, 1) := by decide +kernel
theorem dX3_awaitBeast_22 : decode cX3_awaitBeast 22 = .ok (.aload_n 0, 1) := by decide +kernel
theorem dX3_awaitBeast_23 : decode cX3_awaitBeast 23 = .ok (.getfield 20, 3) := by decide +kernel
theorem dX3_awaitBeast_26 : decode cX3_awaitBeast 26 = .ok (.bipush (-4), 2) := by decide +kernel
theorem dX3_awaitBeast_28 : decode cX3_awaitBeast 28 = .ok (.invokevirtual 39, 3) := by decide +kernel
theorem dX3_awaitBeast_31 : decode cX3_awaitBeast 31 = .ok (.iinc 2 1, 3) := by decide +kernel
theorem dX3_awaitBeast_34 : decode cX3_awaitBeast 34 = .ok (.goto (-32), 3) := by decide +kernel
theorem dX3_awaitBeast_37 : decode cX3_awaitBeast 37 = .ok (.aload_n 0, 1) := by decide +kernel
theorem dX3_awaitBeast_38 : decode cX3_awaitBeast 38 = .ok (.getfield 20, 3) := by decide +kernel
theorem dX3_awaitBeast_41 : decode cX3_awaitBeast 41 = .ok (.iload_n 1, 1) := by decide +kernel
theorem dX3_awaitBeast_42 : decode cX3_awaitBeast 42 = .ok (.iconst 2, 1) := by decide +kernel
theorem dX3_awaitBeast_43 : decode cX3_awaitBeast 43 = .ok (.invokevirtual 35, 3) := by decide +kernel
theorem dX3_awaitBeast_46 : decode cX3_awaitBeast 46 = .ok (.ifCond .eq 8, 3) := by decide +kernel
theorem dX3_awaitBeast_49 : decode cX3_awaitBeast 49 = .ok (.bipush 99, 2) := by decide +kernel
theorem dX3_awaitBeast_51 : decode cX3_awaitBeast 51 = .ok (.goto 5, 3) := by decide +kernel
theorem dX3_awaitBeast_54 : decode cX3_awaitBeast 54 = .ok (.bipush (-4), 2) := by decide +kernel
theorem dX3_awaitBeast_56 : decode cX3_awaitBeast 56 = .ok (.ireturn, 1) := by decide +kernel
theorem dX3_hoursTill_0 : decode cX3_hoursTill 0 = .ok (.aload_n 0, 1) := by decide +kernel
theorem dX3_hoursTill_1 : decode cX3_hoursTill 1 = .ok (.getfield 20, 3) := by decide +kernel
theorem dX3_hoursTill_4 : decode cX3_hoursTill 4 = .ok (.aload_n 1, 1) := by decide +kernel
theorem dX3_hoursTill_5 : decode cX3_hoursTill 5 = .ok (.invokevirtual 24, 3) := by decide +kernel
theorem dX3_hoursTill_8 : decode cX3_hoursTill 8 = .ok (.aload_n 0, 1) := by decide +kernel
theorem dX3_hoursTill_9 : decode cX3_hoursTill 9 = .ok (.iload_n 2, 1) := by decide +kernel
theorem dX3_hoursTill_10 : decode cX3_hoursTill 10 = .ok (.invokevirtual 28, 3) := by decide +kernel
theorem dX3_hoursTill_13 : decode cX3_hoursTill 13 = .ok (.ireturn, 1) := by decide +kernel
theorem dX3_readOf_0 : decode cX3_readOf 0 = .ok (.aload_n 0, 1) := by decide +kernel
theorem dX3_readOf_1 : decode cX3_readOf 1 = .ok (.getfield 20, 3) := by decide +kernel
theorem dX3_readOf_4 : decode cX3_readOf 4 = .ok (.aload_n 1, 1) := by decide +kernel
theorem dX3_readOf_5 : decode cX3_readOf 5 = .ok (.invokevirtual 24, 3) := by decide +kernel
theorem dX3_readOf_8 : decode cX3_readOf 8 = .ok (.aload_n 0, 1) := by decide +kernel
theorem dX3_readOf_9 : decode cX3_readOf 9 = .ok (.iload_n 2, 1) := by decide +kernel
theorem dX3_readOf_10 : decode cX3_readOf 10 = .ok (.invokevirtual 28, 3) := by decide +kernel
theorem dX3_readOf_13 : decode cX3_readOf 13 = .ok (.bipush (-4), 2) := by decide +kernel
theorem dX3_readOf_15 : decode cX3_readOf 15 = .ok (.if_icmp .ne 8, 3) := by decide +kernel
theorem dX3_readOf_18 : decode cX3_readOf 18 = .ok (.bipush (-4), 2) := by decide +kernel
theorem dX3_readOf_20 : decode cX3_readOf 20 = .ok (.goto 11, 3) := by decide +kernel
theorem dX3_readOf_23 : decode cX3_readOf 23 = .ok (.aload_n 0, 1) := by decide +kernel
theorem dX3_readOf_24 : decode cX3_readOf 24 = .ok (.getfield 20, 3) := by decide +kernel
theorem dX3_readOf_27 : decode cX3_readOf 27 = .ok (.iload_n 2, 1) := by decide +kernel
theorem dX3_readOf_28 : decode cX3_readOf 28 = .ok (.invokevirtual 32, 3) := by decide +kernel
theorem dX3_readOf_31 : decode cX3_readOf 31 = .ok (.ireturn, 1) := by decide +kernel
theorem qX0_power : jYs yX0_power cX0_power 3 (some .int) 1 := ⟨tw_827, tw_65, tw_828, ⟨by decide +kernel, by decide +kernel, by decide +kernel⟩⟩
abbrev rX0_power : Room := { frames := 0, cells := 0, slots := 0, locals := 0 }
def uX0_power : jM := (cX0_power, 3, RX0, (some .int), rX0_power)
def pX0_power_4b (fu : Nat) (x0 : Int32) (x1 : Int32) (x2 : Int32) (M : Mem) (c4 : Int32 → Int32 → Int32 → Mem → Res) : Res :=
  if x0 ≤ x2 then (
    some (x1, M))
  else
  if (8 : Int32) ≤ x2 then (
    some (x1, M))
  else
  c4 x0 (x1 * (10 : Int32)) (x2 + (1 : Int32)) M
set_option maxRecDepth 100000 in
theorem wX0_power_4b {E : jE} {X : jC} (hX : jOk X uX0_power (gX E)) (fu : Nat)  (x0 : Int32) (x1 : Int32) (x2 : Int32) (M : Mem) (c4 : Int32 → Int32 → Int32 → Mem → Res) (hc4 : ∀ (x0 : Int32) (x1 : Int32) (x2 : Int32) (M : Mem), J X uX0_power (gX E) 4 [(0, .int x0), (1, .int x1), (2, .int x2)] [] M (c4 x0 x1 x2 M)) : J X uX0_power (gX E) 4 [(0, .int x0), (1, .int x1), (2, .int x2)] [] M (pX0_power_4b fu  x0 x1 x2 M c4) := by
  unfold pX0_power_4b
  refine j_iload_n (pc := 4) hX 2 dX0_power_4 rfl rfl ?_
  refine j_iload_n (pc := 5) hX 0 dX0_power_5 rfl rfl ?_
  refine j_icmp_ge (pc := 6) hX 26 dX0_power_6 (by decide) ?_ ?_
  · refine j_iload_n (pc := 26) hX 1 dX0_power_26 rfl rfl ?_
    exact j_iret (pc := 27) hX rfl dX0_power_27
  · refine j_iload_n (pc := 9) hX 2 dX0_power_9 rfl rfl ?_
    refine j_bipush (pc := 10) (v := (8 : Int32)) hX dX0_power_10 cb_8 ?_
    refine j_icmp_ge (pc := 12) hX 26 dX0_power_12 (by decide) ?_ ?_
    · refine j_iload_n (pc := 26) hX 1 dX0_power_26 rfl rfl ?_
      exact j_iret (pc := 27) hX rfl dX0_power_27
    · refine j_iload_n (pc := 15) hX 1 dX0_power_15 rfl rfl ?_
      refine j_bipush (pc := 16) (v := (10 : Int32)) hX dX0_power_16 cb_10 ?_
      refine j_imul (pc := 18) hX dX0_power_18 ?_
      refine j_istore_n (pc := 19) (lv' := [(1, .int (x1 * (10 : Int32))), (0, .int x0), (2, .int x2)]) hX dX0_power_19 rfl (jb rfl) rfl ?_
      refine j_iinc (pc := 20) (v := (x2 + (1 : Int32))) (lv' := [(2, .int (x2 + (1 : Int32))), (1, .int (x1 * (10 : Int32))), (0, .int x0)]) hX 2 dX0_power_20 rfl (by rw [ci_1]) (jb rfl) rfl ?_
      refine j_goto (pc := 23) hX 4 dX0_power_23 (by decide) ?_
      exact j_sub [2, 1, 0] rfl (hc4 x0 (x1 * (10 : Int32)) (x2 + (1 : Int32)) M)
def pX0_power_4 (fu : Nat)  : Nat → Int32 → Int32 → Int32 → Mem → Res
  | 0, _, _, _, _ => none
  | n + 1, x0, x1, x2, M => pX0_power_4b fu  x0 x1 x2 M (pX0_power_4 fu   n)
theorem wX0_power_4 {E : jE} {X : jC} (hX : jOk X uX0_power (gX E)) (fu : Nat)    : ∀ (n : Nat) (x0 : Int32) (x1 : Int32) (x2 : Int32) (M : Mem), J X uX0_power (gX E) 4 [(0, .int x0), (1, .int x1), (2, .int x2)] [] M (pX0_power_4 fu   n x0 x1 x2 M) := by
  intro n
  induction n with
  | zero => intro x0 x1 x2 M; exact j_none
  | succ n ih => intro x0 x1 x2 M; exact wX0_power_4b hX fu   x0 x1 x2 M (pX0_power_4 fu   n) ih
def pX0_power (fu : Nat) (x0 : Int32) (M : Mem) : Res :=
  pX0_power_4 fu
    fu x0 (1 : Int32) (0 : Int32) M
set_option maxRecDepth 100000 in
theorem wX0_power {E : jE} {X : jC} (hX : jOk X uX0_power (gX E)) (fu : Nat)  (x0 : Int32) (M : Mem) : J X uX0_power (gX E) 0 [(0, .int x0)] [] M (pX0_power fu  x0 M) := by
  unfold pX0_power
  refine j_iconst (pc := 0) (v := (1 : Int32)) hX dX0_power_0 ci_1 ?_
  refine j_istore_n (pc := 1) (lv' := [(1, .int (1 : Int32)), (0, .int x0)]) hX dX0_power_1 rfl (jb rfl) rfl ?_
  refine j_iconst (pc := 2) (v := (0 : Int32)) hX dX0_power_2 ci_0 ?_
  refine j_istore_n (pc := 3) (lv' := [(2, .int (0 : Int32)), (1, .int (1 : Int32)), (0, .int x0)]) hX dX0_power_3 rfl (jb rfl) rfl ?_
  refine j_sub [2, 1, 0] rfl (wX0_power_4 hX fu     fu x0 (1 : Int32) (0 : Int32) M)
theorem mX0_power (l : Launch) (E : jE) (hI : jInj (gX E)) (fu : Nat)  (x0 : Int32) (M : Mem) : jMet l (gX E) yX0_power cX0_power 3 (some .int) rX0_power [.int x0] M (pX0_power fu  x0 M) :=
  j_entry hI (by decide +kernel) (Nat.le_of_ble_eq_true rfl) rfl (fun X _ hX => wX0_power hX fu   x0 M)
theorem qX0_weigh : jYv yX0_weigh cX0_weigh 6 (some .int) 3 := ⟨tw_822, tw_15, tw_65, tw_823, ⟨by decide +kernel, by decide +kernel, by decide +kernel⟩⟩
def rX0_weigh (d : Nat) : Room := { frames := 5 + d, cells := 0, slots := 0, locals := 117 + 40 * d }
def uX0_weigh (d : Nat) : jM := (cX0_weigh, 6, RX0, (some .int), rX0_weigh d)
def pX0_weighb (fu : Nat) (F : Int32 → Int32 → Int32 → Mem → Res) (x1 : Int32) (x2 : Int32) (x3 : Int32) (M : Mem) : Res :=
  if x2 < 0 then (
    some ((0 : Int32), M))
  else
  if (9 : Int32) ≤ x2 then (
    some ((0 : Int32), M))
  else
  ldr 9 x2 fun q1 =>
  ldr 9 x2 fun q3 =>
  bI (pX4_carries fu (62 + 1 + 2 * q3) x1 M) fun r6 M5 =>
  if r6 = 0 then (
    some ((0 : Int32), M5))
  else
  ldr 9 x2 fun q7 =>
  bI (pX4_is fu (62 + 1 + 2 * q7) x1 (2 : Int32) M5) fun r10 M9 =>
  if r10 = 0 then (
    if x2 = 0 then (
      some ((0 : Int32), M9))
    else
    ldr 9 (x2 - (1 : Int32)) fun q11 =>
    ldr 9 (x2 - (1 : Int32)) fun q13 =>
    ldr 9 x2 fun q15 =>
    bV (pX4_copy fu (62 + 1 + 2 * q13) (62 + 1 + 2 * q15) M9) fun M17 =>
    ldr 9 (x2 - (1 : Int32)) fun q18 =>
    bV (pX4_goOn fu (62 + 1 + 2 * q18) (-4 : Int32) M17) fun M20 =>
    bI (F  x1 (x2 - (1 : Int32)) x3 M20) fun r22 M21 =>
    ldr 9 (x2 - (1 : Int32)) fun q23 =>
    ldr 9 x2 fun q25 =>
    bV (pX4_copy fu (62 + 1 + 2 * q23) (62 + 1 + 2 * q25) M21) fun M27 =>
    ldr 9 (x2 - (1 : Int32)) fun q28 =>
    bV (pX4_goOn fu (62 + 1 + 2 * q28) x1 M27) fun M30 =>
    bI (F  x1 (x2 - (1 : Int32)) x3 M30) fun r32 M31 =>
    some (((((10 : Int32) - x3) * r22) + (x3 * r32)), M31))
  else
  bI (pX0_power fu x2 M9) fun r34 M33 =>
  some (r34, M33)
set_option maxRecDepth 100000 in
theorem wX0_weighb {E : jE} {X : jC} {d : Nat} (hX : jOk X (uX0_weigh (d + 1)) (gX E)) (fu : Nat) (F : Int32 → Int32 → Int32 → Mem → Res) (hF : ∀ (x1 : Int32) (x2 : Int32) (x3 : Int32) (M : Mem), jMet X.2.1 (gX E) yX0_weigh cX0_weigh 6 (some .int) (rX0_weigh d) [.ref (gad (gX E) 61), .int x1, .int x2, .int x3] M (F x1 x2 x3 M))  (x1 : Int32) (x2 : Int32) (x3 : Int32) (M : Mem) : J X (uX0_weigh (d + 1)) (gX E) 0 [(0, .ref (gad (gX E) 61)), (1, .int x1), (2, .int x2), (3, .int x3)] [] M (pX0_weighb fu F  x1 x2 x3 M) := by
  unfold pX0_weighb
  refine j_iload_n (pc := 0) hX 2 dX0_weigh_0 rfl rfl ?_
  refine j_if_lt (pc := 1) hX 35 dX0_weigh_1 (by decide) ?_ ?_
  · refine j_iconst (pc := 35) (v := (0 : Int32)) hX dX0_weigh_35 ci_0 ?_
    exact j_iret (pc := 36) hX rfl dX0_weigh_36
  · refine j_iload_n (pc := 4) hX 2 dX0_weigh_4 rfl rfl ?_
    refine j_aload_n (pc := 5) hX 0 dX0_weigh_5 rfl rfl ?_
    refine j_getR (pc := 6) (t := 62) hX (jb rfl) rfl (ci := 0) (C := RX0) (T := TX0) (N := 1) rfl (jb rfl) inX0 (j := 0) (jb rfl) rfl tw_236 dX0_weigh_6 ?_
    refine j_alenR (pc := 9) (n := 9) (v := (9 : Int32)) hX (jb rfl) rfl rfl (by decide) dX0_weigh_9 ?_
    refine j_icmp_ge (pc := 10) hX 35 dX0_weigh_10 (by decide) ?_ ?_
    · refine j_iconst (pc := 35) (v := (0 : Int32)) hX dX0_weigh_35 ci_0 ?_
      exact j_iret (pc := 36) hX rfl dX0_weigh_36
    · refine j_aload_n (pc := 13) hX 0 dX0_weigh_13 rfl rfl ?_
      refine j_getR (pc := 14) (t := 62) hX (jb rfl) rfl (ci := 0) (C := RX0) (T := TX0) (N := 1) rfl (jb rfl) inX0 (j := 0) (jb rfl) rfl tw_236 dX0_weigh_14 ?_
      refine j_iload_n (pc := 17) hX 2 dX0_weigh_17 rfl rfl ?_
      refine j_aald (pc := 18) hX (jb rfl) rfl rfl dX0_weigh_18 (fun q1 hq2 => ?_)
      refine j_ifnull (pc := 19) hX dX0_weigh_19 ?_
      refine j_aload_n (pc := 22) hX 0 dX0_weigh_22 rfl rfl ?_
      refine j_getR (pc := 23) (t := 62) hX (jb rfl) rfl (ci := 0) (C := RX0) (T := TX0) (N := 1) rfl (jb rfl) inX0 (j := 0) (jb rfl) rfl tw_236 dX0_weigh_23 ?_
      refine j_iload_n (pc := 26) hX 2 dX0_weigh_26 rfl rfl ?_
      refine j_aald (pc := 27) hX (jb rfl) rfl rfl dX0_weigh_27 (fun q3 hq4 => ?_)
      refine j_iload_n (pc := 28) hX 1 dX0_weigh_28 rfl rfl ?_
      refine j_callV (pc := 29) hX [.int x1] (mX4_carries _ E hX.2.2.2.2.2.2.2.2.1 fu (62 + 1 + 2 * q3) (he (a := 62) rfl hq4) x1 M) qX4_carries tw_824 (hh (he (a := 62) rfl hq4)).1 (he (a := 62) rfl hq4) (ci := 4) (T := TX4) (N := 2) rfl (jb rfl) rfl ⟨rfl, rfl⟩ ⟨(by simp only [uX0_weigh, rX0_weigh, rX4_carries]; omega), (by simp only [uX0_weigh, rX0_weigh, rX4_carries]; omega)⟩ (Nat.le_of_ble_eq_true rfl) dX0_weigh_29 (fun _ => rfl) rfl (fun r6 M5 => ?_)
      refine j_if_ne (pc := 32) hX 37 dX0_weigh_32 (by decide) ?_ ?_
      · refine j_aload_n (pc := 37) hX 0 dX0_weigh_37 rfl rfl ?_
        refine j_getR (pc := 38) (t := 62) hX (jb rfl) rfl (ci := 0) (C := RX0) (T := TX0) (N := 1) rfl (jb rfl) inX0 (j := 0) (jb rfl) rfl tw_236 dX0_weigh_38 ?_
        refine j_iload_n (pc := 41) hX 2 dX0_weigh_41 rfl rfl ?_
        refine j_aald (pc := 42) hX (jb rfl) rfl rfl dX0_weigh_42 (fun q7 hq8 => ?_)
        refine j_iload_n (pc := 43) hX 1 dX0_weigh_43 rfl rfl ?_
        refine j_iconst (pc := 44) (v := (2 : Int32)) hX dX0_weigh_44 ci_2 ?_
        refine j_callV (pc := 45) hX [.int x1, .int (2 : Int32)] (mX4_is _ E hX.2.2.2.2.2.2.2.2.1 fu (62 + 1 + 2 * q7) (he (a := 62) rfl hq8) x1 (2 : Int32) M5) qX4_is tw_825 (hh (he (a := 62) rfl hq8)).1 (he (a := 62) rfl hq8) (ci := 4) (T := TX4) (N := 2) rfl (jb rfl) rfl ⟨rfl, rfl⟩ ⟨(by simp only [uX0_weigh, rX0_weigh, rX4_is]; omega), (by simp only [uX0_weigh, rX0_weigh, rX4_is]; omega)⟩ (Nat.le_of_ble_eq_true rfl) dX0_weigh_45 (fun _ => rfl) rfl (fun r10 M9 => ?_)
        refine j_if_eq (pc := 48) hX 56 dX0_weigh_48 (by decide) ?_ ?_
        · refine j_iload_n (pc := 56) hX 2 dX0_weigh_56 rfl rfl ?_
          refine j_if_eq (pc := 57) hX 71 dX0_weigh_57 (by decide) ?_ ?_
          · refine j_iconst (pc := 71) (v := (0 : Int32)) hX dX0_weigh_71 ci_0 ?_
            exact j_iret (pc := 72) hX rfl dX0_weigh_72
          · refine j_aload_n (pc := 60) hX 0 dX0_weigh_60 rfl rfl ?_
            refine j_getR (pc := 61) (t := 62) hX (jb rfl) rfl (ci := 0) (C := RX0) (T := TX0) (N := 1) rfl (jb rfl) inX0 (j := 0) (jb rfl) rfl tw_236 dX0_weigh_61 ?_
            refine j_iload_n (pc := 64) hX 2 dX0_weigh_64 rfl rfl ?_
            refine j_iconst (pc := 65) (v := (1 : Int32)) hX dX0_weigh_65 ci_1 ?_
            refine j_isub (pc := 66) hX dX0_weigh_66 ?_
            refine j_aald (pc := 67) hX (jb rfl) rfl rfl dX0_weigh_67 (fun q11 hq12 => ?_)
            refine j_ifnonnull (pc := 68) hX 73 dX0_weigh_68 (by decide) ?_
            refine j_aload_n (pc := 73) hX 0 dX0_weigh_73 rfl rfl ?_
            refine j_getR (pc := 74) (t := 62) hX (jb rfl) rfl (ci := 0) (C := RX0) (T := TX0) (N := 1) rfl (jb rfl) inX0 (j := 0) (jb rfl) rfl tw_236 dX0_weigh_74 ?_
            refine j_iload_n (pc := 77) hX 2 dX0_weigh_77 rfl rfl ?_
            refine j_iconst (pc := 78) (v := (1 : Int32)) hX dX0_weigh_78 ci_1 ?_
            refine j_isub (pc := 79) hX dX0_weigh_79 ?_
            refine j_aald (pc := 80) hX (jb rfl) rfl rfl dX0_weigh_80 (fun q13 hq14 => ?_)
            refine j_aload_n (pc := 81) hX 0 dX0_weigh_81 rfl rfl ?_
            refine j_getR (pc := 82) (t := 62) hX (jb rfl) rfl (ci := 0) (C := RX0) (T := TX0) (N := 1) rfl (jb rfl) inX0 (j := 0) (jb rfl) rfl tw_236 dX0_weigh_82 ?_
            refine j_iload_n (pc := 85) hX 2 dX0_weigh_85 rfl rfl ?_
            refine j_aald (pc := 86) hX (jb rfl) rfl rfl dX0_weigh_86 (fun q15 hq16 => ?_)
            refine j_callVv (pc := 87) hX [.ref (gad (gX E) (62 + 1 + 2 * q15))] (mX4_copy _ E hX.2.2.2.2.2.2.2.2.1 fu (62 + 1 + 2 * q13) (62 + 1 + 2 * q15) (he (a := 62) rfl hq14) (he (a := 62) rfl hq16)  M9) qX4_copy tw_819 (hh (he (a := 62) rfl hq14)).1 (he (a := 62) rfl hq14) (ci := 4) (T := TX4) (N := 2) rfl (jb rfl) rfl ⟨rfl, rfl⟩ ⟨(by simp only [uX0_weigh, rX0_weigh, rX4_copy]; omega), (by simp only [uX0_weigh, rX0_weigh, rX4_copy]; omega)⟩ (Nat.le_of_ble_eq_true rfl) dX0_weigh_87 rfl (fun M17 => ?_)
            refine j_aload_n (pc := 90) hX 0 dX0_weigh_90 rfl rfl ?_
            refine j_getR (pc := 91) (t := 62) hX (jb rfl) rfl (ci := 0) (C := RX0) (T := TX0) (N := 1) rfl (jb rfl) inX0 (j := 0) (jb rfl) rfl tw_236 dX0_weigh_91 ?_
            refine j_iload_n (pc := 94) hX 2 dX0_weigh_94 rfl rfl ?_
            refine j_iconst (pc := 95) (v := (1 : Int32)) hX dX0_weigh_95 ci_1 ?_
            refine j_isub (pc := 96) hX dX0_weigh_96 ?_
            refine j_aald (pc := 97) hX (jb rfl) rfl rfl dX0_weigh_97 (fun q18 hq19 => ?_)
            refine j_bipush (pc := 98) (v := (-4 : Int32)) hX dX0_weigh_98 cb_m4 ?_
            refine j_callVv (pc := 100) hX [.int (-4 : Int32)] (mX4_goOn _ E hX.2.2.2.2.2.2.2.2.1 fu (62 + 1 + 2 * q18) (he (a := 62) rfl hq19) (-4 : Int32) M17) qX4_goOn tw_829 (hh (he (a := 62) rfl hq19)).1 (he (a := 62) rfl hq19) (ci := 4) (T := TX4) (N := 2) rfl (jb rfl) rfl ⟨rfl, rfl⟩ ⟨(by simp only [uX0_weigh, rX0_weigh, rX4_goOn]; omega), (by simp only [uX0_weigh, rX0_weigh, rX4_goOn]; omega)⟩ (Nat.le_of_ble_eq_true rfl) dX0_weigh_100 rfl (fun M20 => ?_)
            refine j_aload_n (pc := 103) hX 0 dX0_weigh_103 rfl rfl ?_
            refine j_iload_n (pc := 104) hX 1 dX0_weigh_104 rfl rfl ?_
            refine j_iload_n (pc := 105) hX 2 dX0_weigh_105 rfl rfl ?_
            refine j_iconst (pc := 106) (v := (1 : Int32)) hX dX0_weigh_106 ci_1 ?_
            refine j_isub (pc := 107) hX dX0_weigh_107 ?_
            refine j_iload_n (pc := 108) hX 3 dX0_weigh_108 rfl rfl ?_
            refine j_callV (pc := 109) hX [.int x1, .int (x2 - (1 : Int32)), .int x3] (hF x1 (x2 - (1 : Int32)) x3 M20) qX0_weigh tw_820 (jb rfl) rfl (ci := 0) (T := TX0) (N := 1) rfl (jb rfl) rfl ⟨rfl, rfl⟩ ⟨(by simp only [uX0_weigh, rX0_weigh, rX0_weigh]; omega), (by simp only [uX0_weigh, rX0_weigh, rX0_weigh]; omega)⟩ (Nat.le_of_ble_eq_true rfl) dX0_weigh_109 (fun _ => rfl) rfl (fun r22 M21 => ?_)
            refine j_istore (pc := 112) (lv' := [(4, .int r22), (0, .ref (gad (gX E) 61)), (1, .int x1), (2, .int x2), (3, .int x3)]) hX dX0_weigh_112 (jb rfl) rfl ?_
            refine j_aload_n (pc := 114) hX 1 dX0_weigh_114 rfl rfl ?_
            refine j_getR (pc := 115) (t := 62) hX (jb rfl) rfl (ci := 0) (C := RX0) (T := TX0) (N := 1) rfl (jb rfl) inX0 (j := 0) (jb rfl) rfl tw_236 dX0_weigh_115 ?_
            refine j_iload_n (pc := 118) hX 3 dX0_weigh_118 rfl rfl ?_
            refine j_iconst (pc := 119) (v := (1 : Int32)) hX dX0_weigh_119 ci_1 ?_
            refine j_isub (pc := 120) hX dX0_weigh_120 ?_
            refine j_aald (pc := 121) hX (jb rfl) rfl rfl dX0_weigh_121 (fun q23 hq24 => ?_)
            refine j_aload_n (pc := 122) hX 1 dX0_weigh_122 rfl rfl ?_
            refine j_getR (pc := 123) (t := 62) hX (jb rfl) rfl (ci := 0) (C := RX0) (T := TX0) (N := 1) rfl (jb rfl) inX0 (j := 0) (jb rfl) rfl tw_236 dX0_weigh_123 ?_
            refine j_iload_n (pc := 126) hX 3 dX0_weigh_126 rfl rfl ?_
            refine j_aald (pc := 127) hX (jb rfl) rfl rfl dX0_weigh_127 (fun q25 hq26 => ?_)
            refine j_callVv (pc := 128) hX [.ref (gad (gX E) (62 + 1 + 2 * q25))] (mX4_copy _ E hX.2.2.2.2.2.2.2.2.1 fu (62 + 1 + 2 * q23) (62 + 1 + 2 * q25) (he (a := 62) rfl hq24) (he (a := 62) rfl hq26)  M21) qX4_copy tw_819 (hh (he (a := 62) rfl hq24)).1 (he (a := 62) rfl hq24) (ci := 4) (T := TX4) (N := 2) rfl (jb rfl) rfl ⟨rfl, rfl⟩ ⟨(by simp only [uX0_weigh, rX0_weigh, rX4_copy]; omega), (by simp only [uX0_weigh, rX0_weigh, rX4_copy]; omega)⟩ (Nat.le_of_ble_eq_true rfl) dX0_weigh_128 rfl (fun M27 => ?_)
            refine j_aload_n (pc := 131) hX 1 dX0_weigh_131 rfl rfl ?_
            refine j_getR (pc := 132) (t := 62) hX (jb rfl) rfl (ci := 0) (C := RX0) (T := TX0) (N := 1) rfl (jb rfl) inX0 (j := 0) (jb rfl) rfl tw_236 dX0_weigh_132 ?_
            refine j_iload_n (pc := 135) hX 3 dX0_weigh_135 rfl rfl ?_
            refine j_iconst (pc := 136) (v := (1 : Int32)) hX dX0_weigh_136 ci_1 ?_
            refine j_isub (pc := 137) hX dX0_weigh_137 ?_
            refine j_aald (pc := 138) hX (jb rfl) rfl rfl dX0_weigh_138 (fun q28 hq29 => ?_)
            refine j_iload_n (pc := 139) hX 2 dX0_weigh_139 rfl rfl ?_
            refine j_callVv (pc := 140) hX [.int x1] (mX4_goOn _ E hX.2.2.2.2.2.2.2.2.1 fu (62 + 1 + 2 * q28) (he (a := 62) rfl hq29) x1 M27) qX4_goOn tw_829 (hh (he (a := 62) rfl hq29)).1 (he (a := 62) rfl hq29) (ci := 4) (T := TX4) (N := 2) rfl (jb rfl) rfl ⟨rfl, rfl⟩ ⟨(by simp only [uX0_weigh, rX0_weigh, rX4_goOn]; omega), (by simp only [uX0_weigh, rX0_weigh, rX4_goOn]; omega)⟩ (Nat.le_of_ble_eq_true rfl) dX0_weigh_140 rfl (fun M30 => ?_)
            refine j_aload_n (pc := 143) hX 1 dX0_weigh_143 rfl rfl ?_
            refine j_iload_n (pc := 144) hX 2 dX0_weigh_144 rfl rfl ?_
            refine j_iload_n (pc := 145) hX 3 dX0_weigh_145 rfl rfl ?_
            refine j_iconst (pc := 146) (v := (1 : Int32)) hX dX0_weigh_146 ci_1 ?_
            refine j_isub (pc := 147) hX dX0_weigh_147 ?_
            refine j_iload_n (pc := 148) hX 4 dX0_weigh_148 rfl rfl ?_
            refine j_callV (pc := 149) hX [.int x1, .int (x2 - (1 : Int32)), .int x3] (hF x1 (x2 - (1 : Int32)) x3 M30) qX0_weigh tw_820 (jb rfl) rfl (ci := 0) (T := TX0) (N := 1) rfl (jb rfl) rfl ⟨rfl, rfl⟩ ⟨(by simp only [uX0_weigh, rX0_weigh, rX0_weigh]; omega), (by simp only [uX0_weigh, rX0_weigh, rX0_weigh]; omega)⟩ (Nat.le_of_ble_eq_true rfl) dX0_weigh_149 (fun _ => rfl) rfl (fun r32 M31 => ?_)
            refine j_istore (pc := 152) (lv' := [(5, .int r32), (4, .int r22), (0, .ref (gad (gX E) 61)), (1, .int x1), (2, .int x2), (3, .int x3)]) hX dX0_weigh_152 (jb rfl) rfl ?_
            refine j_bipush (pc := 154) (v := (10 : Int32)) hX dX0_weigh_154 cb_10 ?_
            refine j_iload_n (pc := 156) hX 5 dX0_weigh_156 rfl rfl ?_
            refine j_isub (pc := 157) hX dX0_weigh_157 ?_
            refine j_iload (pc := 158) hX 1 dX0_weigh_158 rfl ?_
            refine j_imul (pc := 160) hX dX0_weigh_160 ?_
            refine j_iload_n (pc := 161) hX 5 dX0_weigh_161 rfl rfl ?_
            refine j_iload (pc := 162) hX 0 dX0_weigh_162 rfl ?_
            refine j_imul (pc := 164) hX dX0_weigh_164 ?_
            refine j_iadd (pc := 165) hX dX0_weigh_165 ?_
            exact j_iret (pc := 166) hX rfl dX0_weigh_166
        · refine j_iload_n (pc := 51) hX 2 dX0_weigh_51 rfl rfl ?_
          refine j_callS (pc := 52) hX [.int x2] (mX0_power _ E hX.2.2.2.2.2.2.2.2.1 fu   x2 M9) qX0_power tw_826 rfl ⟨rfl, rfl⟩ ⟨(by simp only [uX0_weigh, rX0_weigh, rX0_power]; omega), (by simp only [uX0_weigh, rX0_weigh, rX0_power]; omega)⟩ (Nat.le_of_ble_eq_true rfl) dX0_weigh_52 (fun _ => rfl) rfl (fun r34 M33 => ?_)
          exact j_iret (pc := 55) hX rfl dX0_weigh_55
      · refine j_iconst (pc := 35) (v := (0 : Int32)) hX dX0_weigh_35 ci_0 ?_
        exact j_iret (pc := 36) hX rfl dX0_weigh_36
def pX0_weigh (fu : Nat) : Nat → Int32 → Int32 → Int32 → Mem → Res
  | 0, _, _, _, _ => none
  | d + 1, x1, x2, x3, M => pX0_weighb fu (pX0_weigh fu d) x1 x2 x3 M
theorem mX0_weigh (l : Launch) (E : jE) (hI : jInj (gX E)) (fu : Nat) : ∀ (d : Nat) (x1 : Int32) (x2 : Int32) (x3 : Int32) (M : Mem), jMet l (gX E) yX0_weigh cX0_weigh 6 (some .int) (rX0_weigh d) [.ref (gad (gX E) 61), .int x1, .int x2, .int x3] M (pX0_weigh fu d x1 x2 x3 M) := by
  intro d
  induction d with
  | zero => intro x1 x2 x3 M r M2 h; cases h
  | succ d ih => intro x1 x2 x3 M; exact j_entry hI (by decide +kernel) (Nat.le_of_ble_eq_true rfl) rfl (fun X hl hX => wX0_weighb (d := d) hX fu (pX0_weigh fu d) (by rw [hl]; exact ih) x1 x2 x3 M)
theorem qX0_weightOf : jYv yX0_weightOf cX0_weightOf 5 (some .int) 4 := ⟨tw_816, tw_817, tw_65, tw_818, ⟨by decide +kernel, by decide +kernel, by decide +kernel⟩⟩
abbrev rX0_weightOf : Room := { frames := 16, cells := 0, slots := 0, locals := 542 }
def uX0_weightOf : jM := (cX0_weightOf, 5, RX0, (some .int), rX0_weightOf)
def pX0_weightOf (fu : Nat) (k0 : Nat) (x2 : Int32) (x3 : Int32) (x4 : Int32) (M : Mem) : Res :=
  if x3 < 0 then (
    some ((0 : Int32), M))
  else
  if (9 : Int32) ≤ x3 then (
    some ((0 : Int32), M))
  else
  ldr 9 x3 fun q1 =>
  ldr 9 x3 fun q3 =>
  bV (pX4_copy fu (62 + 1 + 2 * q3) k0 M) fun M5 =>
  bI (pX0_weigh fu 10 x2 x3 x4 M5) fun r7 M6 =>
  some (r7, M6)
set_option maxRecDepth 100000 in
theorem wX0_weightOf {E : jE} {X : jC} (hX : jOk X uX0_weightOf (gX E)) (fu : Nat) (k0 : Nat) (hk0 : tX k0 = 4) (x2 : Int32) (x3 : Int32) (x4 : Int32) (M : Mem) : J X uX0_weightOf (gX E) 0 [(0, .ref (gad (gX E) 61)), (1, .ref (gad (gX E) k0)), (2, .int x2), (3, .int x3), (4, .int x4)] [] M (pX0_weightOf fu k0 x2 x3 x4 M) := by
  unfold pX0_weightOf
  refine j_iload_n (pc := 0) hX 3 dX0_weightOf_0 rfl rfl ?_
  refine j_if_lt (pc := 1) hX 22 dX0_weightOf_1 (by decide) ?_ ?_
  · refine j_iconst (pc := 22) (v := (0 : Int32)) hX dX0_weightOf_22 ci_0 ?_
    exact j_iret (pc := 23) hX rfl dX0_weightOf_23
  · refine j_iload_n (pc := 4) hX 3 dX0_weightOf_4 rfl rfl ?_
    refine j_aload_n (pc := 5) hX 0 dX0_weightOf_5 rfl rfl ?_
    refine j_getR (pc := 6) (t := 62) hX (jb rfl) rfl (ci := 0) (C := RX0) (T := TX0) (N := 1) rfl (jb rfl) inX0 (j := 0) (jb rfl) rfl tw_236 dX0_weightOf_6 ?_
    refine j_alenR (pc := 9) (n := 9) (v := (9 : Int32)) hX (jb rfl) rfl rfl (by decide) dX0_weightOf_9 ?_
    refine j_icmp_ge (pc := 10) hX 22 dX0_weightOf_10 (by decide) ?_ ?_
    · refine j_iconst (pc := 22) (v := (0 : Int32)) hX dX0_weightOf_22 ci_0 ?_
      exact j_iret (pc := 23) hX rfl dX0_weightOf_23
    · refine j_aload_n (pc := 13) hX 0 dX0_weightOf_13 rfl rfl ?_
      refine j_getR (pc := 14) (t := 62) hX (jb rfl) rfl (ci := 0) (C := RX0) (T := TX0) (N := 1) rfl (jb rfl) inX0 (j := 0) (jb rfl) rfl tw_236 dX0_weightOf_14 ?_
      refine j_iload_n (pc := 17) hX 3 dX0_weightOf_17 rfl rfl ?_
      refine j_aald (pc := 18) hX (jb rfl) rfl rfl dX0_weightOf_18 (fun q1 hq2 => ?_)
      refine j_ifnonnull (pc := 19) hX 24 dX0_weightOf_19 (by decide) ?_
      refine j_aload_n (pc := 24) hX 0 dX0_weightOf_24 rfl rfl ?_
      refine j_getR (pc := 25) (t := 62) hX (jb rfl) rfl (ci := 0) (C := RX0) (T := TX0) (N := 1) rfl (jb rfl) inX0 (j := 0) (jb rfl) rfl tw_236 dX0_weightOf_25 ?_
      refine j_iload_n (pc := 28) hX 3 dX0_weightOf_28 rfl rfl ?_
      refine j_aald (pc := 29) hX (jb rfl) rfl rfl dX0_weightOf_29 (fun q3 hq4 => ?_)
      refine j_aload_n (pc := 30) hX 1 dX0_weightOf_30 rfl rfl ?_
      refine j_callVv (pc := 31) hX [.ref (gad (gX E) k0)] (mX4_copy _ E hX.2.2.2.2.2.2.2.2.1 fu (62 + 1 + 2 * q3) k0 (he (a := 62) rfl hq4) hk0  M) qX4_copy tw_819 (hh (he (a := 62) rfl hq4)).1 (he (a := 62) rfl hq4) (ci := 4) (T := TX4) (N := 2) rfl (jb rfl) rfl ⟨rfl, rfl⟩ ⟨(Nat.le_of_ble_eq_true rfl), (Nat.le_of_ble_eq_true rfl)⟩ (Nat.le_of_ble_eq_true rfl) dX0_weightOf_31 rfl (fun M5 => ?_)
      refine j_aload_n (pc := 34) hX 0 dX0_weightOf_34 rfl rfl ?_
      refine j_iload_n (pc := 35) hX 2 dX0_weightOf_35 rfl rfl ?_
      refine j_iload_n (pc := 36) hX 3 dX0_weightOf_36 rfl rfl ?_
      refine j_iload (pc := 37) hX 4 dX0_weightOf_37 rfl ?_
      refine j_callV (pc := 39) hX [.int x2, .int x3, .int x4] (mX0_weigh _ E hX.2.2.2.2.2.2.2.2.1 fu 10   x2 x3 x4 M5) qX0_weigh tw_820 (jb rfl) rfl (ci := 0) (T := TX0) (N := 1) rfl (jb rfl) rfl ⟨rfl, rfl⟩ ⟨(Nat.le_of_ble_eq_true rfl), (Nat.le_of_ble_eq_true rfl)⟩ (Nat.le_of_ble_eq_true rfl) dX0_weightOf_39 (fun _ => rfl) rfl (fun r7 M6 => ?_)
      exact j_iret (pc := 42) hX rfl dX0_weightOf_42
theorem mX0_weightOf (l : Launch) (E : jE) (hI : jInj (gX E)) (fu : Nat) (k0 : Nat) (hk0 : tX k0 = 4) (x2 : Int32) (x3 : Int32) (x4 : Int32) (M : Mem) : jMet l (gX E) yX0_weightOf cX0_weightOf 5 (some .int) rX0_weightOf [.ref (gad (gX E) 61), .ref (gad (gX E) k0), .int x2, .int x3, .int x4] M (pX0_weightOf fu k0 x2 x3 x4 M) :=
  j_entry hI (by decide +kernel) (Nat.le_of_ble_eq_true rfl) rfl (fun X _ hX => wX0_weightOf hX fu k0 hk0 x2 x3 x4 M)
theorem qX0_commonDivisor : jYs yX0_commonDivisor cX0_commonDivisor 6 (some .int) 2 := ⟨tw_832, tw_65, tw_833, ⟨by decide +kernel, by decide +kernel, by decide +kernel⟩⟩
abbrev rX0_commonDivisor : Room := { frames := 0, cells := 0, slots := 0, locals := 0 }
def uX0_commonDivisor : jM := (cX0_commonDivisor, 6, RX0, (some .int), rX0_commonDivisor)
def pX0_commonDivisor_7b (fu : Nat) (x2 : Int32) (x3 : Int32) (x4 : Int32) (M : Mem) (c7 : Int32 → Int32 → Int32 → Mem → Res) : Res :=
  if (100 : Int32) ≤ x4 then (
    some (x2, M))
  else
  if x3 = 0 then (
    some (x2, M))
  else
  if x3 = 0 then none else
  c7 x3 (irm x2 x3) (x4 + (1 : Int32)) M
set_option maxRecDepth 100000 in
theorem wX0_commonDivisor_7b {E : jE} {X : jC} (hX : jOk X uX0_commonDivisor (gX E)) (fu : Nat)  (x2 : Int32) (x3 : Int32) (x4 : Int32) (M : Mem) (c7 : Int32 → Int32 → Int32 → Mem → Res) (hc7 : ∀ (x2 : Int32) (x3 : Int32) (x4 : Int32) (M : Mem), J X uX0_commonDivisor (gX E) 7 [(2, .int x2), (3, .int x3), (4, .int x4)] [] M (c7 x2 x3 x4 M)) : J X uX0_commonDivisor (gX E) 7 [(2, .int x2), (3, .int x3), (4, .int x4)] [] M (pX0_commonDivisor_7b fu  x2 x3 x4 M c7) := by
  unfold pX0_commonDivisor_7b
  refine j_iload (pc := 7) hX 2 dX0_commonDivisor_7 rfl ?_
  refine j_bipush (pc := 9) (v := (100 : Int32)) hX dX0_commonDivisor_9 cb_100 ?_
  refine j_icmp_ge (pc := 11) hX 34 dX0_commonDivisor_11 (by decide) ?_ ?_
  · refine j_iload_n (pc := 34) hX 0 dX0_commonDivisor_34 rfl rfl ?_
    exact j_iret (pc := 35) hX rfl dX0_commonDivisor_35
  · refine j_iload_n (pc := 14) hX 1 dX0_commonDivisor_14 rfl rfl ?_
    refine j_if_eq (pc := 15) hX 34 dX0_commonDivisor_15 (by decide) ?_ ?_
    · refine j_iload_n (pc := 34) hX 0 dX0_commonDivisor_34 rfl rfl ?_
      exact j_iret (pc := 35) hX rfl dX0_commonDivisor_35
    · refine j_iload_n (pc := 18) hX 0 dX0_commonDivisor_18 rfl rfl ?_
      refine j_iload_n (pc := 19) hX 1 dX0_commonDivisor_19 rfl rfl ?_
      refine j_irem (pc := 20) hX dX0_commonDivisor_20 ?_
      refine j_istore (pc := 21) (lv' := [(5, .int (irm x2 x3)), (2, .int x2), (3, .int x3), (4, .int x4)]) hX dX0_commonDivisor_21 (jb rfl) rfl ?_
      refine j_iload_n (pc := 23) hX 2 dX0_commonDivisor_23 rfl rfl ?_
      refine j_istore_n (pc := 24) (lv' := [(2, .int x3), (5, .int (irm x2 x3)), (3, .int x3), (4, .int x4)]) hX dX0_commonDivisor_24 rfl (jb rfl) rfl ?_
      refine j_iload (pc := 25) hX 1 dX0_commonDivisor_25 rfl ?_
      refine j_istore_n (pc := 27) (lv' := [(3, .int (irm x2 x3)), (2, .int x3), (5, .int (irm x2 x3)), (4, .int x4)]) hX dX0_commonDivisor_27 rfl (jb rfl) rfl ?_
      refine j_iinc (pc := 28) (v := (x4 + (1 : Int32))) (lv' := [(4, .int (x4 + (1 : Int32))), (3, .int (irm x2 x3)), (2, .int x3), (5, .int (irm x2 x3))]) hX 3 dX0_commonDivisor_28 rfl (by rw [ci_1]) (jb rfl) rfl ?_
      refine j_goto (pc := 31) hX 7 dX0_commonDivisor_31 (by decide) ?_
      exact j_sub [2, 1, 0] rfl (hc7 x3 (irm x2 x3) (x4 + (1 : Int32)) M)
def pX0_commonDivisor_7 (fu : Nat)  : Nat → Int32 → Int32 → Int32 → Mem → Res
  | 0, _, _, _, _ => none
  | n + 1, x2, x3, x4, M => pX0_commonDivisor_7b fu  x2 x3 x4 M (pX0_commonDivisor_7 fu   n)
theorem wX0_commonDivisor_7 {E : jE} {X : jC} (hX : jOk X uX0_commonDivisor (gX E)) (fu : Nat)    : ∀ (n : Nat) (x2 : Int32) (x3 : Int32) (x4 : Int32) (M : Mem), J X uX0_commonDivisor (gX E) 7 [(2, .int x2), (3, .int x3), (4, .int x4)] [] M (pX0_commonDivisor_7 fu   n x2 x3 x4 M) := by
  intro n
  induction n with
  | zero => intro x2 x3 x4 M; exact j_none
  | succ n ih => intro x2 x3 x4 M; exact wX0_commonDivisor_7b hX fu   x2 x3 x4 M (pX0_commonDivisor_7 fu   n) ih
def pX0_commonDivisor (fu : Nat) (x0 : Int32) (x1 : Int32) (M : Mem) : Res :=
  pX0_commonDivisor_7 fu
    fu x0 x1 (0 : Int32) M
set_option maxRecDepth 100000 in
theorem wX0_commonDivisor {E : jE} {X : jC} (hX : jOk X uX0_commonDivisor (gX E)) (fu : Nat)  (x0 : Int32) (x1 : Int32) (M : Mem) : J X uX0_commonDivisor (gX E) 0 [(0, .int x0), (1, .int x1)] [] M (pX0_commonDivisor fu  x0 x1 M) := by
  unfold pX0_commonDivisor
  refine j_iload_n (pc := 0) hX 0 dX0_commonDivisor_0 rfl rfl ?_
  refine j_istore_n (pc := 1) (lv' := [(2, .int x0), (0, .int x0), (1, .int x1)]) hX dX0_commonDivisor_1 rfl (jb rfl) rfl ?_
  refine j_iload_n (pc := 2) hX 2 dX0_commonDivisor_2 rfl rfl ?_
  refine j_istore_n (pc := 3) (lv' := [(3, .int x1), (2, .int x0), (0, .int x0), (1, .int x1)]) hX dX0_commonDivisor_3 rfl (jb rfl) rfl ?_
  refine j_iconst (pc := 4) (v := (0 : Int32)) hX dX0_commonDivisor_4 ci_0 ?_
  refine j_istore (pc := 5) (lv' := [(4, .int (0 : Int32)), (3, .int x1), (2, .int x0), (0, .int x0), (1, .int x1)]) hX dX0_commonDivisor_5 (jb rfl) rfl ?_
  refine j_sub [2, 1, 0] rfl (wX0_commonDivisor_7 hX fu     fu x0 x1 (0 : Int32) M)
theorem mX0_commonDivisor (l : Launch) (E : jE) (hI : jInj (gX E)) (fu : Nat)  (x0 : Int32) (x1 : Int32) (M : Mem) : jMet l (gX E) yX0_commonDivisor cX0_commonDivisor 6 (some .int) rX0_commonDivisor [.int x0, .int x1] M (pX0_commonDivisor fu  x0 x1 M) :=
  j_entry hI (by decide +kernel) (Nat.le_of_ble_eq_true rfl) rfl (fun X _ hX => wX0_commonDivisor hX fu   x0 x1 M)
theorem qX2_pick : jYv yX2_pick cX2_pick 5 none 1 := ⟨tw_735, tw_11, tw_64, tw_736, ⟨by decide +kernel, by decide +kernel, by decide +kernel⟩⟩
abbrev rX2_pick : Room := { frames := 1, cells := 0, slots := 0, locals := 22 }
def uX2_pick : jM := (cX2_pick, 5, RX2, none, rX2_pick)
def pX2_pick_21b (fu : Nat) (x2 : Int32) (x3 : Int32) (x4 : Int32) (M : Mem) (c21 : Int32 → Int32 → Int32 → Mem → Res) : Res :=
  if x4 < 0 then (
    some (0, M))
  else
  if x3 ≤ 0 then (
    some (0, M))
  else
  if x3 = 0 then none else
  bV (pX6_put fu 57 4 x4 (irm x2 x3) M) fun M5 =>
  if x3 = 0 then none else
  c21 (x2 / x3) x3 (x4 + (-1 : Int32)) M5
set_option maxRecDepth 100000 in
theorem wX2_pick_21b {E : jE} {X : jC} (hX : jOk X uX2_pick (gX E)) (fu : Nat)  (x2 : Int32) (x3 : Int32) (x4 : Int32) (M : Mem) (c21 : Int32 → Int32 → Int32 → Mem → Res) (hc21 : ∀ (x2 : Int32) (x3 : Int32) (x4 : Int32) (M : Mem), J X uX2_pick (gX E) 21 [(0, .ref (gad (gX E) 56)), (2, .int x2), (3, .int x3), (4, .int x4)] [] M (c21 x2 x3 x4 M)) : J X uX2_pick (gX E) 21 [(0, .ref (gad (gX E) 56)), (2, .int x2), (3, .int x3), (4, .int x4)] [] M (pX2_pick_21b fu  x2 x3 x4 M c21) := by
  unfold pX2_pick_21b
  refine j_iload (pc := 21) hX 3 dX2_pick_21 rfl ?_
  refine j_if_lt (pc := 23) hX 52 dX2_pick_23 (by decide) ?_ ?_
  · exact j_vret (pc := 52) hX rfl dX2_pick_52
  · refine j_iload_n (pc := 26) hX 2 dX2_pick_26 rfl rfl ?_
    refine j_if_le (pc := 27) hX 52 dX2_pick_27 (by decide) ?_ ?_
    · exact j_vret (pc := 52) hX rfl dX2_pick_52
    · refine j_aload_n (pc := 30) hX 0 dX2_pick_30 rfl rfl ?_
      refine j_getR (pc := 31) (t := 57) hX (jb rfl) rfl (ci := 2) (C := RX2) (T := TX2) (N := 4) rfl (jb rfl) inX2 (j := 2) (jb rfl) rfl tw_217 dX2_pick_31 ?_
      refine j_iload (pc := 34) hX 3 dX2_pick_34 rfl ?_
      refine j_iload_n (pc := 36) hX 1 dX2_pick_36 rfl rfl ?_
      refine j_iload_n (pc := 37) hX 2 dX2_pick_37 rfl rfl ?_
      refine j_irem (pc := 38) hX dX2_pick_38 ?_
      refine j_callSv (pc := 39) hX [.ref (gad (gX E) 57), .int x4, .int (irm x2 x3)] (mX6_put _ E hX.2.2.2.2.2.2.2.2.1 fu 57 4 rfl rfl x4 (irm x2 x3) M) qX6_put tw_737 rfl ⟨rfl, rfl⟩ ⟨(Nat.le_of_ble_eq_true rfl), (Nat.le_of_ble_eq_true rfl)⟩ (Nat.le_of_ble_eq_true rfl) dX2_pick_39 rfl (fun M5 => ?_)
      refine j_iload_n (pc := 42) hX 1 dX2_pick_42 rfl rfl ?_
      refine j_iload_n (pc := 43) hX 2 dX2_pick_43 rfl rfl ?_
      refine j_idiv (pc := 44) hX dX2_pick_44 ?_
      refine j_istore_n (pc := 45) (lv' := [(2, .int (x2 / x3)), (0, .ref (gad (gX E) 56)), (3, .int x3), (4, .int x4)]) hX dX2_pick_45 rfl (jb rfl) rfl ?_
      refine j_iinc (pc := 46) (v := (x4 + (-1 : Int32))) (lv' := [(4, .int (x4 + (-1 : Int32))), (2, .int (x2 / x3)), (0, .ref (gad (gX E) 56)), (3, .int x3)]) hX 3 dX2_pick_46 rfl (by rw [ci_m1]) (jb rfl) rfl ?_
      refine j_goto (pc := 49) hX 21 dX2_pick_49 (by decide) ?_
      exact j_sub [2, 1, 3, 0] rfl (hc21 (x2 / x3) x3 (x4 + (-1 : Int32)) M5)
def pX2_pick_21 (fu : Nat)  : Nat → Int32 → Int32 → Int32 → Mem → Res
  | 0, _, _, _, _ => none
  | n + 1, x2, x3, x4, M => pX2_pick_21b fu  x2 x3 x4 M (pX2_pick_21 fu   n)
theorem wX2_pick_21 {E : jE} {X : jC} (hX : jOk X uX2_pick (gX E)) (fu : Nat)    : ∀ (n : Nat) (x2 : Int32) (x3 : Int32) (x4 : Int32) (M : Mem), J X uX2_pick (gX E) 21 [(0, .ref (gad (gX E) 56)), (2, .int x2), (3, .int x3), (4, .int x4)] [] M (pX2_pick_21 fu   n x2 x3 x4 M) := by
  intro n
  induction n with
  | zero => intro x2 x3 x4 M; exact j_none
  | succ n ih => intro x2 x3 x4 M; exact wX2_pick_21b hX fu   x2 x3 x4 M (pX2_pick_21 fu   n) ih
def pX2_pick (fu : Nat) (x1 : Int32) (M : Mem) : Res :=
  bI (pX1_beasts fu 5 M) fun r2 M1 =>
  bI (pX1_doors fu 5 M1) fun r4 M3 =>
  pX2_pick_21 fu
    fu x1 r2 (r4 - (1 : Int32)) M3
set_option maxRecDepth 100000 in
theorem wX2_pick {E : jE} {X : jC} (hX : jOk X uX2_pick (gX E)) (fu : Nat)  (x1 : Int32) (M : Mem) : J X uX2_pick (gX E) 0 [(0, .ref (gad (gX E) 56)), (1, .int x1)] [] M (pX2_pick fu  x1 M) := by
  unfold pX2_pick
  refine j_iload_n (pc := 0) hX 1 dX2_pick_0 rfl rfl ?_
  refine j_istore_n (pc := 1) (lv' := [(2, .int x1), (0, .ref (gad (gX E) 56)), (1, .int x1)]) hX dX2_pick_1 rfl (jb rfl) rfl ?_
  refine j_aload_n (pc := 2) hX 1 dX2_pick_2 rfl rfl ?_
  refine j_getR (pc := 3) (t := 5) hX (jb rfl) rfl (ci := 2) (C := RX2) (T := TX2) (N := 4) rfl (jb rfl) inX2 (j := 0) (jb rfl) rfl tw_215 dX2_pick_3 ?_
  refine j_callV (pc := 6) hX [] (mX1_beasts _ E hX.2.2.2.2.2.2.2.2.1 fu 5 rfl  M) qX1_beasts tw_732 (jb rfl) rfl (ci := 1) (T := TX1) (N := 13) rfl (jb rfl) rfl ⟨rfl, rfl⟩ ⟨(Nat.le_of_ble_eq_true rfl), (Nat.le_of_ble_eq_true rfl)⟩ (Nat.le_of_ble_eq_true rfl) dX2_pick_6 (fun _ => rfl) rfl (fun r2 M1 => ?_)
  refine j_istore_n (pc := 9) (lv' := [(3, .int r2), (2, .int x1), (0, .ref (gad (gX E) 56)), (1, .int x1)]) hX dX2_pick_9 rfl (jb rfl) rfl ?_
  refine j_aload_n (pc := 10) hX 2 dX2_pick_10 rfl rfl ?_
  refine j_getR (pc := 11) (t := 5) hX (jb rfl) rfl (ci := 2) (C := RX2) (T := TX2) (N := 4) rfl (jb rfl) inX2 (j := 0) (jb rfl) rfl tw_215 dX2_pick_11 ?_
  refine j_callV (pc := 14) hX [] (mX1_doors _ E hX.2.2.2.2.2.2.2.2.1 fu 5 rfl  M1) qX1_doors tw_731 (jb rfl) rfl (ci := 1) (T := TX1) (N := 13) rfl (jb rfl) rfl ⟨rfl, rfl⟩ ⟨(Nat.le_of_ble_eq_true rfl), (Nat.le_of_ble_eq_true rfl)⟩ (Nat.le_of_ble_eq_true rfl) dX2_pick_14 (fun _ => rfl) rfl (fun r4 M3 => ?_)
  refine j_iconst (pc := 17) (v := (1 : Int32)) hX dX2_pick_17 ci_1 ?_
  refine j_isub (pc := 18) hX dX2_pick_18 ?_
  refine j_istore (pc := 19) (lv' := [(4, .int (r4 - (1 : Int32))), (3, .int r2), (2, .int x1), (0, .ref (gad (gX E) 56)), (1, .int x1)]) hX dX2_pick_19 (jb rfl) rfl ?_
  refine j_sub [3, 2, 1, 0] rfl (wX2_pick_21 hX fu     fu x1 r2 (r4 - (1 : Int32)) M3)
theorem mX2_pick (l : Launch) (E : jE) (hI : jInj (gX E)) (fu : Nat)  (x1 : Int32) (M : Mem) : jMet l (gX E) yX2_pick cX2_pick 5 none rX2_pick [.ref (gad (gX E) 56), .int x1] M (pX2_pick fu  x1 M) :=
  j_entry hI (by decide +kernel) (Nat.le_of_ble_eq_true rfl) rfl (fun X _ hX => wX2_pick hX fu   x1 M)
theorem qX2_sendHand : jYv yX2_sendHand cX2_sendHand 5 (some .boolean) 2 := ⟨tw_740, tw_12, tw_64, tw_741, ⟨by decide +kernel, by decide +kernel, by decide +kernel⟩⟩
abbrev rX2_sendHand : Room := { frames := 5, cells := 0, slots := 0, locals := 110 }
def uX2_sendHand : jM := (cX2_sendHand, 5, RX2, (some .boolean), rX2_sendHand)
def pX2_sendHand_10b (fu : Nat) (k0 : Nat) (x2 : Int32) (x3 : Int32) (M : Mem) (c10 : Int32 → Int32 → Mem → Res) : Res :=
  bI (pX1_doors fu 5 M) fun r3 M2 =>
  if r3 ≤ x3 then (
    rtz (1 : Int32) M2)
  else
  bI (pX6_at fu 57 4 x3 M2) fun r5 M4 =>
  bI (pX4_canBeSent fu 59 r5 x3 M4) fun r7 M6 =>
  if r7 = 0 then (
    rtz (0 : Int32) M6)
  else
  bV (pX4_dispatch fu 59 r5 x2 x3 M6) fun M8 =>
  bI (pX4_readOf fu 59 r5 M8) fun r10 M9 =>
  if x2 ≤ r10 then (
    c10 x2 (x3 + (1 : Int32)) M9)
  else
  rtz (0 : Int32) M9
set_option maxRecDepth 100000 in
theorem wX2_sendHand_10b {E : jE} {X : jC} (hX : jOk X uX2_sendHand (gX E)) (fu : Nat) (k0 : Nat) (hk0 : tX k0 = 4) (x2 : Int32) (x3 : Int32) (M : Mem) (c10 : Int32 → Int32 → Mem → Res) (hc10 : ∀ (x2 : Int32) (x3 : Int32) (M : Mem), J X uX2_sendHand (gX E) 10 [(0, .ref (gad (gX E) 56)), (2, .int x2), (3, .int x3)] [] M (c10 x2 x3 M)) : J X uX2_sendHand (gX E) 10 [(0, .ref (gad (gX E) 56)), (2, .int x2), (3, .int x3)] [] M (pX2_sendHand_10b fu k0 x2 x3 M c10) := by
  unfold pX2_sendHand_10b
  refine j_iload_n (pc := 10) hX 2 dX2_sendHand_10 rfl rfl ?_
  refine j_aload_n (pc := 11) hX 0 dX2_sendHand_11 rfl rfl ?_
  refine j_getR (pc := 12) (t := 5) hX (jb rfl) rfl (ci := 2) (C := RX2) (T := TX2) (N := 4) rfl (jb rfl) inX2 (j := 0) (jb rfl) rfl tw_215 dX2_sendHand_12 ?_
  refine j_callV (pc := 15) hX [] (mX1_doors _ E hX.2.2.2.2.2.2.2.2.1 fu 5 rfl  M) qX1_doors tw_731 (jb rfl) rfl (ci := 1) (T := TX1) (N := 13) rfl (jb rfl) rfl ⟨rfl, rfl⟩ ⟨(Nat.le_of_ble_eq_true rfl), (Nat.le_of_ble_eq_true rfl)⟩ (Nat.le_of_ble_eq_true rfl) dX2_sendHand_15 (fun _ => rfl) rfl (fun r3 M2 => ?_)
  refine j_icmp_ge (pc := 18) hX 78 dX2_sendHand_18 (by decide) ?_ ?_
  · refine j_iconst (pc := 78) (v := (1 : Int32)) hX dX2_sendHand_78 ci_1 ?_
    exact j_zret (pc := 79) hX rfl dX2_sendHand_79
  · refine j_aload_n (pc := 21) hX 0 dX2_sendHand_21 rfl rfl ?_
    refine j_getR (pc := 22) (t := 57) hX (jb rfl) rfl (ci := 2) (C := RX2) (T := TX2) (N := 4) rfl (jb rfl) inX2 (j := 2) (jb rfl) rfl tw_217 dX2_sendHand_22 ?_
    refine j_iload_n (pc := 25) hX 2 dX2_sendHand_25 rfl rfl ?_
    refine j_callS (pc := 26) hX [.ref (gad (gX E) 57), .int x3] (mX6_at _ E hX.2.2.2.2.2.2.2.2.1 fu 57 4 rfl rfl x3 M2) qX6_at tw_743 rfl ⟨rfl, rfl⟩ ⟨(Nat.le_of_ble_eq_true rfl), (Nat.le_of_ble_eq_true rfl)⟩ (Nat.le_of_ble_eq_true rfl) dX2_sendHand_26 (fun _ => rfl) rfl (fun r5 M4 => ?_)
    refine j_istore (pc := 29) (lv' := [(4, .int r5), (0, .ref (gad (gX E) 56)), (2, .int x2), (3, .int x3)]) hX dX2_sendHand_29 (jb rfl) rfl ?_
    refine j_aload_n (pc := 31) hX 1 dX2_sendHand_31 rfl rfl ?_
    refine j_getR (pc := 32) (t := 59) hX (jb rfl) rfl (ci := 2) (C := RX2) (T := TX2) (N := 4) rfl (jb rfl) inX2 (j := 1) (jb rfl) rfl tw_216 dX2_sendHand_32 ?_
    refine j_iload (pc := 35) hX 0 dX2_sendHand_35 rfl ?_
    refine j_iload_n (pc := 37) hX 3 dX2_sendHand_37 rfl rfl ?_
    refine j_callV (pc := 38) hX [.int r5, .int x3] (mX4_canBeSent _ E hX.2.2.2.2.2.2.2.2.1 fu 59 rfl r5 x3 M4) qX4_canBeSent tw_744 (jb rfl) rfl (ci := 4) (T := TX4) (N := 2) rfl (jb rfl) rfl ⟨rfl, rfl⟩ ⟨(Nat.le_of_ble_eq_true rfl), (Nat.le_of_ble_eq_true rfl)⟩ (Nat.le_of_ble_eq_true rfl) dX2_sendHand_38 (fun _ => rfl) rfl (fun r7 M6 => ?_)
    refine j_if_ne (pc := 41) hX 46 dX2_sendHand_41 (by decide) ?_ ?_
    · refine j_aload_n (pc := 46) hX 1 dX2_sendHand_46 rfl rfl ?_
      refine j_getR (pc := 47) (t := 59) hX (jb rfl) rfl (ci := 2) (C := RX2) (T := TX2) (N := 4) rfl (jb rfl) inX2 (j := 1) (jb rfl) rfl tw_216 dX2_sendHand_47 ?_
      refine j_iload (pc := 50) hX 0 dX2_sendHand_50 rfl ?_
      refine j_iload_n (pc := 52) hX 2 dX2_sendHand_52 rfl rfl ?_
      refine j_iload_n (pc := 53) hX 3 dX2_sendHand_53 rfl rfl ?_
      refine j_callVv (pc := 54) hX [.int r5, .int x2, .int x3] (mX4_dispatch _ E hX.2.2.2.2.2.2.2.2.1 fu 59 rfl r5 x2 x3 M6) qX4_dispatch tw_745 (jb rfl) rfl (ci := 4) (T := TX4) (N := 2) rfl (jb rfl) rfl ⟨rfl, rfl⟩ ⟨(Nat.le_of_ble_eq_true rfl), (Nat.le_of_ble_eq_true rfl)⟩ (Nat.le_of_ble_eq_true rfl) dX2_sendHand_54 rfl (fun M8 => ?_)
      refine j_aload_n (pc := 57) hX 1 dX2_sendHand_57 rfl rfl ?_
      refine j_getR (pc := 58) (t := 59) hX (jb rfl) rfl (ci := 2) (C := RX2) (T := TX2) (N := 4) rfl (jb rfl) inX2 (j := 1) (jb rfl) rfl tw_216 dX2_sendHand_58 ?_
      refine j_iload (pc := 61) hX 0 dX2_sendHand_61 rfl ?_
      refine j_callV (pc := 63) hX [.int r5] (mX4_readOf _ E hX.2.2.2.2.2.2.2.2.1 fu 59 rfl r5 M8) qX4_readOf tw_746 (jb rfl) rfl (ci := 4) (T := TX4) (N := 2) rfl (jb rfl) rfl ⟨rfl, rfl⟩ ⟨(Nat.le_of_ble_eq_true rfl), (Nat.le_of_ble_eq_true rfl)⟩ (Nat.le_of_ble_eq_true rfl) dX2_sendHand_63 (fun _ => rfl) rfl (fun r10 M9 => ?_)
      refine j_iload_n (pc := 66) hX 2 dX2_sendHand_66 rfl rfl ?_
      refine j_icmp_ge (pc := 67) hX 72 dX2_sendHand_67 (by decide) ?_ ?_
      · refine j_iinc (pc := 72) (v := (x3 + (1 : Int32))) (lv' := [(3, .int (x3 + (1 : Int32))), (4, .int r5), (0, .ref (gad (gX E) 56)), (2, .int x2)]) hX 3 dX2_sendHand_72 rfl (by rw [ci_1]) (jb rfl) rfl ?_
        refine j_goto (pc := 75) hX 10 dX2_sendHand_75 (by decide) ?_
        exact j_sub [2, 3, 0] rfl (hc10 x2 (x3 + (1 : Int32)) M9)
      · refine j_iconst (pc := 70) (v := (0 : Int32)) hX dX2_sendHand_70 ci_0 ?_
        exact j_zret (pc := 71) hX rfl dX2_sendHand_71
    · refine j_iconst (pc := 44) (v := (0 : Int32)) hX dX2_sendHand_44 ci_0 ?_
      exact j_zret (pc := 45) hX rfl dX2_sendHand_45
def pX2_sendHand_10 (fu : Nat) (k0 : Nat)  : Nat → Int32 → Int32 → Mem → Res
  | 0, _, _, _ => none
  | n + 1, x2, x3, M => pX2_sendHand_10b fu k0 x2 x3 M (pX2_sendHand_10 fu k0  n)
theorem wX2_sendHand_10 {E : jE} {X : jC} (hX : jOk X uX2_sendHand (gX E)) (fu : Nat) (k0 : Nat) (hk0 : tX k0 = 4)   : ∀ (n : Nat) (x2 : Int32) (x3 : Int32) (M : Mem), J X uX2_sendHand (gX E) 10 [(0, .ref (gad (gX E) 56)), (2, .int x2), (3, .int x3)] [] M (pX2_sendHand_10 fu k0  n x2 x3 M) := by
  intro n
  induction n with
  | zero => intro x2 x3 M; exact j_none
  | succ n ih => intro x2 x3 M; exact wX2_sendHand_10b hX fu k0 hk0 x2 x3 M (pX2_sendHand_10 fu k0  n) ih
def pX2_sendHand (fu : Nat) (k0 : Nat) (x2 : Int32) (M : Mem) : Res :=
  bV (pX4_copy fu 59 k0 M) fun M1 =>
  pX2_sendHand_10 fu k0
    fu x2 (0 : Int32) M1
set_option maxRecDepth 100000 in
theorem wX2_sendHand {E : jE} {X : jC} (hX : jOk X uX2_sendHand (gX E)) (fu : Nat) (k0 : Nat) (hk0 : tX k0 = 4) (x2 : Int32) (M : Mem) : J X uX2_sendHand (gX E) 0 [(0, .ref (gad (gX E) 56)), (1, .ref (gad (gX E) k0)), (2, .int x2)] [] M (pX2_sendHand fu k0 x2 M) := by
  unfold pX2_sendHand
  refine j_aload_n (pc := 0) hX 0 dX2_sendHand_0 rfl rfl ?_
  refine j_getR (pc := 1) (t := 59) hX (jb rfl) rfl (ci := 2) (C := RX2) (T := TX2) (N := 4) rfl (jb rfl) inX2 (j := 1) (jb rfl) rfl tw_216 dX2_sendHand_1 ?_
  refine j_aload_n (pc := 4) hX 1 dX2_sendHand_4 rfl rfl ?_
  refine j_callVv (pc := 5) hX [.ref (gad (gX E) k0)] (mX4_copy _ E hX.2.2.2.2.2.2.2.2.1 fu 59 k0 rfl hk0  M) qX4_copy tw_742 (jb rfl) rfl (ci := 4) (T := TX4) (N := 2) rfl (jb rfl) rfl ⟨rfl, rfl⟩ ⟨(Nat.le_of_ble_eq_true rfl), (Nat.le_of_ble_eq_true rfl)⟩ (Nat.le_of_ble_eq_true rfl) dX2_sendHand_5 rfl (fun M1 => ?_)
  refine j_iconst (pc := 8) (v := (0 : Int32)) hX dX2_sendHand_8 ci_0 ?_
  refine j_istore_n (pc := 9) (lv' := [(3, .int (0 : Int32)), (0, .ref (gad (gX E) 56)), (1, .ref (gad (gX E) k0)), (2, .int x2)]) hX dX2_sendHand_9 rfl (jb rfl) rfl ?_
  refine j_sub [1, 3, 0] rfl (wX2_sendHand_10 hX fu k0 hk0   fu x2 (0 : Int32) M1)
theorem mX2_sendHand (l : Launch) (E : jE) (hI : jInj (gX E)) (fu : Nat) (k0 : Nat) (hk0 : tX k0 = 4) (x2 : Int32) (M : Mem) : jMet l (gX E) yX2_sendHand cX2_sendHand 5 (some .boolean) rX2_sendHand [.ref (gad (gX E) 56), .ref (gad (gX E) k0), .int x2] M (pX2_sendHand fu k0 x2 M) :=
  j_entry hI (by decide +kernel) (Nat.le_of_ble_eq_true rfl) rfl (fun X _ hX => wX2_sendHand hX fu k0 hk0 x2 M)
theorem qX2_going : jYv yX2_going cX2_going 3 (some .int) 0 := ⟨tw_753, tw_14, tw_64, tw_754, ⟨by decide +kernel, by decide +kernel, by decide +kernel⟩⟩
abbrev rX2_going : Room := { frames := 2, cells := 0, slots := 0, locals := 45 }
def uX2_going : jM := (cX2_going, 3, RX2, (some .int), rX2_going)
def pX2_going_40 (fu : Nat) (x2 : Int32) (s0 : Int32) (s1 : Int32) (M : Mem) (c4 : Int32 → Int32 → Mem → Res) : Res :=
  c4 (s1 + s0) (x2 + (1 : Int32)) M
set_option maxRecDepth 100000 in
theorem wX2_going_40 {E : jE} {X : jC} (hX : jOk X uX2_going (gX E)) (fu : Nat)  (x2 : Int32) (s0 : Int32) (s1 : Int32) (M : Mem) (c4 : Int32 → Int32 → Mem → Res) (hc4 : ∀ (x1 : Int32) (x2 : Int32) (M : Mem), J X uX2_going (gX E) 4 [(0, .ref (gad (gX E) 56)), (1, .int x1), (2, .int x2)] [] M (c4 x1 x2 M)) : J X uX2_going (gX E) 40 [(0, .ref (gad (gX E) 56)), (2, .int x2)] [.int s0, .int s1] M (pX2_going_40 fu  x2 s0 s1 M c4) := by
  unfold pX2_going_40
  refine j_iadd (pc := 40) hX dX2_going_40 ?_
  refine j_istore_n (pc := 41) (lv' := [(1, .int (s1 + s0)), (0, .ref (gad (gX E) 56)), (2, .int x2)]) hX dX2_going_41 rfl (jb rfl) rfl ?_
  refine j_iinc (pc := 42) (v := (x2 + (1 : Int32))) (lv' := [(2, .int (x2 + (1 : Int32))), (1, .int (s1 + s0)), (0, .ref (gad (gX E) 56))]) hX 2 dX2_going_42 rfl (by rw [ci_1]) (jb rfl) rfl ?_
  refine j_goto (pc := 45) hX 4 dX2_going_45 (by decide) ?_
  exact j_sub [2, 1, 0] rfl (hc4 (s1 + s0) (x2 + (1 : Int32)) M)
def pX2_going_4b (fu : Nat) (x1 : Int32) (x2 : Int32) (M : Mem) (c4 : Int32 → Int32 → Mem → Res) : Res :=
  bI (pX1_doors fu 5 M) fun r2 M1 =>
  if r2 ≤ x2 then (
    some (x1, M1))
  else
  bI (pX6_at fu 57 4 x2 M1) fun r4 M3 =>
  bI (pX4_is fu 59 r4 (1 : Int32) M3) fun r6 M5 =>
  if r6 = 0 then (
    pX2_going_40 fu  x2 (0 : Int32) x1 M5 c4)
  else
  pX2_going_40 fu  x2 (1 : Int32) x1 M5 c4
set_option maxRecDepth 100000 in
theorem wX2_going_4b {E : jE} {X : jC} (hX : jOk X uX2_going (gX E)) (fu : Nat)  (x1 : Int32) (x2 : Int32) (M : Mem) (c4 : Int32 → Int32 → Mem → Res) (hc4 : ∀ (x1 : Int32) (x2 : Int32) (M : Mem), J X uX2_going (gX E) 4 [(0, .ref (gad (gX E) 56)), (1, .int x1), (2, .int x2)] [] M (c4 x1 x2 M)) : J X uX2_going (gX E) 4 [(0, .ref (gad (gX E) 56)), (1, .int x1), (2, .int x2)] [] M (pX2_going_4b fu  x1 x2 M c4) := by
  unfold pX2_going_4b
  refine j_iload_n (pc := 4) hX 2 dX2_going_4 rfl rfl ?_
  refine j_aload_n (pc := 5) hX 0 dX2_going_5 rfl rfl ?_
  refine j_getR (pc := 6) (t := 5) hX (jb rfl) rfl (ci := 2) (C := RX2) (T := TX2) (N := 4) rfl (jb rfl) inX2 (j := 0) (jb rfl) rfl tw_215 dX2_going_6 ?_
  refine j_callV (pc := 9) hX [] (mX1_doors _ E hX.2.2.2.2.2.2.2.2.1 fu 5 rfl  M) qX1_doors tw_731 (jb rfl) rfl (ci := 1) (T := TX1) (N := 13) rfl (jb rfl) rfl ⟨rfl, rfl⟩ ⟨(Nat.le_of_ble_eq_true rfl), (Nat.le_of_ble_eq_true rfl)⟩ (Nat.le_of_ble_eq_true rfl) dX2_going_9 (fun _ => rfl) rfl (fun r2 M1 => ?_)
  refine j_icmp_ge (pc := 12) hX 48 dX2_going_12 (by decide) ?_ ?_
  · refine j_iload_n (pc := 48) hX 1 dX2_going_48 rfl rfl ?_
    exact j_iret (pc := 49) hX rfl dX2_going_49
  · refine j_iload_n (pc := 15) hX 1 dX2_going_15 rfl rfl ?_
    refine j_aload_n (pc := 16) hX 0 dX2_going_16 rfl rfl ?_
    refine j_getR (pc := 17) (t := 59) hX (jb rfl) rfl (ci := 2) (C := RX2) (T := TX2) (N := 4) rfl (jb rfl) inX2 (j := 1) (jb rfl) rfl tw_216 dX2_going_17 ?_
    refine j_aload_n (pc := 20) hX 0 dX2_going_20 rfl rfl ?_
    refine j_getR (pc := 21) (t := 57) hX (jb rfl) rfl (ci := 2) (C := RX2) (T := TX2) (N := 4) rfl (jb rfl) inX2 (j := 2) (jb rfl) rfl tw_217 dX2_going_21 ?_
    refine j_iload_n (pc := 24) hX 2 dX2_going_24 rfl rfl ?_
    refine j_callS (pc := 25) hX [.ref (gad (gX E) 57), .int x2] (mX6_at _ E hX.2.2.2.2.2.2.2.2.1 fu 57 4 rfl rfl x2 M1) qX6_at tw_743 rfl ⟨rfl, rfl⟩ ⟨(Nat.le_of_ble_eq_true rfl), (Nat.le_of_ble_eq_true rfl)⟩ (Nat.le_of_ble_eq_true rfl) dX2_going_25 (fun _ => rfl) rfl (fun r4 M3 => ?_)
    refine j_iconst (pc := 28) (v := (1 : Int32)) hX dX2_going_28 ci_1 ?_
    refine j_callV (pc := 29) hX [.int r4, .int (1 : Int32)] (mX4_is _ E hX.2.2.2.2.2.2.2.2.1 fu 59 rfl r4 (1 : Int32) M3) qX4_is tw_755 (jb rfl) rfl (ci := 4) (T := TX4) (N := 2) rfl (jb rfl) rfl ⟨rfl, rfl⟩ ⟨(Nat.le_of_ble_eq_true rfl), (Nat.le_of_ble_eq_true rfl)⟩ (Nat.le_of_ble_eq_true rfl) dX2_going_29 (fun _ => rfl) rfl (fun r6 M5 => ?_)
    refine j_if_eq (pc := 32) hX 39 dX2_going_32 (by decide) ?_ ?_
    · refine j_iconst (pc := 39) (v := (0 : Int32)) hX dX2_going_39 ci_0 ?_
      exact j_sub [0, 2] rfl (wX2_going_40 hX fu   x2 (0 : Int32) x1 M5 c4 hc4)
    · refine j_iconst (pc := 35) (v := (1 : Int32)) hX dX2_going_35 ci_1 ?_
      refine j_goto (pc := 36) hX 40 dX2_going_36 (by decide) ?_
      exact j_sub [0, 2] rfl (wX2_going_40 hX fu   x2 (1 : Int32) x1 M5 c4 hc4)
def pX2_going_4 (fu : Nat)  : Nat → Int32 → Int32 → Mem → Res
  | 0, _, _, _ => none
  | n + 1, x1, x2, M => pX2_going_4b fu  x1 x2 M (pX2_going_4 fu   n)
theorem wX2_going_4 {E : jE} {X : jC} (hX : jOk X uX2_going (gX E)) (fu : Nat)    : ∀ (n : Nat) (x1 : Int32) (x2 : Int32) (M : Mem), J X uX2_going (gX E) 4 [(0, .ref (gad (gX E) 56)), (1, .int x1), (2, .int x2)] [] M (pX2_going_4 fu   n x1 x2 M) := by
  intro n
  induction n with
  | zero => intro x1 x2 M; exact j_none
  | succ n ih => intro x1 x2 M; exact wX2_going_4b hX fu   x1 x2 M (pX2_going_4 fu   n) ih
def pX2_going (fu : Nat)  (M : Mem) : Res :=
  pX2_going_4 fu
    fu (0 : Int32) (0 : Int32) M
set_option maxRecDepth 100000 in
theorem wX2_going {E : jE} {X : jC} (hX : jOk X uX2_going (gX E)) (fu : Nat)   (M : Mem) : J X uX2_going (gX E) 0 [(0, .ref (gad (gX E) 56))] [] M (pX2_going fu   M) := by
  unfold pX2_going
  refine j_iconst (pc := 0) (v := (0 : Int32)) hX dX2_going_0 ci_0 ?_
  refine j_istore_n (pc := 1) (lv' := [(1, .int (0 : Int32)), (0, .ref (gad (gX E) 56))]) hX dX2_going_1 rfl (jb rfl) rfl ?_
  refine j_iconst (pc := 2) (v := (0 : Int32)) hX dX2_going_2 ci_0 ?_
  refine j_istore_n (pc := 3) (lv' := [(2, .int (0 : Int32)), (1, .int (0 : Int32)), (0, .ref (gad (gX E) 56))]) hX dX2_going_3 rfl (jb rfl) rfl ?_
  refine j_sub [2, 1, 0] rfl (wX2_going_4 hX fu     fu (0 : Int32) (0 : Int32) M)
theorem mX2_going (l : Launch) (E : jE) (hI : jInj (gX E)) (fu : Nat)   (M : Mem) : jMet l (gX E) yX2_going cX2_going 3 (some .int) rX2_going [.ref (gad (gX E) 56)] M (pX2_going fu   M) :=
  j_entry hI (by decide +kernel) (Nat.le_of_ble_eq_true rfl) rfl (fun X _ hX => wX2_going hX fu    M)
theorem qX2_awaitHand : jYv yX2_awaitHand cX2_awaitHand 5 (some .int) 1 := ⟨tw_749, tw_13, tw_64, tw_750, ⟨by decide +kernel, by decide +kernel, by decide +kernel⟩⟩
abbrev rX2_awaitHand : Room := { frames := 5, cells := 0, slots := 0, locals := 117 }
def uX2_awaitHand : jM := (cX2_awaitHand, 5, RX2, (some .int), rX2_awaitHand)
def pX2_awaitHand_4b (fu : Nat) (x1 : Int32) (x2 : Int32) (x3 : Int32) (M : Mem) (c4 : Int32 → Int32 → Int32 → Mem → Res) (c39 : Int32 → Int32 → Mem → Res) : Res :=
  if (99 : Int32) ≤ x3 then (
    c39 x1 x2 M)
  else
  bI (pX2_going fu  M) fun r2 M1 =>
  if r2 ≤ 0 then (
    c39 x1 x2 M1)
  else
  bI (pX2_going fu  M1) fun r4 M3 =>
  bV (pX4_goOn fu 59 (-4 : Int32) M3) fun M5 =>
  c4 x1 (x2 + r4) (x3 + (1 : Int32)) M5
set_option maxRecDepth 100000 in
theorem wX2_awaitHand_4b {E : jE} {X : jC} (hX : jOk X uX2_awaitHand (gX E)) (fu : Nat)  (x1 : Int32) (x2 : Int32) (x3 : Int32) (M : Mem) (c4 : Int32 → Int32 → Int32 → Mem → Res) (c39 : Int32 → Int32 → Mem → Res) (hc4 : ∀ (x1 : Int32) (x2 : Int32) (x3 : Int32) (M : Mem), J X uX2_awaitHand (gX E) 4 [(0, .ref (gad (gX E) 56)), (1, .int x1), (2, .int x2), (3, .int x3)] [] M (c4 x1 x2 x3 M)) (hc39 : ∀ (x1 : Int32) (x2 : Int32) (M : Mem), J X uX2_awaitHand (gX E) 39 [(0, .ref (gad (gX E) 56)), (1, .int x1), (2, .int x2)] [] M (c39 x1 x2 M)) : J X uX2_awaitHand (gX E) 4 [(0, .ref (gad (gX E) 56)), (1, .int x1), (2, .int x2), (3, .int x3)] [] M (pX2_awaitHand_4b fu  x1 x2 x3 M c4 c39) := by
  unfold pX2_awaitHand_4b
  refine j_iload_n (pc := 4) hX 3 dX2_awaitHand_4 rfl rfl ?_
  refine j_bipush (pc := 5) (v := (99 : Int32)) hX dX2_awaitHand_5 cb_99 ?_
  refine j_icmp_ge (pc := 7) hX 39 dX2_awaitHand_7 (by decide) ?_ ?_
  · exact j_sub [0, 1, 2] rfl (hc39 x1 x2 M)
  · refine j_aload_n (pc := 10) hX 0 dX2_awaitHand_10 rfl rfl ?_
    refine j_callV (pc := 11) hX [] (mX2_going _ E hX.2.2.2.2.2.2.2.2.1 fu    M) qX2_going tw_751 (jb rfl) rfl (ci := 2) (T := TX2) (N := 4) rfl (jb rfl) rfl ⟨rfl, rfl⟩ ⟨(Nat.le_of_ble_eq_true rfl), (Nat.le_of_ble_eq_true rfl)⟩ (Nat.le_of_ble_eq_true rfl) dX2_awaitHand_11 (fun _ => rfl) rfl (fun r2 M1 => ?_)
    refine j_if_le (pc := 14) hX 39 dX2_awaitHand_14 (by decide) ?_ ?_
    · exact j_sub [0, 1, 2] rfl (hc39 x1 x2 M1)
    · refine j_iload_n (pc := 17) hX 2 dX2_awaitHand_17 rfl rfl ?_
      refine j_aload_n (pc := 18) hX 0 dX2_awaitHand_18 rfl rfl ?_
      refine j_callV (pc := 19) hX [] (mX2_going _ E hX.2.2.2.2.2.2.2.2.1 fu    M1) qX2_going tw_751 (jb rfl) rfl (ci := 2) (T := TX2) (N := 4) rfl (jb rfl) rfl ⟨rfl, rfl⟩ ⟨(Nat.le_of_ble_eq_true rfl), (Nat.le_of_ble_eq_true rfl)⟩ (Nat.le_of_ble_eq_true rfl) dX2_awaitHand_19 (fun _ => rfl) rfl (fun r4 M3 => ?_)
      refine j_iadd (pc := 22) hX dX2_awaitHand_22 ?_
      refine j_istore_n (pc := 23) (lv' := [(2, .int (x2 + r4)), (0, .ref (gad (gX E) 56)), (1, .int x1), (3, .int x3)]) hX dX2_awaitHand_23 rfl (jb rfl) rfl ?_
      refine j_aload_n (pc := 24) hX 1 dX2_awaitHand_24 rfl rfl ?_
      refine j_getR (pc := 25) (t := 59) hX (jb rfl) rfl (ci := 2) (C := RX2) (T := TX2) (N := 4) rfl (jb rfl) inX2 (j := 1) (jb rfl) rfl tw_216 dX2_awaitHand_25 ?_
      refine j_bipush (pc := 28) (v := (-4 : Int32)) hX dX2_awaitHand_28 cb_m4 ?_
      refine j_callVv (pc := 30) hX [.int (-4 : Int32)] (mX4_goOn _ E hX.2.2.2.2.2.2.2.2.1 fu 59 rfl (-4 : Int32) M3) qX4_goOn tw_756 (jb rfl) rfl (ci := 4) (T := TX4) (N := 2) rfl (jb rfl) rfl ⟨rfl, rfl⟩ ⟨(Nat.le_of_ble_eq_true rfl), (Nat.le_of_ble_eq_true rfl)⟩ (Nat.le_of_ble_eq_true rfl) dX2_awaitHand_30 rfl (fun M5 => ?_)
      refine j_iinc (pc := 33) (v := (x3 + (1 : Int32))) (lv' := [(3, .int (x3 + (1 : Int32))), (2, .int (x2 + r4)), (0, .ref (gad (gX E) 56)), (1, .int x1)]) hX 3 dX2_awaitHand_33 rfl (by rw [ci_1]) (jb rfl) rfl ?_
      refine j_goto (pc := 36) hX 4 dX2_awaitHand_36 (by decide) ?_
      exact j_sub [2, 3, 1, 0] rfl (hc4 x1 (x2 + r4) (x3 + (1 : Int32)) M5)
def pX2_awaitHand_4 (fu : Nat) (c39 : Int32 → Int32 → Mem → Res) : Nat → Int32 → Int32 → Int32 → Mem → Res
  | 0, _, _, _, _ => none
  | n + 1, x1, x2, x3, M => pX2_awaitHand_4b fu  x1 x2 x3 M (pX2_awaitHand_4 fu  c39 n) c39
theorem wX2_awaitHand_4 {E : jE} {X : jC} (hX : jOk X uX2_awaitHand (gX E)) (fu : Nat)  (c39 : Int32 → Int32 → Mem → Res) (hc39 : ∀ (x1 : Int32) (x2 : Int32) (M : Mem), J X uX2_awaitHand (gX E) 39 [(0, .ref (gad (gX E) 56)), (1, .int x1), (2, .int x2)] [] M (c39 x1 x2 M)) : ∀ (n : Nat) (x1 : Int32) (x2 : Int32) (x3 : Int32) (M : Mem), J X uX2_awaitHand (gX E) 4 [(0, .ref (gad (gX E) 56)), (1, .int x1), (2, .int x2), (3, .int x3)] [] M (pX2_awaitHand_4 fu  c39 n x1 x2 x3 M) := by
  intro n
  induction n with
  | zero => intro x1 x2 x3 M; exact j_none
  | succ n ih => intro x1 x2 x3 M; exact wX2_awaitHand_4b hX fu   x1 x2 x3 M (pX2_awaitHand_4 fu  c39 n) c39 ih hc39
def pX2_awaitHand_41b (fu : Nat) (x1 : Int32) (x2 : Int32) (x3 : Int32) (M : Mem) (c41 : Int32 → Int32 → Int32 → Mem → Res) : Res :=
  bI (pX1_doors fu 5 M) fun r10 M9 =>
  if r10 ≤ x3 then (
    some (x2, M9))
  else
  bI (pX6_at fu 57 4 x3 M9) fun r12 M11 =>
  bI (pX4_is fu 59 r12 (2 : Int32) M11) fun r14 M13 =>
  if r14 = 0 then (
    some ((-4 : Int32), M13))
  else
  bI (pX4_readOf fu 59 r12 M13) fun r16 M15 =>
  if r16 = x1 then (
    c41 x1 x2 (x3 + (1 : Int32)) M15)
  else
  some ((-4 : Int32), M15)
set_option maxRecDepth 100000 in
theorem wX2_awaitHand_41b {E : jE} {X : jC} (hX : jOk X uX2_awaitHand (gX E)) (fu : Nat)  (x1 : Int32) (x2 : Int32) (x3 : Int32) (M : Mem) (c41 : Int32 → Int32 → Int32 → Mem → Res) (hc41 : ∀ (x1 : Int32) (x2 : Int32) (x3 : Int32) (M : Mem), J X uX2_awaitHand (gX E) 41 [(0, .ref (gad (gX E) 56)), (1, .int x1), (2, .int x2), (3, .int x3)] [] M (c41 x1 x2 x3 M)) : J X uX2_awaitHand (gX E) 41 [(0, .ref (gad (gX E) 56)), (1, .int x1), (2, .int x2), (3, .int x3)] [] M (pX2_awaitHand_41b fu  x1 x2 x3 M c41) := by
  unfold pX2_awaitHand_41b
  refine j_iload_n (pc := 41) hX 3 dX2_awaitHand_41 rfl rfl ?_
  refine j_aload_n (pc := 42) hX 0 dX2_awaitHand_42 rfl rfl ?_
  refine j_getR (pc := 43) (t := 5) hX (jb rfl) rfl (ci := 2) (C := RX2) (T := TX2) (N := 4) rfl (jb rfl) inX2 (j := 0) (jb rfl) rfl tw_215 dX2_awaitHand_43 ?_
  refine j_callV (pc := 46) hX [] (mX1_doors _ E hX.2.2.2.2.2.2.2.2.1 fu 5 rfl  M) qX1_doors tw_731 (jb rfl) rfl (ci := 1) (T := TX1) (N := 13) rfl (jb rfl) rfl ⟨rfl, rfl⟩ ⟨(Nat.le_of_ble_eq_true rfl), (Nat.le_of_ble_eq_true rfl)⟩ (Nat.le_of_ble_eq_true rfl) dX2_awaitHand_46 (fun _ => rfl) rfl (fun r10 M9 => ?_)
  refine j_icmp_ge (pc := 49) hX 97 dX2_awaitHand_49 (by decide) ?_ ?_
  · refine j_iload_n (pc := 97) hX 2 dX2_awaitHand_97 rfl rfl ?_
    exact j_iret (pc := 98) hX rfl dX2_awaitHand_98
  · refine j_aload_n (pc := 52) hX 0 dX2_awaitHand_52 rfl rfl ?_
    refine j_getR (pc := 53) (t := 57) hX (jb rfl) rfl (ci := 2) (C := RX2) (T := TX2) (N := 4) rfl (jb rfl) inX2 (j := 2) (jb rfl) rfl tw_217 dX2_awaitHand_53 ?_
    refine j_iload_n (pc := 56) hX 3 dX2_awaitHand_56 rfl rfl ?_
    refine j_callS (pc := 57) hX [.ref (gad (gX E) 57), .int x3] (mX6_at _ E hX.2.2.2.2.2.2.2.2.1 fu 57 4 rfl rfl x3 M9) qX6_at tw_743 rfl ⟨rfl, rfl⟩ ⟨(Nat.le_of_ble_eq_true rfl), (Nat.le_of_ble_eq_true rfl)⟩ (Nat.le_of_ble_eq_true rfl) dX2_awaitHand_57 (fun _ => rfl) rfl (fun r12 M11 => ?_)
    refine j_istore (pc := 60) (lv' := [(4, .int r12), (0, .ref (gad (gX E) 56)), (1, .int x1), (2, .int x2), (3, .int x3)]) hX dX2_awaitHand_60 (jb rfl) rfl ?_
    refine j_aload_n (pc := 62) hX 1 dX2_awaitHand_62 rfl rfl ?_
    refine j_getR (pc := 63) (t := 59) hX (jb rfl) rfl (ci := 2) (C := RX2) (T := TX2) (N := 4) rfl (jb rfl) inX2 (j := 1) (jb rfl) rfl tw_216 dX2_awaitHand_63 ?_
    refine j_iload (pc := 66) hX 0 dX2_awaitHand_66 rfl ?_
    refine j_iconst (pc := 68) (v := (2 : Int32)) hX dX2_awaitHand_68 ci_2 ?_
    refine j_callV (pc := 69) hX [.int r12, .int (2 : Int32)] (mX4_is _ E hX.2.2.2.2.2.2.2.2.1 fu 59 rfl r12 (2 : Int32) M11) qX4_is tw_755 (jb rfl) rfl (ci := 4) (T := TX4) (N := 2) rfl (jb rfl) rfl ⟨rfl, rfl⟩ ⟨(Nat.le_of_ble_eq_true rfl), (Nat.le_of_ble_eq_true rfl)⟩ (Nat.le_of_ble_eq_true rfl) dX2_awaitHand_69 (fun _ => rfl) rfl (fun r14 M13 => ?_)
    refine j_if_eq (pc := 72) hX 88 dX2_awaitHand_72 (by decide) ?_ ?_
    · refine j_bipush (pc := 88) (v := (-4 : Int32)) hX dX2_awaitHand_88 cb_m4 ?_
      exact j_iret (pc := 90) hX rfl dX2_awaitHand_90
    · refine j_aload_n (pc := 75) hX 1 dX2_awaitHand_75 rfl rfl ?_
      refine j_getR (pc := 76) (t := 59) hX (jb rfl) rfl (ci := 2) (C := RX2) (T := TX2) (N := 4) rfl (jb rfl) inX2 (j := 1) (jb rfl) rfl tw_216 dX2_awaitHand_76 ?_
      refine j_iload (pc := 79) hX 0 dX2_awaitHand_79 rfl ?_
      refine j_callV (pc := 81) hX [.int r12] (mX4_readOf _ E hX.2.2.2.2.2.2.2.2.1 fu 59 rfl r12 M13) qX4_readOf tw_746 (jb rfl) rfl (ci := 4) (T := TX4) (N := 2) rfl (jb rfl) rfl ⟨rfl, rfl⟩ ⟨(Nat.le_of_ble_eq_true rfl), (Nat.le_of_ble_eq_true rfl)⟩ (Nat.le_of_ble_eq_true rfl) dX2_awaitHand_81 (fun _ => rfl) rfl (fun r16 M15 => ?_)
      refine j_iload_n (pc := 84) hX 2 dX2_awaitHand_84 rfl rfl ?_
      refine j_icmp_eq (pc := 85) hX 91 dX2_awaitHand_85 (by decide) ?_ ?_
      · refine j_iinc (pc := 91) (v := (x3 + (1 : Int32))) (lv' := [(3, .int (x3 + (1 : Int32))), (4, .int r12), (0, .ref (gad (gX E) 56)), (1, .int x1), (2, .int x2)]) hX 4 dX2_awaitHand_91 rfl (by rw [ci_1]) (jb rfl) rfl ?_
        refine j_goto (pc := 94) hX 41 dX2_awaitHand_94 (by decide) ?_
        exact j_sub [2, 3, 4, 0] rfl (hc41 x1 x2 (x3 + (1 : Int32)) M15)
      · refine j_bipush (pc := 88) (v := (-4 : Int32)) hX dX2_awaitHand_88 cb_m4 ?_
        exact j_iret (pc := 90) hX rfl dX2_awaitHand_90
def pX2_awaitHand_41 (fu : Nat)  : Nat → Int32 → Int32 → Int32 → Mem → Res
  | 0, _, _, _, _ => none
  | n + 1, x1, x2, x3, M => pX2_awaitHand_41b fu  x1 x2 x3 M (pX2_awaitHand_41 fu   n)
theorem wX2_awaitHand_41 {E : jE} {X : jC} (hX : jOk X uX2_awaitHand (gX E)) (fu : Nat)    : ∀ (n : Nat) (x1 : Int32) (x2 : Int32) (x3 : Int32) (M : Mem), J X uX2_awaitHand (gX E) 41 [(0, .ref (gad (gX E) 56)), (1, .int x1), (2, .int x2), (3, .int x3)] [] M (pX2_awaitHand_41 fu   n x1 x2 x3 M) := by
  intro n
  induction n with
  | zero => intro x1 x2 x3 M; exact j_none
  | succ n ih => intro x1 x2 x3 M; exact wX2_awaitHand_41b hX fu   x1 x2 x3 M (pX2_awaitHand_41 fu   n) ih
def pX2_awaitHand_39 (fu : Nat) (x1 : Int32) (x2 : Int32) (M : Mem)  : Res :=
  pX2_awaitHand_41 fu
    fu x1 x2 (0 : Int32) M
set_option maxRecDepth 100000 in
theorem wX2_awaitHand_39 {E : jE} {X : jC} (hX : jOk X uX2_awaitHand (gX E)) (fu : Nat)  (x1 : Int32) (x2 : Int32) (M : Mem)   : J X uX2_awaitHand (gX E) 39 [(0, .ref (gad (gX E) 56)), (1, .int x1), (2, .int x2)] [] M (pX2_awaitHand_39 fu  x1 x2 M ) := by
  unfold pX2_awaitHand_39
  refine j_iconst (pc := 39) (v := (0 : Int32)) hX dX2_awaitHand_39 ci_0 ?_
  refine j_istore_n (pc := 40) (lv' := [(3, .int (0 : Int32)), (0, .ref (gad (gX E) 56)), (1, .int x1), (2, .int x2)]) hX dX2_awaitHand_40 rfl (jb rfl) rfl ?_
  refine j_sub [1, 2, 3, 0] rfl (wX2_awaitHand_41 hX fu     fu x1 x2 (0 : Int32) M)
def pX2_awaitHand (fu : Nat) (x1 : Int32) (M : Mem) : Res :=
  pX2_awaitHand_4 fu
    (fun y6 y7 M8 =>
      pX2_awaitHand_39 fu  y6 y7 M8 )
    fu x1 (0 : Int32) (0 : Int32) M
set_option maxRecDepth 100000 in
theorem wX2_awaitHand {E : jE} {X : jC} (hX : jOk X uX2_awaitHand (gX E)) (fu : Nat)  (x1 : Int32) (M : Mem) : J X uX2_awaitHand (gX E) 0 [(0, .ref (gad (gX E) 56)), (1, .int x1)] [] M (pX2_awaitHand fu  x1 M) := by
  unfold pX2_awaitHand
  refine j_iconst (pc := 0) (v := (0 : Int32)) hX dX2_awaitHand_0 ci_0 ?_
  refine j_istore_n (pc := 1) (lv' := [(2, .int (0 : Int32)), (0, .ref (gad (gX E) 56)), (1, .int x1)]) hX dX2_awaitHand_1 rfl (jb rfl) rfl ?_
  refine j_iconst (pc := 2) (v := (0 : Int32)) hX dX2_awaitHand_2 ci_0 ?_
  refine j_istore_n (pc := 3) (lv' := [(3, .int (0 : Int32)), (2, .int (0 : Int32)), (0, .ref (gad (gX E) 56)), (1, .int x1)]) hX dX2_awaitHand_3 rfl (jb rfl) rfl ?_
  refine j_sub [2, 3, 1, 0] rfl (wX2_awaitHand_4 hX fu   _ ?_ fu x1 (0 : Int32) (0 : Int32) M)
  · intro y6 y7 M8
    exact j_sub [0, 1, 2] rfl (wX2_awaitHand_39 hX fu   y6 y7 M8  )
theorem mX2_awaitHand (l : Launch) (E : jE) (hI : jInj (gX E)) (fu : Nat)  (x1 : Int32) (M : Mem) : jMet l (gX E) yX2_awaitHand cX2_awaitHand 5 (some .int) rX2_awaitHand [.ref (gad (gX E) 56), .int x1] M (pX2_awaitHand fu  x1 M) :=
  j_entry hI (by decide +kernel) (Nat.le_of_ble_eq_true rfl) rfl (fun X _ hX => wX2_awaitHand hX fu   x1 M)
theorem qX2_fewestHours : jYv yX2_fewestHours cX2_fewestHours 7 (some .int) 2 := ⟨tw_728, tw_729, tw_64, tw_730, ⟨by decide +kernel, by decide +kernel, by decide +kernel⟩⟩
abbrev rX2_fewestHours : Room := { frames := 6, cells := 0, slots := 0, locals := 141 }
def uX2_fewestHours : jM := (cX2_fewestHours, 7, RX2, (some .int), rX2_fewestHours)
def pX2_fewestHours_9b (fu : Nat) (k0 : Nat) (x2 : Int32) (x3 : Int32) (x4 : Int32) (x5 : Int32) (M : Mem) (c9 : Int32 → Int32 → Int32 → Int32 → Mem → Res) (c39 : Int32 → Int32 → Int32 → Mem → Res) : Res :=
  bI (pX1_doors fu 5 M) fun r2 M1 =>
  if r2 ≤ x5 then (
    c39 x2 x3 x4 M1)
  else
  bI (pX1_beasts fu 5 M1) fun r4 M3 =>
  c9 x2 x3 (x4 * r4) (x5 + (1 : Int32)) M3
set_option maxRecDepth 100000 in
theorem wX2_fewestHours_9b {E : jE} {X : jC} (hX : jOk X uX2_fewestHours (gX E)) (fu : Nat) (k0 : Nat) (hk0 : tX k0 = 4) (x2 : Int32) (x3 : Int32) (x4 : Int32) (x5 : Int32) (M : Mem) (c9 : Int32 → Int32 → Int32 → Int32 → Mem → Res) (c39 : Int32 → Int32 → Int32 → Mem → Res) (hc9 : ∀ (x2 : Int32) (x3 : Int32) (x4 : Int32) (x5 : Int32) (M : Mem), J X uX2_fewestHours (gX E) 9 [(0, .ref (gad (gX E) 56)), (1, .ref (gad (gX E) k0)), (2, .int x2), (3, .int x3), (4, .int x4), (5, .int x5)] [] M (c9 x2 x3 x4 x5 M)) (hc39 : ∀ (x2 : Int32) (x3 : Int32) (x4 : Int32) (M : Mem), J X uX2_fewestHours (gX E) 39 [(0, .ref (gad (gX E) 56)), (1, .ref (gad (gX E) k0)), (2, .int x2), (3, .int x3), (4, .int x4)] [] M (c39 x2 x3 x4 M)) : J X uX2_fewestHours (gX E) 9 [(0, .ref (gad (gX E) 56)), (1, .ref (gad (gX E) k0)), (2, .int x2), (3, .int x3), (4, .int x4), (5, .int x5)] [] M (pX2_fewestHours_9b fu k0 x2 x3 x4 x5 M c9 c39) := by
  unfold pX2_fewestHours_9b
  refine j_iload (pc := 9) hX 5 dX2_fewestHours_9 rfl ?_
  refine j_aload_n (pc := 11) hX 0 dX2_fewestHours_11 rfl rfl ?_
  refine j_getR (pc := 12) (t := 5) hX (jb rfl) rfl (ci := 2) (C := RX2) (T := TX2) (N := 4) rfl (jb rfl) inX2 (j := 0) (jb rfl) rfl tw_215 dX2_fewestHours_12 ?_
  refine j_callV (pc := 15) hX [] (mX1_doors _ E hX.2.2.2.2.2.2.2.2.1 fu 5 rfl  M) qX1_doors tw_731 (jb rfl) rfl (ci := 1) (T := TX1) (N := 13) rfl (jb rfl) rfl ⟨rfl, rfl⟩ ⟨(Nat.le_of_ble_eq_true rfl), (Nat.le_of_ble_eq_true rfl)⟩ (Nat.le_of_ble_eq_true rfl) dX2_fewestHours_15 (fun _ => rfl) rfl (fun r2 M1 => ?_)
  refine j_icmp_ge (pc := 18) hX 39 dX2_fewestHours_18 (by decide) ?_ ?_
  · exact j_sub [0, 1, 2, 3, 4] rfl (hc39 x2 x3 x4 M1)
  · refine j_iload (pc := 21) hX 4 dX2_fewestHours_21 rfl ?_
    refine j_aload_n (pc := 23) hX 0 dX2_fewestHours_23 rfl rfl ?_
    refine j_getR (pc := 24) (t := 5) hX (jb rfl) rfl (ci := 2) (C := RX2) (T := TX2) (N := 4) rfl (jb rfl) inX2 (j := 0) (jb rfl) rfl tw_215 dX2_fewestHours_24 ?_
    refine j_callV (pc := 27) hX [] (mX1_beasts _ E hX.2.2.2.2.2.2.2.2.1 fu 5 rfl  M1) qX1_beasts tw_732 (jb rfl) rfl (ci := 1) (T := TX1) (N := 13) rfl (jb rfl) rfl ⟨rfl, rfl⟩ ⟨(Nat.le_of_ble_eq_true rfl), (Nat.le_of_ble_eq_true rfl)⟩ (Nat.le_of_ble_eq_true rfl) dX2_fewestHours_27 (fun _ => rfl) rfl (fun r4 M3 => ?_)
    refine j_imul (pc := 30) hX dX2_fewestHours_30 ?_
    refine j_istore (pc := 31) (lv' := [(4, .int (x4 * r4)), (0, .ref (gad (gX E) 56)), (1, .ref (gad (gX E) k0)), (2, .int x2), (3, .int x3), (5, .int x5)]) hX dX2_fewestHours_31 (jb rfl) rfl ?_
    refine j_iinc (pc := 33) (v := (x5 + (1 : Int32))) (lv' := [(5, .int (x5 + (1 : Int32))), (4, .int (x4 * r4)), (0, .ref (gad (gX E) 56)), (1, .ref (gad (gX E) k0)), (2, .int x2), (3, .int x3)]) hX 5 dX2_fewestHours_33 rfl (by rw [ci_1]) (jb rfl) rfl ?_
    refine j_goto (pc := 36) hX 9 dX2_fewestHours_36 (by decide) ?_
    exact j_sub [2, 3, 4, 5, 1, 0] rfl (hc9 x2 x3 (x4 * r4) (x5 + (1 : Int32)) M3)
def pX2_fewestHours_9 (fu : Nat) (k0 : Nat) (c39 : Int32 → Int32 → Int32 → Mem → Res) : Nat → Int32 → Int32 → Int32 → Int32 → Mem → Res
  | 0, _, _, _, _, _ => none
  | n + 1, x2, x3, x4, x5, M => pX2_fewestHours_9b fu k0 x2 x3 x4 x5 M (pX2_fewestHours_9 fu k0 c39 n) c39
theorem wX2_fewestHours_9 {E : jE} {X : jC} (hX : jOk X uX2_fewestHours (gX E)) (fu : Nat) (k0 : Nat) (hk0 : tX k0 = 4) (c39 : Int32 → Int32 → Int32 → Mem → Res) (hc39 : ∀ (x2 : Int32) (x3 : Int32) (x4 : Int32) (M : Mem), J X uX2_fewestHours (gX E) 39 [(0, .ref (gad (gX E) 56)), (1, .ref (gad (gX E) k0)), (2, .int x2), (3, .int x3), (4, .int x4)] [] M (c39 x2 x3 x4 M)) : ∀ (n : Nat) (x2 : Int32) (x3 : Int32) (x4 : Int32) (x5 : Int32) (M : Mem), J X uX2_fewestHours (gX E) 9 [(0, .ref (gad (gX E) 56)), (1, .ref (gad (gX E) k0)), (2, .int x2), (3, .int x3), (4, .int x4), (5, .int x5)] [] M (pX2_fewestHours_9 fu k0 c39 n x2 x3 x4 x5 M) := by
  intro n
  induction n with
  | zero => intro x2 x3 x4 x5 M; exact j_none
  | succ n ih => intro x2 x3 x4 x5 M; exact wX2_fewestHours_9b hX fu k0 hk0 x2 x3 x4 x5 M (pX2_fewestHours_9 fu k0 c39 n) c39 ih hc39
def pX2_fewestHours_116 (fu : Nat) (k0 : Nat) (x2 : Int32) (x3 : Int32) (x4 : Int32) (x5 : Int32) (M : Mem) (c42 : Int32 → Int32 → Int32 → Int32 → Mem → Res) : Res :=
  c42 x2 x3 x4 (x5 + (1 : Int32)) M
set_option maxRecDepth 100000 in
theorem wX2_fewestHours_116 {E : jE} {X : jC} (hX : jOk X uX2_fewestHours (gX E)) (fu : Nat) (k0 : Nat) (hk0 : tX k0 = 4) (x2 : Int32) (x3 : Int32) (x4 : Int32) (x5 : Int32) (M : Mem) (c42 : Int32 → Int32 → Int32 → Int32 → Mem → Res) (hc42 : ∀ (x2 : Int32) (x3 : Int32) (x4 : Int32) (x5 : Int32) (M : Mem), J X uX2_fewestHours (gX E) 42 [(0, .ref (gad (gX E) 56)), (1, .ref (gad (gX E) k0)), (2, .int x2), (3, .int x3), (4, .int x4), (5, .int x5)] [] M (c42 x2 x3 x4 x5 M)) : J X uX2_fewestHours (gX E) 116 [(0, .ref (gad (gX E) 56)), (1, .ref (gad (gX E) k0)), (2, .int x2), (3, .int x3), (4, .int x4), (5, .int x5)] [] M (pX2_fewestHours_116 fu k0 x2 x3 x4 x5 M c42) := by
  unfold pX2_fewestHours_116
  refine j_iinc (pc := 116) (v := (x5 + (1 : Int32))) (lv' := [(5, .int (x5 + (1 : Int32))), (0, .ref (gad (gX E) 56)), (1, .ref (gad (gX E) k0)), (2, .int x2), (3, .int x3), (4, .int x4)]) hX 5 dX2_fewestHours_116 rfl (by rw [ci_1]) (jb rfl) rfl ?_
  refine j_goto (pc := 119) hX 42 dX2_fewestHours_119 (by decide) ?_
  exact j_sub [1, 2, 3, 4, 5, 0] rfl (hc42 x2 x3 x4 (x5 + (1 : Int32)) M)
def pX2_fewestHours_95 (fu : Nat) (k0 : Nat) (x2 : Int32) (x4 : Int32) (x5 : Int32) (x6 : Int32) (M : Mem) (c42 : Int32 → Int32 → Int32 → Int32 → Mem → Res) : Res :=
  cpy M 57 58 4 fun M12 =>
  pX2_fewestHours_116 fu k0 x2 x6 x4 x5 M12 c42
set_option maxRecDepth 100000 in
theorem wX2_fewestHours_95 {E : jE} {X : jC} (hX : jOk X uX2_fewestHours (gX E)) (fu : Nat) (k0 : Nat) (hk0 : tX k0 = 4) (x2 : Int32) (x4 : Int32) (x5 : Int32) (x6 : Int32) (M : Mem) (c42 : Int32 → Int32 → Int32 → Int32 → Mem → Res) (hc42 : ∀ (x2 : Int32) (x3 : Int32) (x4 : Int32) (x5 : Int32) (M : Mem), J X uX2_fewestHours (gX E) 42 [(0, .ref (gad (gX E) 56)), (1, .ref (gad (gX E) k0)), (2, .int x2), (3, .int x3), (4, .int x4), (5, .int x5)] [] M (c42 x2 x3 x4 x5 M)) : J X uX2_fewestHours (gX E) 95 [(0, .ref (gad (gX E) 56)), (1, .ref (gad (gX E) k0)), (2, .int x2), (4, .int x4), (5, .int x5), (6, .int x6)] [] M (pX2_fewestHours_95 fu k0 x2 x4 x5 x6 M c42) := by
  unfold pX2_fewestHours_95
  refine j_iload (pc := 95) hX 5 dX2_fewestHours_95 rfl ?_
  refine j_istore_n (pc := 97) (lv' := [(3, .int x6), (0, .ref (gad (gX E) 56)), (1, .ref (gad (gX E) k0)), (2, .int x2), (4, .int x4), (5, .int x5), (6, .int x6)]) hX dX2_fewestHours_97 rfl (jb rfl) rfl ?_
  refine j_aload_n (pc := 98) hX 1 dX2_fewestHours_98 rfl rfl ?_
  refine j_getR (pc := 99) (t := 57) hX (jb rfl) rfl (ci := 2) (C := RX2) (T := TX2) (N := 4) rfl (jb rfl) inX2 (j := 2) (jb rfl) rfl tw_217 dX2_fewestHours_99 ?_
  refine j_iconst (pc := 102) (v := (0 : Int32)) hX dX2_fewestHours_102 ci_0 ?_
  refine j_aload_n (pc := 103) hX 1 dX2_fewestHours_103 rfl rfl ?_
  refine j_getR (pc := 104) (t := 58) hX (jb rfl) rfl (ci := 2) (C := RX2) (T := TX2) (N := 4) rfl (jb rfl) inX2 (j := 3) (jb rfl) rfl tw_218 dX2_fewestHours_104 ?_
  refine j_iconst (pc := 107) (v := (0 : Int32)) hX dX2_fewestHours_107 ci_0 ?_
  refine j_aload_n (pc := 108) hX 1 dX2_fewestHours_108 rfl rfl ?_
  refine j_getR (pc := 109) (t := 58) hX (jb rfl) rfl (ci := 2) (C := RX2) (T := TX2) (N := 4) rfl (jb rfl) inX2 (j := 3) (jb rfl) rfl tw_218 dX2_fewestHours_109 ?_
  refine j_alen (pc := 112) (n := 4) (v := (4 : Int32)) hX (jb rfl) rfl (Or.inl rfl) rfl (by decide) dX2_fewestHours_112 ?_
  refine j_copy (pc := 113) hX (jb rfl) (jb rfl) rfl rfl rfl rfl (by decide) (by decide) tw_757 tw_586 tw_585 tw_73 (Nat.le_of_ble_eq_true rfl) (Nat.le_of_ble_eq_true rfl) dX2_fewestHours_113 (fun M12 => ?_)
  exact j_sub [1, 2, 3, 0, 4, 5] rfl (wX2_fewestHours_116 hX fu k0 hk0 x2 x6 x4 x5 M12 c42 hc42)
def pX2_fewestHours_74 (fu : Nat) (k0 : Nat) (x2 : Int32) (x3 : Int32) (x4 : Int32) (x5 : Int32) (s0 : Int32) (M : Mem) (c42 : Int32 → Int32 → Int32 → Int32 → Mem → Res) : Res :=
  if s0 = (-4 : Int32) then (
    pX2_fewestHours_116 fu k0 x2 x3 x4 x5 M c42)
  else
  if x3 = (-4 : Int32) then (
    pX2_fewestHours_95 fu k0 x2 x4 x5 s0 M c42)
  else
  if x3 ≤ s0 then (
    pX2_fewestHours_116 fu k0 x2 x3 x4 x5 M c42)
  else
  pX2_fewestHours_95 fu k0 x2 x4 x5 s0 M c42
set_option maxRecDepth 100000 in
theorem wX2_fewestHours_74 {E : jE} {X : jC} (hX : jOk X uX2_fewestHours (gX E)) (fu : Nat) (k0 : Nat) (hk0 : tX k0 = 4) (x2 : Int32) (x3 : Int32) (x4 : Int32) (x5 : Int32) (s0 : Int32) (M : Mem) (c42 : Int32 → Int32 → Int32 → Int32 → Mem → Res) (hc42 : ∀ (x2 : Int32) (x3 : Int32) (x4 : Int32) (x5 : Int32) (M : Mem), J X uX2_fewestHours (gX E) 42 [(0, .ref (gad (gX E) 56)), (1, .ref (gad (gX E) k0)), (2, .int x2), (3, .int x3), (4, .int x4), (5, .int x5)] [] M (c42 x2 x3 x4 x5 M)) : J X uX2_fewestHours (gX E) 74 [(0, .ref (gad (gX E) 56)), (1, .ref (gad (gX E) k0)), (2, .int x2), (3, .int x3), (4, .int x4), (5, .int x5)] [.int s0] M (pX2_fewestHours_74 fu k0 x2 x3 x4 x5 s0 M c42) := by
  unfold pX2_fewestHours_74
  refine j_istore (pc := 74) (lv' := [(6, .int s0), (0, .ref (gad (gX E) 56)), (1, .ref (gad (gX E) k0)), (2, .int x2), (3, .int x3), (4, .int x4), (5, .int x5)]) hX dX2_fewestHours_74 (jb rfl) rfl ?_
  refine j_iload (pc := 76) hX 0 dX2_fewestHours_76 rfl ?_
  refine j_bipush (pc := 78) (v := (-4 : Int32)) hX dX2_fewestHours_78 cb_m4 ?_
  refine j_icmp_eq (pc := 80) hX 116 dX2_fewestHours_80 (by decide) ?_ ?_
  · exact j_sub [1, 2, 3, 4, 5, 6] rfl (wX2_fewestHours_116 hX fu k0 hk0 x2 x3 x4 x5 M c42 hc42)
  · refine j_iload_n (pc := 83) hX 4 dX2_fewestHours_83 rfl rfl ?_
    refine j_bipush (pc := 84) (v := (-4 : Int32)) hX dX2_fewestHours_84 cb_m4 ?_
    refine j_icmp_eq (pc := 86) hX 95 dX2_fewestHours_86 (by decide) ?_ ?_
    · exact j_sub [1, 2, 3, 5, 6, 0] rfl (wX2_fewestHours_95 hX fu k0 hk0 x2 x4 x5 s0 M c42 hc42)
    · refine j_iload (pc := 89) hX 0 dX2_fewestHours_89 rfl ?_
      refine j_iload_n (pc := 91) hX 4 dX2_fewestHours_91 rfl rfl ?_
      refine j_icmp_ge (pc := 92) hX 116 dX2_fewestHours_92 (by decide) ?_ ?_
      · exact j_sub [1, 2, 3, 4, 5, 6] rfl (wX2_fewestHours_116 hX fu k0 hk0 x2 x3 x4 x5 M c42 hc42)
      · exact j_sub [1, 2, 3, 5, 6, 0] rfl (wX2_fewestHours_95 hX fu k0 hk0 x2 x4 x5 s0 M c42 hc42)
def pX2_fewestHours_42b (fu : Nat) (k0 : Nat) (x2 : Int32) (x3 : Int32) (x4 : Int32) (x5 : Int32) (M : Mem) (c42 : Int32 → Int32 → Int32 → Int32 → Mem → Res) : Res :=
  if x4 ≤ x5 then (
    some (x3, M))
  else
  bV (pX2_pick fu x5 M) fun M9 =>
  bI (pX2_sendHand fu k0 x2 M9) fun r11 M10 =>
  if r11 = 0 then (
    pX2_fewestHours_74 fu k0 x2 x3 x4 x5 (-4 : Int32) M10 c42)
  else
  bI (pX2_awaitHand fu x2 M10) fun r14 M13 =>
  pX2_fewestHours_74 fu k0 x2 x3 x4 x5 r14 M13 c42
set_option maxRecDepth 100000 in
theorem wX2_fewestHours_42b {E : jE} {X : jC} (hX : jOk X uX2_fewestHours (gX E)) (fu : Nat) (k0 : Nat) (hk0 : tX k0 = 4) (x2 : Int32) (x3 : Int32) (x4 : Int32) (x5 : Int32) (M : Mem) (c42 : Int32 → Int32 → Int32 → Int32 → Mem → Res) (hc42 : ∀ (x2 : Int32) (x3 : Int32) (x4 : Int32) (x5 : Int32) (M : Mem), J X uX2_fewestHours (gX E) 42 [(0, .ref (gad (gX E) 56)), (1, .ref (gad (gX E) k0)), (2, .int x2), (3, .int x3), (4, .int x4), (5, .int x5)] [] M (c42 x2 x3 x4 x5 M)) : J X uX2_fewestHours (gX E) 42 [(0, .ref (gad (gX E) 56)), (1, .ref (gad (gX E) k0)), (2, .int x2), (3, .int x3), (4, .int x4), (5, .int x5)] [] M (pX2_fewestHours_42b fu k0 x2 x3 x4 x5 M c42) := by
  unfold pX2_fewestHours_42b
  refine j_iload (pc := 42) hX 5 dX2_fewestHours_42 rfl ?_
  refine j_iload (pc := 44) hX 4 dX2_fewestHours_44 rfl ?_
  refine j_icmp_ge (pc := 46) hX 122 dX2_fewestHours_46 (by decide) ?_ ?_
  · refine j_iload_n (pc := 122) hX 3 dX2_fewestHours_122 rfl rfl ?_
    exact j_iret (pc := 123) hX rfl dX2_fewestHours_123
  · refine j_aload_n (pc := 49) hX 0 dX2_fewestHours_49 rfl rfl ?_
    refine j_iload (pc := 50) hX 5 dX2_fewestHours_50 rfl ?_
    refine j_callVv (pc := 52) hX [.int x5] (mX2_pick _ E hX.2.2.2.2.2.2.2.2.1 fu   x5 M) qX2_pick tw_733 (jb rfl) rfl (ci := 2) (T := TX2) (N := 4) rfl (jb rfl) rfl ⟨rfl, rfl⟩ ⟨(Nat.le_of_ble_eq_true rfl), (Nat.le_of_ble_eq_true rfl)⟩ (Nat.le_of_ble_eq_true rfl) dX2_fewestHours_52 rfl (fun M9 => ?_)
    refine j_aload_n (pc := 55) hX 0 dX2_fewestHours_55 rfl rfl ?_
    refine j_aload_n (pc := 56) hX 1 dX2_fewestHours_56 rfl rfl ?_
    refine j_iload_n (pc := 57) hX 2 dX2_fewestHours_57 rfl rfl ?_
    refine j_callV (pc := 58) hX [.ref (gad (gX E) k0), .int x2] (mX2_sendHand _ E hX.2.2.2.2.2.2.2.2.1 fu k0 hk0 x2 M9) qX2_sendHand tw_738 (jb rfl) rfl (ci := 2) (T := TX2) (N := 4) rfl (jb rfl) rfl ⟨rfl, rfl⟩ ⟨(Nat.le_of_ble_eq_true rfl), (Nat.le_of_ble_eq_true rfl)⟩ (Nat.le_of_ble_eq_true rfl) dX2_fewestHours_58 (fun _ => rfl) rfl (fun r11 M10 => ?_)
    refine j_if_eq (pc := 61) hX 72 dX2_fewestHours_61 (by decide) ?_ ?_
    · refine j_bipush (pc := 72) (v := (-4 : Int32)) hX dX2_fewestHours_72 cb_m4 ?_
      exact j_sub [0, 1, 2, 3, 4, 5] rfl (wX2_fewestHours_74 hX fu k0 hk0 x2 x3 x4 x5 (-4 : Int32) M10 c42 hc42)
    · refine j_aload_n (pc := 64) hX 0 dX2_fewestHours_64 rfl rfl ?_
      refine j_iload_n (pc := 65) hX 2 dX2_fewestHours_65 rfl rfl ?_
      refine j_callV (pc := 66) hX [.int x2] (mX2_awaitHand _ E hX.2.2.2.2.2.2.2.2.1 fu   x2 M10) qX2_awaitHand tw_747 (jb rfl) rfl (ci := 2) (T := TX2) (N := 4) rfl (jb rfl) rfl ⟨rfl, rfl⟩ ⟨(Nat.le_of_ble_eq_true rfl), (Nat.le_of_ble_eq_true rfl)⟩ (Nat.le_of_ble_eq_true rfl) dX2_fewestHours_66 (fun _ => rfl) rfl (fun r14 M13 => ?_)
      refine j_goto (pc := 69) hX 74 dX2_fewestHours_69 (by decide) ?_
      exact j_sub [0, 1, 2, 3, 4, 5] rfl (wX2_fewestHours_74 hX fu k0 hk0 x2 x3 x4 x5 r14 M13 c42 hc42)
def pX2_fewestHours_42 (fu : Nat) (k0 : Nat)  : Nat → Int32 → Int32 → Int32 → Int32 → Mem → Res
  | 0, _, _, _, _, _ => none
  | n + 1, x2, x3, x4, x5, M => pX2_fewestHours_42b fu k0 x2 x3 x4 x5 M (pX2_fewestHours_42 fu k0  n)
theorem wX2_fewestHours_42 {E : jE} {X : jC} (hX : jOk X uX2_fewestHours (gX E)) (fu : Nat) (k0 : Nat) (hk0 : tX k0 = 4)   : ∀ (n : Nat) (x2 : Int32) (x3 : Int32) (x4 : Int32) (x5 : Int32) (M : Mem), J X uX2_fewestHours (gX E) 42 [(0, .ref (gad (gX E) 56)), (1, .ref (gad (gX E) k0)), (2, .int x2), (3, .int x3), (4, .int x4), (5, .int x5)] [] M (pX2_fewestHours_42 fu k0  n x2 x3 x4 x5 M) := by
  intro n
  induction n with
  | zero => intro x2 x3 x4 x5 M; exact j_none
  | succ n ih => intro x2 x3 x4 x5 M; exact wX2_fewestHours_42b hX fu k0 hk0 x2 x3 x4 x5 M (pX2_fewestHours_42 fu k0  n) ih
def pX2_fewestHours (fu : Nat) (k0 : Nat) (x2 : Int32) (M : Mem) : Res :=
  pX2_fewestHours_9 fu k0
    (fun y5 y6 y7 M8 =>
      pX2_fewestHours_42 fu k0
        fu y5 y6 y7 (0 : Int32) M8)
    fu x2 (-4 : Int32) (1 : Int32) (0 : Int32) M
set_option maxRecDepth 100000 in
theorem wX2_fewestHours {E : jE} {X : jC} (hX : jOk X uX2_fewestHours (gX E)) (fu : Nat) (k0 : Nat) (hk0 : tX k0 = 4) (x2 : Int32) (M : Mem) : J X uX2_fewestHours (gX E) 0 [(0, .ref (gad (gX E) 56)), (1, .ref (gad (gX E) k0)), (2, .int x2)] [] M (pX2_fewestHours fu k0 x2 M) := by
  unfold pX2_fewestHours
  refine j_bipush (pc := 0) (v := (-4 : Int32)) hX dX2_fewestHours_0 cb_m4 ?_
  refine j_istore_n (pc := 2) (lv' := [(3, .int (-4 : Int32)), (0, .ref (gad (gX E) 56)), (1, .ref (gad (gX E) k0)), (2, .int x2)]) hX dX2_fewestHours_2 rfl (jb rfl) rfl ?_
  refine j_iconst (pc := 3) (v := (1 : Int32)) hX dX2_fewestHours_3 ci_1 ?_
  refine j_istore (pc := 4) (lv' := [(4, .int (1 : Int32)), (3, .int (-4 : Int32)), (0, .ref (gad (gX E) 56)), (1, .ref (gad (gX E) k0)), (2, .int x2)]) hX dX2_fewestHours_4 (jb rfl) rfl ?_
  refine j_iconst (pc := 6) (v := (0 : Int32)) hX dX2_fewestHours_6 ci_0 ?_
  refine j_istore (pc := 7) (lv' := [(5, .int (0 : Int32)), (4, .int (1 : Int32)), (3, .int (-4 : Int32)), (0, .ref (gad (gX E) 56)), (1, .ref (gad (gX E) k0)), (2, .int x2)]) hX dX2_fewestHours_7 (jb rfl) rfl ?_
  refine j_sub [3, 4, 5, 2, 1, 0] rfl (wX2_fewestHours_9 hX fu k0 hk0 _ ?_ fu x2 (-4 : Int32) (1 : Int32) (0 : Int32) M)
  · intro y5 y6 y7 M8
    refine j_iconst (pc := 39) (v := (0 : Int32)) hX dX2_fewestHours_39 ci_0 ?_
    refine j_istore (pc := 40) (lv' := [(5, .int (0 : Int32)), (0, .ref (gad (gX E) 56)), (1, .ref (gad (gX E) k0)), (2, .int y5), (3, .int y6), (4, .int y7)]) hX dX2_fewestHours_40 (jb rfl) rfl ?_
    refine j_sub [1, 2, 3, 4, 5, 0] rfl (wX2_fewestHours_42 hX fu k0 hk0   fu y5 y6 y7 (0 : Int32) M8)
theorem mX2_fewestHours (l : Launch) (E : jE) (hI : jInj (gX E)) (fu : Nat) (k0 : Nat) (hk0 : tX k0 = 4) (x2 : Int32) (M : Mem) : jMet l (gX E) yX2_fewestHours cX2_fewestHours 7 (some .int) rX2_fewestHours [.ref (gad (gX E) 56), .ref (gad (gX E) k0), .int x2] M (pX2_fewestHours fu k0 x2 M) :=
  j_entry hI (by decide +kernel) (Nat.le_of_ble_eq_true rfl) rfl (fun X _ hX => wX2_fewestHours hX fu k0 hk0 x2 M)
theorem qX2_beastAt : jYv yX2_beastAt cX2_beastAt 2 (some .int) 1 := ⟨tw_759, tw_760, tw_64, tw_761, ⟨by decide +kernel, by decide +kernel, by decide +kernel⟩⟩
abbrev rX2_beastAt : Room := { frames := 1, cells := 0, slots := 0, locals := 21 }
def uX2_beastAt : jM := (cX2_beastAt, 2, RX2, (some .int), rX2_beastAt)
def pX2_beastAt (fu : Nat) (x1 : Int32) (M : Mem) : Res :=
  bI (pX6_at fu 58 4 x1 M) fun r2 M1 =>
  some (r2, M1)
set_option maxRecDepth 100000 in
theorem wX2_beastAt {E : jE} {X : jC} (hX : jOk X uX2_beastAt (gX E)) (fu : Nat)  (x1 : Int32) (M : Mem) : J X uX2_beastAt (gX E) 0 [(0, .ref (gad (gX E) 56)), (1, .int x1)] [] M (pX2_beastAt fu  x1 M) := by
  unfold pX2_beastAt
  refine j_aload_n (pc := 0) hX 0 dX2_beastAt_0 rfl rfl ?_
  refine j_getR (pc := 1) (t := 58) hX (jb rfl) rfl (ci := 2) (C := RX2) (T := TX2) (N := 4) rfl (jb rfl) inX2 (j := 3) (jb rfl) rfl tw_218 dX2_beastAt_1 ?_
  refine j_iload_n (pc := 4) hX 1 dX2_beastAt_4 rfl rfl ?_
  refine j_callS (pc := 5) hX [.ref (gad (gX E) 58), .int x1] (mX6_at _ E hX.2.2.2.2.2.2.2.2.1 fu 58 4 rfl rfl x1 M) qX6_at tw_743 rfl ⟨rfl, rfl⟩ ⟨(Nat.le_of_ble_eq_true rfl), (Nat.le_of_ble_eq_true rfl)⟩ (Nat.le_of_ble_eq_true rfl) dX2_beastAt_5 (fun _ => rfl) rfl (fun r2 M1 => ?_)
  exact j_iret (pc := 8) hX rfl dX2_beastAt_8
theorem mX2_beastAt (l : Launch) (E : jE) (hI : jInj (gX E)) (fu : Nat)  (x1 : Int32) (M : Mem) : jMet l (gX E) yX2_beastAt cX2_beastAt 2 (some .int) rX2_beastAt [.ref (gad (gX E) 56), .int x1] M (pX2_beastAt fu  x1 M) :=
  j_entry hI (by decide +kernel) (Nat.le_of_ble_eq_true rfl) rfl (fun X _ hX => wX2_beastAt hX fu   x1 M)
theorem qX3_awaitBeast : jYv yX3_awaitBeast cX3_awaitBeast 3 (some .int) 1 := ⟨tw_675, tw_9, tw_63, tw_676, ⟨by decide +kernel, by decide +kernel, by decide +kernel⟩⟩
abbrev rX3_awaitBeast : Room := { frames := 5, cells := 0, slots := 0, locals := 117 }
def uX3_awaitBeast : jM := (cX3_awaitBeast, 3, RX3, (some .int), rX3_awaitBeast)
def pX3_awaitBeast_2b (fu : Nat) (x1 : Int32) (x2 : Int32) (M : Mem) (c2 : Int32 → Int32 → Mem → Res) (c37 : Int32 → Mem → Res) : Res :=
  if (99 : Int32) ≤ x2 then (
    c37 x1 M)
  else
  bI (pX4_is fu 54 x1 (2 : Int32) M) fun r2 M1 =>
  if r2 = 0 then (
    bV (pX4_goOn fu 54 (-4 : Int32) M1) fun M3 =>
    c2 x1 (x2 + (1 : Int32)) M3)
  else
  some (x2, M1)
set_option maxRecDepth 100000 in
theorem wX3_awaitBeast_2b {E : jE} {X : jC} (hX : jOk X uX3_awaitBeast (gX E)) (fu : Nat)  (x1 : Int32) (x2 : Int32) (M : Mem) (c2 : Int32 → Int32 → Mem → Res) (c37 : Int32 → Mem → Res) (hc2 : ∀ (x1 : Int32) (x2 : Int32) (M : Mem), J X uX3_awaitBeast (gX E) 2 [(0, .ref (gad (gX E) 53)), (1, .int x1), (2, .int x2)] [] M (c2 x1 x2 M)) (hc37 : ∀ (x1 : Int32) (M : Mem), J X uX3_awaitBeast (gX E) 37 [(0, .ref (gad (gX E) 53)), (1, .int x1)] [] M (c37 x1 M)) : J X uX3_awaitBeast (gX E) 2 [(0, .ref (gad (gX E) 53)), (1, .int x1), (2, .int x2)] [] M (pX3_awaitBeast_2b fu  x1 x2 M c2 c37) := by
  unfold pX3_awaitBeast_2b
  refine j_iload_n (pc := 2) hX 2 dX3_awaitBeast_2 rfl rfl ?_
  refine j_bipush (pc := 3) (v := (99 : Int32)) hX dX3_awaitBeast_3 cb_99 ?_
  refine j_icmp_ge (pc := 5) hX 37 dX3_awaitBeast_5 (by decide) ?_ ?_
  · exact j_sub [0, 1] rfl (hc37 x1 M)
  · refine j_aload_n (pc := 8) hX 0 dX3_awaitBeast_8 rfl rfl ?_
    refine j_getR (pc := 9) (t := 54) hX (jb rfl) rfl (ci := 3) (C := RX3) (T := TX3) (N := 2) rfl (jb rfl) inX3 (j := 1) (jb rfl) rfl tw_201 dX3_awaitBeast_9 ?_
    refine j_iload_n (pc := 12) hX 1 dX3_awaitBeast_12 rfl rfl ?_
    refine j_iconst (pc := 13) (v := (2 : Int32)) hX dX3_awaitBeast_13 ci_2 ?_
    refine j_callV (pc := 14) hX [.int x1, .int (2 : Int32)] (mX4_is _ E hX.2.2.2.2.2.2.2.2.1 fu 54 rfl x1 (2 : Int32) M) qX4_is tw_677 (jb rfl) rfl (ci := 4) (T := TX4) (N := 2) rfl (jb rfl) rfl ⟨rfl, rfl⟩ ⟨(Nat.le_of_ble_eq_true rfl), (Nat.le_of_ble_eq_true rfl)⟩ (Nat.le_of_ble_eq_true rfl) dX3_awaitBeast_14 (fun _ => rfl) rfl (fun r2 M1 => ?_)
    refine j_if_eq (pc := 17) hX 22 dX3_awaitBeast_17 (by decide) ?_ ?_
    · refine j_aload_n (pc := 22) hX 0 dX3_awaitBeast_22 rfl rfl ?_
      refine j_getR (pc := 23) (t := 54) hX (jb rfl) rfl (ci := 3) (C := RX3) (T := TX3) (N := 2) rfl (jb rfl) inX3 (j := 1) (jb rfl) rfl tw_201 dX3_awaitBeast_23 ?_
      refine j_bipush (pc := 26) (v := (-4 : Int32)) hX dX3_awaitBeast_26 cb_m4 ?_
      refine j_callVv (pc := 28) hX [.int (-4 : Int32)] (mX4_goOn _ E hX.2.2.2.2.2.2.2.2.1 fu 54 rfl (-4 : Int32) M1) qX4_goOn tw_678 (jb rfl) rfl (ci := 4) (T := TX4) (N := 2) rfl (jb rfl) rfl ⟨rfl, rfl⟩ ⟨(Nat.le_of_ble_eq_true rfl), (Nat.le_of_ble_eq_true rfl)⟩ (Nat.le_of_ble_eq_true rfl) dX3_awaitBeast_28 rfl (fun M3 => ?_)
      refine j_iinc (pc := 31) (v := (x2 + (1 : Int32))) (lv' := [(2, .int (x2 + (1 : Int32))), (0, .ref (gad (gX E) 53)), (1, .int x1)]) hX 2 dX3_awaitBeast_31 rfl (by rw [ci_1]) (jb rfl) rfl ?_
      refine j_goto (pc := 34) hX 2 dX3_awaitBeast_34 (by decide) ?_
      exact j_sub [1, 2, 0] rfl (hc2 x1 (x2 + (1 : Int32)) M3)
    · refine j_iload_n (pc := 20) hX 2 dX3_awaitBeast_20 rfl rfl ?_
      exact j_iret (pc := 21) hX rfl dX3_awaitBeast_21
def pX3_awaitBeast_2 (fu : Nat) (c37 : Int32 → Mem → Res) : Nat → Int32 → Int32 → Mem → Res
  | 0, _, _, _ => none
  | n + 1, x1, x2, M => pX3_awaitBeast_2b fu  x1 x2 M (pX3_awaitBeast_2 fu  c37 n) c37
theorem wX3_awaitBeast_2 {E : jE} {X : jC} (hX : jOk X uX3_awaitBeast (gX E)) (fu : Nat)  (c37 : Int32 → Mem → Res) (hc37 : ∀ (x1 : Int32) (M : Mem), J X uX3_awaitBeast (gX E) 37 [(0, .ref (gad (gX E) 53)), (1, .int x1)] [] M (c37 x1 M)) : ∀ (n : Nat) (x1 : Int32) (x2 : Int32) (M : Mem), J X uX3_awaitBeast (gX E) 2 [(0, .ref (gad (gX E) 53)), (1, .int x1), (2, .int x2)] [] M (pX3_awaitBeast_2 fu  c37 n x1 x2 M) := by
  intro n
  induction n with
  | zero => intro x1 x2 M; exact j_none
  | succ n ih => intro x1 x2 M; exact wX3_awaitBeast_2b hX fu   x1 x2 M (pX3_awaitBeast_2 fu  c37 n) c37 ih hc37
def pX3_awaitBeast (fu : Nat) (x1 : Int32) (M : Mem) : Res :=
  pX3_awaitBeast_2 fu
    (fun y4 M5 =>
      bI (pX4_is fu 54 y4 (2 : Int32) M5) fun r7 M6 =>
      if r7 = 0 then (
        some ((-4 : Int32), M6))
      else
      some ((99 : Int32), M6))
    fu x1 (0 : Int32) M
set_option maxRecDepth 100000 in
theorem wX3_awaitBeast {E : jE} {X : jC} (hX : jOk X uX3_awaitBeast (gX E)) (fu : Nat)  (x1 : Int32) (M : Mem) : J X uX3_awaitBeast (gX E) 0 [(0, .ref (gad (gX E) 53)), (1, .int x1)] [] M (pX3_awaitBeast fu  x1 M) := by
  unfold pX3_awaitBeast
  refine j_iconst (pc := 0) (v := (0 : Int32)) hX dX3_awaitBeast_0 ci_0 ?_
  refine j_istore_n (pc := 1) (lv' := [(2, .int (0 : Int32)), (0, .ref (gad (gX E) 53)), (1, .int x1)]) hX dX3_awaitBeast_1 rfl (jb rfl) rfl ?_
  refine j_sub [1, 2, 0] rfl (wX3_awaitBeast_2 hX fu   _ ?_ fu x1 (0 : Int32) M)
  · intro y4 M5
    refine j_aload_n (pc := 37) hX 0 dX3_awaitBeast_37 rfl rfl ?_
    refine j_getR (pc := 38) (t := 54) hX (jb rfl) rfl (ci := 3) (C := RX3) (T := TX3) (N := 2) rfl (jb rfl) inX3 (j := 1) (jb rfl) rfl tw_201 dX3_awaitBeast_38 ?_
    refine j_iload_n (pc := 41) hX 1 dX3_awaitBeast_41 rfl rfl ?_
    refine j_iconst (pc := 42) (v := (2 : Int32)) hX dX3_awaitBeast_42 ci_2 ?_
    refine j_callV (pc := 43) hX [.int y4, .int (2 : Int32)] (mX4_is _ E hX.2.2.2.2.2.2.2.2.1 fu 54 rfl y4 (2 : Int32) M5) qX4_is tw_677 (jb rfl) rfl (ci := 4) (T := TX4) (N := 2) rfl (jb rfl) rfl ⟨rfl, rfl⟩ ⟨(Nat.le_of_ble_eq_true rfl), (Nat.le_of_ble_eq_true rfl)⟩ (Nat.le_of_ble_eq_true rfl) dX3_awaitBeast_43 (fun _ => rfl) rfl (fun r7 M6 => ?_)
    refine j_if_eq (pc := 46) hX 54 dX3_awaitBeast_46 (by decide) ?_ ?_
    · refine j_bipush (pc := 54) (v := (-4 : Int32)) hX dX3_awaitBeast_54 cb_m4 ?_
      exact j_iret (pc := 56) hX rfl dX3_awaitBeast_56
    · refine j_bipush (pc := 49) (v := (99 : Int32)) hX dX3_awaitBeast_49 cb_99 ?_
      refine j_goto (pc := 51) hX 56 dX3_awaitBeast_51 (by decide) ?_
      exact j_iret (pc := 56) hX rfl dX3_awaitBeast_56
theorem mX3_awaitBeast (l : Launch) (E : jE) (hI : jInj (gX E)) (fu : Nat)  (x1 : Int32) (M : Mem) : jMet l (gX E) yX3_awaitBeast cX3_awaitBeast 3 (some .int) rX3_awaitBeast [.ref (gad (gX E) 53), .int x1] M (pX3_awaitBeast fu  x1 M) :=
  j_entry hI (by decide +kernel) (Nat.le_of_ble_eq_true rfl) rfl (fun X _ hX => wX3_awaitBeast hX fu   x1 M)
theorem qX3_hoursTill : jYv yX3_hoursTill cX3_hoursTill 3 (some .int) 2 := ⟨tw_669, tw_670, tw_63, tw_671, ⟨by decide +kernel, by decide +kernel, by decide +kernel⟩⟩
abbrev rX3_hoursTill : Room := { frames := 6, cells := 0, slots := 0, locals := 139 }
def uX3_hoursTill : jM := (cX3_hoursTill, 3, RX3, (some .int), rX3_hoursTill)
def pX3_hoursTill (fu : Nat) (k0 : Nat) (x2 : Int32) (M : Mem) : Res :=
  bV (pX4_copy fu 54 k0 M) fun M1 =>
  bI (pX3_awaitBeast fu x2 M1) fun r3 M2 =>
  some (r3, M2)
set_option maxRecDepth 100000 in
theorem wX3_hoursTill {E : jE} {X : jC} (hX : jOk X uX3_hoursTill (gX E)) (fu : Nat) (k0 : Nat) (hk0 : tX k0 = 4) (x2 : Int32) (M : Mem) : J X uX3_hoursTill (gX E) 0 [(0, .ref (gad (gX E) 53)), (1, .ref (gad (gX E) k0)), (2, .int x2)] [] M (pX3_hoursTill fu k0 x2 M) := by
  unfold pX3_hoursTill
  refine j_aload_n (pc := 0) hX 0 dX3_hoursTill_0 rfl rfl ?_
  refine j_getR (pc := 1) (t := 54) hX (jb rfl) rfl (ci := 3) (C := RX3) (T := TX3) (N := 2) rfl (jb rfl) inX3 (j := 1) (jb rfl) rfl tw_201 dX3_hoursTill_1 ?_
  refine j_aload_n (pc := 4) hX 1 dX3_hoursTill_4 rfl rfl ?_
  refine j_callVv (pc := 5) hX [.ref (gad (gX E) k0)] (mX4_copy _ E hX.2.2.2.2.2.2.2.2.1 fu 54 k0 rfl hk0  M) qX4_copy tw_672 (jb rfl) rfl (ci := 4) (T := TX4) (N := 2) rfl (jb rfl) rfl ⟨rfl, rfl⟩ ⟨(Nat.le_of_ble_eq_true rfl), (Nat.le_of_ble_eq_true rfl)⟩ (Nat.le_of_ble_eq_true rfl) dX3_hoursTill_5 rfl (fun M1 => ?_)
  refine j_aload_n (pc := 8) hX 0 dX3_hoursTill_8 rfl rfl ?_
  refine j_iload_n (pc := 9) hX 2 dX3_hoursTill_9 rfl rfl ?_
  refine j_callV (pc := 10) hX [.int x2] (mX3_awaitBeast _ E hX.2.2.2.2.2.2.2.2.1 fu   x2 M1) qX3_awaitBeast tw_673 (jb rfl) rfl (ci := 3) (T := TX3) (N := 2) rfl (jb rfl) rfl ⟨rfl, rfl⟩ ⟨(Nat.le_of_ble_eq_true rfl), (Nat.le_of_ble_eq_true rfl)⟩ (Nat.le_of_ble_eq_true rfl) dX3_hoursTill_10 (fun _ => rfl) rfl (fun r3 M2 => ?_)
  exact j_iret (pc := 13) hX rfl dX3_hoursTill_13
theorem mX3_hoursTill (l : Launch) (E : jE) (hI : jInj (gX E)) (fu : Nat) (k0 : Nat) (hk0 : tX k0 = 4) (x2 : Int32) (M : Mem) : jMet l (gX E) yX3_hoursTill cX3_hoursTill 3 (some .int) rX3_hoursTill [.ref (gad (gX E) 53), .ref (gad (gX E) k0), .int x2] M (pX3_hoursTill fu k0 x2 M) :=
  j_entry hI (by decide +kernel) (Nat.le_of_ble_eq_true rfl) rfl (fun X _ hX => wX3_hoursTill hX fu k0 hk0 x2 M)
theorem qX3_readOf : jYv yX3_readOf cX3_readOf 3 (some .int) 2 := ⟨tw_684, tw_685, tw_63, tw_686, ⟨by decide +kernel, by decide +kernel, by decide +kernel⟩⟩
abbrev rX3_readOf : Room := { frames := 6, cells := 0, slots := 0, locals := 139 }
def uX3_readOf : jM := (cX3_readOf, 3, RX3, (some .int), rX3_readOf)
def pX3_readOf (fu : Nat) (k0 : Nat) (x2 : Int32) (M : Mem) : Res :=
  bV (pX4_copy fu 54 k0 M) fun M1 =>
  bI (pX3_awaitBeast fu x2 M1) fun r3 M2 =>
  if r3 = (-4 : Int32) then (
    some ((-4 : Int32), M2))
  else
  bI (pX4_readOf fu 54 x2 M2) fun r5 M4 =>
  some (r5, M4)
set_option maxRecDepth 100000 in
theorem wX3_readOf {E : jE} {X : jC} (hX : jOk X uX3_readOf (gX E)) (fu : Nat) (k0 : Nat) (hk0 : tX k0 = 4) (x2 : Int32) (M : Mem) : J X uX3_readOf (gX E) 0 [(0, .ref (gad (gX E) 53)), (1, .ref (gad (gX E) k0)), (2, .int x2)] [] M (pX3_readOf fu k0 x2 M) := by
  unfold pX3_readOf
  refine j_aload_n (pc := 0) hX 0 dX3_readOf_0 rfl rfl ?_
  refine j_getR (pc := 1) (t := 54) hX (jb rfl) rfl (ci := 3) (C := RX3) (T := TX3) (N := 2) rfl (jb rfl) inX3 (j := 1) (jb rfl) rfl tw_201 dX3_readOf_1 ?_
  refine j_aload_n (pc := 4) hX 1 dX3_readOf_4 rfl rfl ?_
  refine j_callVv (pc := 5) hX [.ref (gad (gX E) k0)] (mX4_copy _ E hX.2.2.2.2.2.2.2.2.1 fu 54 k0 rfl hk0  M) qX4_copy tw_672 (jb rfl) rfl (ci := 4) (T := TX4) (N := 2) rfl (jb rfl) rfl ⟨rfl, rfl⟩ ⟨(Nat.le_of_ble_eq_true rfl), (Nat.le_of_ble_eq_true rfl)⟩ (Nat.le_of_ble_eq_true rfl) dX3_readOf_5 rfl (fun M1 => ?_)
  refine j_aload_n (pc := 8) hX 0 dX3_readOf_8 rfl rfl ?_
  refine j_iload_n (pc := 9) hX 2 dX3_readOf_9 rfl rfl ?_
  refine j_callV (pc := 10) hX [.int x2] (mX3_awaitBeast _ E hX.2.2.2.2.2.2.2.2.1 fu   x2 M1) qX3_awaitBeast tw_673 (jb rfl) rfl (ci := 3) (T := TX3) (N := 2) rfl (jb rfl) rfl ⟨rfl, rfl⟩ ⟨(Nat.le_of_ble_eq_true rfl), (Nat.le_of_ble_eq_true rfl)⟩ (Nat.le_of_ble_eq_true rfl) dX3_readOf_10 (fun _ => rfl) rfl (fun r3 M2 => ?_)
  refine j_bipush (pc := 13) (v := (-4 : Int32)) hX dX3_readOf_13 cb_m4 ?_
  refine j_icmp_ne (pc := 15) hX 23 dX3_readOf_15 (by decide) ?_ ?_
  · refine j_aload_n (pc := 23) hX 0 dX3_readOf_23 rfl rfl ?_
    refine j_getR (pc := 24) (t := 54) hX (jb rfl) rfl (ci := 3) (C := RX3) (T := TX3) (N := 2) rfl (jb rfl) inX3 (j := 1) (jb rfl) rfl tw_201 dX3_readOf_24 ?_
    refine j_iload_n (pc := 27) hX 2 dX3_readOf_27 rfl rfl ?_
    refine j_callV (pc := 28) hX [.int x2] (mX4_readOf _ E hX.2.2.2.2.2.2.2.2.1 fu 54 rfl x2 M2) qX4_readOf tw_687 (jb rfl) rfl (ci := 4) (T := TX4) (N := 2) rfl (jb rfl) rfl ⟨rfl, rfl⟩ ⟨(Nat.le_of_ble_eq_true rfl), (Nat.le_of_ble_eq_true rfl)⟩ (Nat.le_of_ble_eq_true rfl) dX3_readOf_28 (fun _ => rfl) rfl (fun r5 M4 => ?_)
    exact j_iret (pc := 31) hX rfl dX3_readOf_31
  · refine j_bipush (pc := 18) (v := (-4 : Int32)) hX dX3_readOf_18 cb_m4 ?_
    refine j_goto (pc := 20) hX 31 dX3_readOf_20 (by decide) ?_
    exact j_iret (pc := 31) hX rfl dX3_readOf_31
theorem mX3_readOf (l : Launch) (E : jE) (hI : jInj (gX E)) (fu : Nat) (k0 : Nat) (hk0 : tX k0 = 4) (x2 : Int32) (M : Mem) : jMet l (gX E) yX3_readOf cX3_readOf 3 (some .int) rX3_readOf [.ref (gad (gX E) 53), .ref (gad (gX E) k0), .int x2] M (pX3_readOf fu k0 x2 M) :=
  j_entry hI (by decide +kernel) (Nat.le_of_ble_eq_true rfl) rfl (fun X _ hX => wX3_readOf hX fu k0 hk0 x2 M)
