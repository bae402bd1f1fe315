theorem dX10_place_0 : decode cX10_place 0 = .ok (.aload_n 0, 1) := by decide +kernel
theorem dX10_place_1 : decode cX10_place 1 = .ok (.iload_n 1, 1) := by decide +kernel
theorem dX10_place_2 : decode cX10_place 2 = .ok (.invokevirtual 166, 3) := by decide +kernel
theorem dX10_place_5 : decode cX10_place 5 = .ok (.ifCond .eq 15, 3) := by decide +kernel
theorem dX10_place_8 : decode cX10_place 8 = .ok (.iload_n 2, 1) := by decide +kernel
theorem dX10_place_9 : decode cX10_place 9 = .ok (.i2l, 1) := by decide +kernel
theorem dX10_place_10 : decode cX10_place 10 = .ok (.lconst 0, 1) := by decide +kernel
theorem dX10_place_11 : decode cX10_place 11 = .ok (.ldc2_w 170, 3) := by decide +kernel
theorem dX10_place_14 : decode cX10_place 14 = .ok (.invokestatic 108, 3) := by decide +kernel
theorem dX10_place_17 : decode cX10_place 17 = .ok (.ifCond .ne 5, 3) := by decide +kernel
theorem dX10_place_20 : decode cX10_place 20 = .ok (.iconst (-1), 1) := by decide +kernel
theorem dX10_place_21 : decode cX10_place 21 = .ok (.ireturn, 1) := by decide +kernel
theorem dX10_place_22 : decode cX10_place 22 = .ok (.iload_n 2, 1) := by decide +kernel
theorem dX10_place_23 : decode cX10_place 23 = .ok (.ifCond .ne 15, 3) := by decide +kernel
theorem dX10_place_26 : decode cX10_place 26 = .ok (.aload_n 0, 1) := by decide +kernel
theorem dX10_place_27 : decode cX10_place 27 = .ok (.getfield 43, 3) := by decide +kernel
theorem dX10_place_30 : decode cX10_place 30 = .ok (.bipush 55, 2) := by decide +kernel
theorem dX10_place_32 : decode cX10_place 32 = .ok (.iload_n 1, 1) := by decide +kernel
theorem dX10_place_33 : decode cX10_place 33 = .ok (.iadd, 1) := by decide +kernel
theorem dX10_place_34 : decode cX10_place 34 = .ok (.iaload, 1) := by decide +kernel
theorem dX10_place_35 : decode cX10_place 35 = .ok (.goto 25, 3) := by decide +kernel
theorem dX10_place_38 : decode cX10_place 38 = .ok (.iload_n 2, 1) := by decide +kernel
theorem dX10_place_39 : decode cX10_place 39 = .ok (.iconst 1, 1) := by decide +kernel
theorem dX10_place_40 : decode cX10_place 40 = .ok (.if_icmp .ne 14, 3) := by decide +kernel
theorem dX10_place_43 : decode cX10_place 43 = .ok (.aload_n 0, 1) := by decide +kernel
theorem dX10_place_44 : decode cX10_place 44 = .ok (.getfield 92, 3) := by decide +kernel
theorem dX10_place_47 : decode cX10_place 47 = .ok (.iload_n 1, 1) := by decide +kernel
theorem dX10_place_48 : decode cX10_place 48 = .ok (.ishr, 1) := by decide +kernel
theorem dX10_place_49 : decode cX10_place 49 = .ok (.iconst 1, 1) := by decide +kernel
theorem dX10_place_50 : decode cX10_place 50 = .ok (.iand, 1) := by decide +kernel
theorem dX10_place_51 : decode cX10_place 51 = .ok (.goto 9, 3) := by decide +kernel
theorem dX10_place_54 : decode cX10_place 54 = .ok (.aload_n 0, 1) := by decide +kernel
theorem dX10_place_55 : decode cX10_place 55 = .ok (.iconst 0, 1) := by decide +kernel
theorem dX10_place_56 : decode cX10_place 56 = .ok (.iload_n 1, 1) := by decide +kernel
theorem dX10_place_57 : decode cX10_place 57 = .ok (.invokevirtual 172, 3) := by decide +kernel
theorem dX10_place_60 : decode cX10_place 60 = .ok (.ireturn, 1) := by decide +kernel
theorem dX10_way_0 : decode cX10_way 0 = .ok (.aload_n 0, 1) := by decide +kernel
theorem dX10_way_1 : decode cX10_way 1 = .ok (.iload_n 1, 1) := by decide +kernel
theorem dX10_way_2 : decode cX10_way 2 = .ok (.invokevirtual 166, 3) := by decide +kernel
theorem dX10_way_5 : decode cX10_way 5 = .ok (.ifCond .eq 30, 3) := by decide +kernel
theorem dX10_way_8 : decode cX10_way 8 = .ok (.aload_n 0, 1) := by decide +kernel
theorem dX10_way_9 : decode cX10_way 9 = .ok (.iload_n 2, 1) := by decide +kernel
theorem dX10_way_10 : decode cX10_way 10 = .ok (.invokevirtual 166, 3) := by decide +kernel
theorem dX10_way_13 : decode cX10_way 13 = .ok (.ifCond .eq 22, 3) := by decide +kernel
theorem dX10_way_16 : decode cX10_way 16 = .ok (.iload_n 1, 1) := by decide +kernel
theorem dX10_way_17 : decode cX10_way 17 = .ok (.iload_n 2, 1) := by decide +kernel
theorem dX10_way_18 : decode cX10_way 18 = .ok (.if_icmp .eq 17, 3) := by decide +kernel
theorem dX10_way_21 : decode cX10_way 21 = .ok (.aload_n 0, 1) := by decide +kernel
theorem dX10_way_22 : decode cX10_way 22 = .ok (.getfield 7, 3) := by decide +kernel
theorem dX10_way_25 : decode cX10_way 25 = .ok (.bipush 8, 2) := by decide +kernel
theorem dX10_way_27 : decode cX10_way 27 = .ok (.iload_n 1, 1) := by decide +kernel
theorem dX10_way_28 : decode cX10_way 28 = .ok (.imul, 1) := by decide +kernel
theorem dX10_way_29 : decode cX10_way 29 = .ok (.iload_n 2, 1) := by decide +kernel
theorem dX10_way_30 : decode cX10_way 30 = .ok (.iadd, 1) := by decide +kernel
theorem dX10_way_31 : decode cX10_way 31 = .ok (.iaload, 1) := by decide +kernel
theorem dX10_way_32 : decode cX10_way 32 = .ok (.goto 4, 3) := by decide +kernel
theorem dX10_way_35 : decode cX10_way 35 = .ok (.iconst (-1), 1) := by decide +kernel
theorem dX10_way_36 : decode cX10_way 36 = .ok (.ireturn, 1) := by decide +kernel
theorem dX10_door_0 : decode cX10_door 0 = .ok (.aload_n 0, 1) := by decide +kernel
theorem dX10_door_1 : decode cX10_door 1 = .ok (.iload_n 1, 1) := by decide +kernel
theorem dX10_door_2 : decode cX10_door 2 = .ok (.invokevirtual 175, 3) := by decide +kernel
theorem dX10_door_5 : decode cX10_door 5 = .ok (.ifCond .eq 13, 3) := by decide +kernel
theorem dX10_door_8 : decode cX10_door 8 = .ok (.iload_n 2, 1) := by decide +kernel
theorem dX10_door_9 : decode cX10_door 9 = .ok (.i2l, 1) := by decide +kernel
theorem dX10_door_10 : decode cX10_door 10 = .ok (.lconst 0, 1) := by decide +kernel
theorem dX10_door_11 : decode cX10_door 11 = .ok (.lconst 1, 1) := by decide +kernel
theorem dX10_door_12 : decode cX10_door 12 = .ok (.invokestatic 108, 3) := by decide +kernel
theorem dX10_door_15 : decode cX10_door 15 = .ok (.ifCond .ne 5, 3) := by decide +kernel
theorem dX10_door_18 : decode cX10_door 18 = .ok (.iconst (-1), 1) := by decide +kernel
theorem dX10_door_19 : decode cX10_door 19 = .ok (.ireturn, 1) := by decide +kernel
theorem dX10_door_20 : decode cX10_door 20 = .ok (.iload_n 2, 1) := by decide +kernel
theorem dX10_door_21 : decode cX10_door 21 = .ok (.ifCond .ne 12, 3) := by decide +kernel
theorem dX10_door_24 : decode cX10_door 24 = .ok (.aload_n 0, 1) := by decide +kernel
theorem dX10_door_25 : decode cX10_door 25 = .ok (.getfield 16, 3) := by decide +kernel
theorem dX10_door_28 : decode cX10_door 28 = .ok (.iload_n 1, 1) := by decide +kernel
theorem dX10_door_29 : decode cX10_door 29 = .ok (.iaload, 1) := by decide +kernel
theorem dX10_door_30 : decode cX10_door 30 = .ok (.goto 9, 3) := by decide +kernel
theorem dX10_door_33 : decode cX10_door 33 = .ok (.aload_n 0, 1) := by decide +kernel
theorem dX10_door_34 : decode cX10_door 34 = .ok (.getfield 19, 3) := by decide +kernel
theorem dX10_door_37 : decode cX10_door 37 = .ok (.iload_n 1, 1) := by decide +kernel
theorem dX10_door_38 : decode cX10_door 38 = .ok (.iaload, 1) := by decide +kernel
theorem dX10_door_39 : decode cX10_door 39 = .ok (.ireturn, 1) := by decide +kernel
theorem dX10_beast_0 : decode cX10_beast 0 = .ok (.aload_n 0, 1) := by decide +kernel
theorem dX10_beast_1 : decode cX10_beast 1 = .ok (.iload_n 1, 1) := by decide +kernel
theorem dX10_beast_2 : decode cX10_beast 2 = .ok (.invokevirtual 178, 3) := by decide +kernel
theorem dX10_beast_5 : decode cX10_beast 5 = .ok (.ifCond .eq 15, 3) := by decide +kernel
theorem dX10_beast_8 : decode cX10_beast 8 = .ok (.iload_n 2, 1) := by decide +kernel
theorem dX10_beast_9 : decode cX10_beast 9 = .ok (.i2l, 1) := by decide +kernel
theorem dX10_beast_10 : decode cX10_beast 10 = .ok (.lconst 0, 1) := by decide +kernel
theorem dX10_beast_11 : decode cX10_beast 11 = .ok (.ldc2_w 181, 3) := by decide +kernel
theorem dX10_beast_14 : decode cX10_beast 14 = .ok (.invokestatic 108, 3) := by decide +kernel
theorem dX10_beast_17 : decode cX10_beast 17 = .ok (.ifCond .ne 5, 3) := by decide +kernel
theorem dX10_beast_20 : decode cX10_beast 20 = .ok (.iconst (-1), 1) := by decide +kernel
theorem dX10_beast_21 : decode cX10_beast 21 = .ok (.ireturn, 1) := by decide +kernel
theorem dX10_beast_22 : decode cX10_beast 22 = .ok (.aload_n 0, 1) := by decide +kernel
theorem dX10_beast_23 : decode cX10_beast 23 = .ok (.getfield 43, 3) := by decide +kernel
theorem dX10_beast_26 : decode cX10_beast 26 = .ok (.bipush 10, 2) := by decide +kernel
theorem dX10_beast_28 : decode cX10_beast 28 = .ok (.iload_n 1, 1) := by decide +kernel
theorem dX10_beast_29 : decode cX10_beast 29 = .ok (.iadd, 1) := by decide +kernel
theorem dX10_beast_30 : decode cX10_beast 30 = .ok (.iaload, 1) := by decide +kernel
theorem dX10_beast_31 : decode cX10_beast 31 = .ok (.bipush (-4), 2) := by decide +kernel
theorem dX10_beast_33 : decode cX10_beast 33 = .ok (.if_icmp .ne 15, 3) := by decide +kernel
theorem dX10_beast_36 : decode cX10_beast 36 = .ok (.aload_n 0, 1) := by decide +kernel
theorem dX10_beast_37 : decode cX10_beast 37 = .ok (.getfield 43, 3) := by decide +kernel
theorem dX10_beast_40 : decode cX10_beast 40 = .ok (.bipush 20, 2) := by decide +kernel
theorem dX10_beast_42 : decode cX10_beast 42 = .ok (.iload_n 1, 1) := by decide +kernel
theorem dX10_beast_43 : decode cX10_beast 43 = .ok (.iadd, 1) := by decide +kernel
theorem dX10_beast_44 : decode cX10_beast 44 = .ok (.iaload, 1) := by decide +kernel
theorem dX10_beast_45 : decode cX10_beast 45 = .ok (.goto 12, 3) := by decide +kernel
theorem dX10_beast_48 : decode cX10_beast 48 = .ok (.aload_n 0, 1) := by decide +kernel
theorem dX10_beast_49 : decode cX10_beast 49 = .ok (.getfield 43, 3) := by decide +kernel
theorem dX10_beast_52 : decode cX10_beast 52 = .ok (.bipush 15, 2) := by decide +kernel
theorem dX10_beast_54 : decode cX10_beast 54 = .ok (.iload_n 1, 1) := by decide +kernel
theorem dX10_beast_55 : decode cX10_beast 55 = .ok (.iadd, 1) := by decide +kernel
theorem dX10_beast_56 : decode cX10_beast 56 = .ok (.iaload, 1) := by decide +kernel
theorem dX10_beast_57 : decode cX10_beast 57 = .ok (.istore_n 3, 1) := by decide +kernel
theorem dX10_beast_58 : decode cX10_beast 58 = .ok (.iload_n 2, 1) := by decide +kernel
theorem dX10_beast_59 : decode cX10_beast 59 = .ok (.ifCond .ne 12, 3) := by decide +kernel
theorem dX10_beast_62 : decode cX10_beast 62 = .ok (.aload_n 0, 1) := by decide +kernel
theorem dX10_beast_63 : decode cX10_beast 63 = .ok (.getfield 22, 3) := by decide +kernel
theorem dX10_beast_66 : decode cX10_beast 66 = .ok (.iload_n 1, 1) := by decide +kernel
theorem dX10_beast_67 : decode cX10_beast 67 = .ok (.iaload, 1) := by decide +kernel
theorem dX10_beast_68 : decode cX10_beast 68 = .ok (.goto 100, 3) := by decide +kernel
theorem dX10_beast_71 : decode cX10_beast 71 = .ok (.iload_n 2, 1) := by decide +kernel
theorem dX10_beast_72 : decode cX10_beast 72 = .ok (.iconst 1, 1) := by decide +kernel
theorem dX10_beast_73 : decode cX10_beast 73 = .ok (.if_icmp .ne 12, 3) := by decide +kernel
theorem dX10_beast_76 : decode cX10_beast 76 = .ok (.aload_n 0, 1) := by decide +kernel
theorem dX10_beast_77 : decode cX10_beast 77 = .ok (.getfield 25, 3) := by decide +kernel
theorem dX10_beast_80 : decode cX10_beast 80 = .ok (.iload_n 1, 1) := by decide +kernel
theorem dX10_beast_81 : decode cX10_beast 81 = .ok (.iaload, 1) := by decide +kernel
theorem dX10_beast_82 : decode cX10_beast 82 = .ok (.goto 86, 3) := by decide +kernel
theorem dX10_beast_85 : decode cX10_beast 85 = .ok (.iload_n 2, 1) := by decide +kernel
theorem dX10_beast_86 : decode cX10_beast 86 = .ok (.iconst 2, 1) := by decide +kernel
theorem dX10_beast_87 : decode cX10_beast 87 = .ok (.if_icmp .ne 15, 3) := by decide +kernel
theorem dX10_beast_90 : decode cX10_beast 90 = .ok (.aload_n 0, 1) := by decide +kernel
theorem dX10_beast_91 : decode cX10_beast 91 = .ok (.getfield 43, 3) := by decide +kernel
theorem dX10_beast_94 : decode cX10_beast 94 = .ok (.bipush 40, 2) := by decide +kernel
theorem dX10_beast_96 : decode cX10_beast 96 = .ok (.iload_n 1, 1) := by decide +kernel
theorem dX10_beast_97 : decode cX10_beast 97 = .ok (.iadd, 1) := by decide +kernel
theorem dX10_beast_98 : decode cX10_beast 98 = .ok (.iaload, 1) := by decide +kernel
theorem dX10_beast_99 : decode cX10_beast 99 = .ok (.goto 69, 3) := by decide +kernel
theorem dX10_beast_102 : decode cX10_beast 102 = .ok (.iload_n 2, 1) := by decide +kernel
theorem dX10_beast_103 : decode cX10_beast 103 = .ok (.iconst 3, 1) := by decide +kernel
theorem dX10_beast_104 : decode cX10_beast 104 = .ok (.if_icmp .ne 12, 3) := by decide +kernel
theorem dX10_beast_107 : decode cX10_beast 107 = .ok (.aload_n 0, 1) := by decide +kernel
theorem dX10_beast_108 : decode cX10_beast 108 = .ok (.getfield 43, 3) := by decide +kernel
theorem dX10_beast_111 : decode cX10_beast 111 = .ok (.iload_n 1, 1) := by decide +kernel
theorem dX10_beast_112 : decode cX10_beast 112 = .ok (.iaload, 1) := by decide +kernel
theorem dX10_beast_113 : decode cX10_beast 113 = .ok (.goto 55, 3) := by decide +kernel
theorem dX10_beast_116 : decode cX10_beast 116 = .ok (.iload_n 2, 1) := by decide +kernel
theorem dX10_beast_117 : decode cX10_beast 117 = .ok (.iconst 4, 1) := by decide +kernel
theorem dX10_beast_118 : decode cX10_beast 118 = .ok (.if_icmp .ne 14, 3) := by decide +kernel
theorem dX10_beast_121 : decode cX10_beast 121 = .ok (.aload_n 0, 1) := by decide +kernel
theorem dX10_beast_122 : decode cX10_beast 122 = .ok (.getfield 43, 3) := by decide +kernel
theorem dX10_beast_125 : decode cX10_beast 125 = .ok (.iconst 5, 1) := by decide +kernel
theorem dX10_beast_126 : decode cX10_beast 126 = .ok (.iload_n 1, 1) := by decide +kernel
theorem dX10_beast_127 : decode cX10_beast 127 = .ok (.iadd, 1) := by decide +kernel
theorem dX10_beast_128 : decode cX10_beast 128 = .ok (.iaload, 1) := by decide +kernel
theorem dX10_beast_129 : decode cX10_beast 129 = .ok (.goto 39, 3) := by decide +kernel
theorem dX10_beast_132 : decode cX10_beast 132 = .ok (.iload_n 2, 1) := by decide +kernel
theorem dX10_beast_133 : decode cX10_beast 133 = .ok (.iconst 5, 1) := by decide +kernel
theorem dX10_beast_134 : decode cX10_beast 134 = .ok (.if_icmp .ne 15, 3) := by decide +kernel
theorem dX10_beast_137 : decode cX10_beast 137 = .ok (.aload_n 0, 1) := by decide +kernel
theorem dX10_beast_138 : decode cX10_beast 138 = .ok (.getfield 43, 3) := by decide +kernel
theorem dX10_beast_141 : decode cX10_beast 141 = .ok (.bipush 10, 2) := by decide +kernel
theorem dX10_beast_143 : decode cX10_beast 143 = .ok (.iload_n 1, 1) := by decide +kernel
theorem dX10_beast_144 : decode cX10_beast 144 = .ok (.iadd, 1) := by decide +kernel
theorem dX10_beast_145 : decode cX10_beast 145 = .ok (.iaload, 1) := by decide +kernel
theorem dX10_beast_146 : decode cX10_beast 146 = .ok (.goto 22, 3) := by decide +kernel
theorem dX10_beast_149 : decode cX10_beast 149 = .ok (.iload_n 2, 1) := by decide +kernel
theorem dX10_beast_150 : decode cX10_beast 150 = .ok (.bipush 6, 2) := by decide +kernel
theorem dX10_beast_152 : decode cX10_beast 152 = .ok (.if_icmp .ne 7, 3) := by decide +kernel
theorem dX10_beast_155 : decode cX10_beast 155 = .ok (.iload_n 3, 1) := by decide +kernel
theorem dX10_beast_156 : decode cX10_beast 156 = .ok (.goto 12, 3) := by decide +kernel
theorem dX10_beast_159 : decode cX10_beast 159 = .ok (.aload_n 0, 1) := by decide +kernel
theorem dX10_beast_160 : decode cX10_beast 160 = .ok (.getfield 43, 3) := by decide +kernel
theorem dX10_beast_163 : decode cX10_beast 163 = .ok (.bipush 25, 2) := by decide +kernel
theorem dX10_beast_165 : decode cX10_beast 165 = .ok (.iload_n 1, 1) := by decide +kernel
theorem dX10_beast_166 : decode cX10_beast 166 = .ok (.iadd, 1) := by decide +kernel
theorem dX10_beast_167 : decode cX10_beast 167 = .ok (.iaload, 1) := by decide +kernel
theorem dX10_beast_168 : decode cX10_beast 168 = .ok (.ireturn, 1) := by decide +kernel
theorem dX10_signBy_0 : decode cX10_signBy 0 = .ok (.aload_n 0, 1) := by decide +kernel
theorem dX10_signBy_1 : decode cX10_signBy 1 = .ok (.getfield 43, 3) := by decide +kernel
theorem dX10_signBy_4 : decode cX10_signBy 4 = .ok (.iload_n 1, 1) := by decide +kernel
theorem dX10_signBy_5 : decode cX10_signBy 5 = .ok (.bipush 35, 2) := by decide +kernel
theorem dX10_signBy_7 : decode cX10_signBy 7 = .ok (.iadd, 1) := by decide +kernel
theorem dX10_signBy_8 : decode cX10_signBy 8 = .ok (.iload_n 2, 1) := by decide +kernel
theorem dX10_signBy_9 : decode cX10_signBy 9 = .ok (.iadd, 1) := by decide +kernel
theorem dX10_signBy_10 : decode cX10_signBy 10 = .ok (.iaload, 1) := by decide +kernel
theorem dX10_signBy_11 : decode cX10_signBy 11 = .ok (.istore 4, 2) := by decide +kernel
theorem dX10_signBy_13 : decode cX10_signBy 13 = .ok (.aload_n 0, 1) := by decide +kernel
theorem dX10_signBy_14 : decode cX10_signBy 14 = .ok (.getfield 22, 3) := by decide +kernel
theorem dX10_signBy_17 : decode cX10_signBy 17 = .ok (.iload_n 2, 1) := by decide +kernel
theorem dX10_signBy_18 : decode cX10_signBy 18 = .ok (.iaload, 1) := by decide +kernel
theorem dX10_signBy_19 : decode cX10_signBy 19 = .ok (.iconst 1, 1) := by decide +kernel
theorem dX10_signBy_20 : decode cX10_signBy 20 = .ok (.if_icmp .ne 18, 3) := by decide +kernel
theorem dX10_signBy_23 : decode cX10_signBy 23 = .ok (.iload 4, 2) := by decide +kernel
theorem dX10_signBy_25 : decode cX10_signBy 25 = .ok (.iconst 2, 1) := by decide +kernel
theorem dX10_signBy_26 : decode cX10_signBy 26 = .ok (.irem, 1) := by decide +kernel
theorem dX10_signBy_27 : decode cX10_signBy 27 = .ok (.iconst 1, 1) := by decide +kernel
theorem dX10_signBy_28 : decode cX10_signBy 28 = .ok (.if_icmp .ne 10, 3) := by decide +kernel
theorem dX10_signBy_31 : decode cX10_signBy 31 = .ok (.bipush 7, 2) := by decide +kernel
theorem dX10_signBy_33 : decode cX10_signBy 33 = .ok (.iload_n 3, 1) := by decide +kernel
theorem dX10_signBy_34 : decode cX10_signBy 34 = .ok (.isub, 1) := by decide +kernel
theorem dX10_signBy_35 : decode cX10_signBy 35 = .ok (.goto 31, 3) := by decide +kernel
theorem dX10_signBy_38 : decode cX10_signBy 38 = .ok (.aload_n 0, 1) := by decide +kernel
theorem dX10_signBy_39 : decode cX10_signBy 39 = .ok (.getfield 22, 3) := by decide +kernel
theorem dX10_signBy_42 : decode cX10_signBy 42 = .ok (.iload_n 2, 1) := by decide +kernel
theorem dX10_signBy_43 : decode cX10_signBy 43 = .ok (.iaload, 1) := by decide +kernel
theorem dX10_signBy_44 : decode cX10_signBy 44 = .ok (.iconst 2, 1) := by decide +kernel
theorem dX10_signBy_45 : decode cX10_signBy 45 = .ok (.if_icmp .ne 20, 3) := by decide +kernel
theorem dX10_signBy_48 : decode cX10_signBy 48 = .ok (.iload 4, 2) := by decide +kernel
theorem dX10_signBy_50 : decode cX10_signBy 50 = .ok (.iconst 5, 1) := by decide +kernel
theorem dX10_signBy_51 : decode cX10_signBy 51 = .ok (.if_icmp .lt 14, 3) := by decide +kernel
theorem dX10_signBy_54 : decode cX10_signBy 54 = .ok (.bipush 7, 2) := by decide +kernel
theorem dX10_signBy_56 : decode cX10_signBy 56 = .ok (.iload_n 3, 1) := by decide +kernel
theorem dX10_signBy_57 : decode cX10_signBy 57 = .ok (.iconst 1, 1) := by decide +kernel
theorem dX10_signBy_58 : decode cX10_signBy 58 = .ok (.iadd, 1) := by decide +kernel
theorem dX10_signBy_59 : decode cX10_signBy 59 = .ok (.invokestatic 101, 3) := by decide +kernel
theorem dX10_signBy_62 : decode cX10_signBy 62 = .ok (.goto 4, 3) := by decide +kernel
theorem dX10_signBy_65 : decode cX10_signBy 65 = .ok (.iload_n 3, 1) := by decide +kernel
theorem dX10_signBy_66 : decode cX10_signBy 66 = .ok (.istore 5, 2) := by decide +kernel
theorem dX10_signBy_68 : decode cX10_signBy 68 = .ok (.iconst 0, 1) := by decide +kernel
theorem dX10_signBy_69 : decode cX10_signBy 69 = .ok (.iload 5, 2) := by decide +kernel
theorem dX10_signBy_71 : decode cX10_signBy 71 = .ok (.aload_n 0, 1) := by decide +kernel
theorem dX10_signBy_72 : decode cX10_signBy 72 = .ok (.getfield 43, 3) := by decide +kernel
theorem dX10_signBy_75 : decode cX10_signBy 75 = .ok (.iload_n 1, 1) := by decide +kernel
theorem dX10_signBy_76 : decode cX10_signBy 76 = .ok (.bipush 45, 2) := by decide +kernel
theorem dX10_signBy_78 : decode cX10_signBy 78 = .ok (.iadd, 1) := by decide +kernel
theorem dX10_signBy_79 : decode cX10_signBy 79 = .ok (.iload_n 2, 1) := by decide +kernel
theorem dX10_signBy_80 : decode cX10_signBy 80 = .ok (.iadd, 1) := by decide +kernel
theorem dX10_signBy_81 : decode cX10_signBy 81 = .ok (.iaload, 1) := by decide +kernel
theorem dX10_signBy_82 : decode cX10_signBy 82 = .ok (.isub, 1) := by decide +kernel
theorem dX10_signBy_83 : decode cX10_signBy 83 = .ok (.iconst 2, 1) := by decide +kernel
theorem dX10_signBy_84 : decode cX10_signBy 84 = .ok (.aload_n 0, 1) := by decide +kernel
theorem dX10_signBy_85 : decode cX10_signBy 85 = .ok (.getfield 43, 3) := by decide +kernel
theorem dX10_signBy_88 : decode cX10_signBy 88 = .ok (.iload_n 1, 1) := by decide +kernel
theorem dX10_signBy_89 : decode cX10_signBy 89 = .ok (.bipush 50, 2) := by decide +kernel
theorem dX10_signBy_91 : decode cX10_signBy 91 = .ok (.iadd, 1) := by decide +kernel
theorem dX10_signBy_92 : decode cX10_signBy 92 = .ok (.iload_n 2, 1) := by decide +kernel
theorem dX10_signBy_93 : decode cX10_signBy 93 = .ok (.iadd, 1) := by decide +kernel
theorem dX10_signBy_94 : decode cX10_signBy 94 = .ok (.iaload, 1) := by decide +kernel
theorem dX10_signBy_95 : decode cX10_signBy 95 = .ok (.imul, 1) := by decide +kernel
theorem dX10_signBy_96 : decode cX10_signBy 96 = .ok (.isub, 1) := by decide +kernel
theorem dX10_signBy_97 : decode cX10_signBy 97 = .ok (.invokestatic 183, 3) := by decide +kernel
theorem dX10_signBy_100 : decode cX10_signBy 100 = .ok (.ireturn, 1) := by decide +kernel
theorem dX10_read_0 : decode cX10_read 0 = .ok (.aload_n 0, 1) := by decide +kernel
theorem dX10_read_1 : decode cX10_read 1 = .ok (.iload_n 1, 1) := by decide +kernel
theorem dX10_read_2 : decode cX10_read 2 = .ok (.iload_n 2, 1) := by decide +kernel
theorem dX10_read_3 : decode cX10_read 3 = .ok (.aload_n 0, 1) := by decide +kernel
theorem dX10_read_4 : decode cX10_read 4 = .ok (.getfield 43, 3) := by decide +kernel
theorem dX10_read_7 : decode cX10_read 7 = .ok (.iload_n 1, 1) := by decide +kernel
theorem dX10_read_8 : decode cX10_read 8 = .ok (.bipush 30, 2) := by decide +kernel
theorem dX10_read_10 : decode cX10_read 10 = .ok (.iadd, 1) := by decide +kernel
theorem dX10_read_11 : decode cX10_read 11 = .ok (.iload_n 2, 1) := by decide +kernel
theorem dX10_read_12 : decode cX10_read 12 = .ok (.iadd, 1) := by decide +kernel
theorem dX10_read_13 : decode cX10_read 13 = .ok (.iaload, 1) := by decide +kernel
theorem dX10_read_14 : decode cX10_read 14 = .ok (.invokevirtual 186, 3) := by decide +kernel
theorem dX10_read_17 : decode cX10_read 17 = .ok (.istore_n 3, 1) := by decide +kernel
theorem dX10_read_18 : decode cX10_read 18 = .ok (.aload_n 0, 1) := by decide +kernel
theorem dX10_read_19 : decode cX10_read 19 = .ok (.getfield 16, 3) := by decide +kernel
theorem dX10_read_22 : decode cX10_read 22 = .ok (.aload_n 0, 1) := by decide +kernel
theorem dX10_read_23 : decode cX10_read 23 = .ok (.getfield 43, 3) := by decide +kernel
theorem dX10_read_26 : decode cX10_read 26 = .ok (.iload_n 1, 1) := by decide +kernel
theorem dX10_read_27 : decode cX10_read 27 = .ok (.bipush 25, 2) := by decide +kernel
theorem dX10_read_29 : decode cX10_read 29 = .ok (.iadd, 1) := by decide +kernel
theorem dX10_read_30 : decode cX10_read 30 = .ok (.iload_n 2, 1) := by decide +kernel
theorem dX10_read_31 : decode cX10_read 31 = .ok (.iadd, 1) := by decide +kernel
theorem dX10_read_32 : decode cX10_read 32 = .ok (.iaload, 1) := by decide +kernel
theorem dX10_read_33 : decode cX10_read 33 = .ok (.iaload, 1) := by decide +kernel
theorem dX10_read_34 : decode cX10_read 34 = .ok (.istore 4, 2) := by decide +kernel
theorem dX10_read_36 : decode cX10_read 36 = .ok (.iload 4, 2) := by decide +kernel
theorem dX10_read_38 : decode cX10_read 38 = .ok (.ifCond .ne 7, 3) := by decide +kernel
theorem dX10_read_41 : decode cX10_read 41 = .ok (.iload_n 3, 1) := by decide +kernel
theorem dX10_read_42 : decode cX10_read 42 = .ok (.goto 34, 3) := by decide +kernel
theorem dX10_read_45 : decode cX10_read 45 = .ok (.iload 4, 2) := by decide +kernel
theorem dX10_read_47 : decode cX10_read 47 = .ok (.iconst 1, 1) := by decide +kernel
theorem dX10_read_48 : decode cX10_read 48 = .ok (.if_icmp .ne 11, 3) := by decide +kernel
theorem dX10_read_51 : decode cX10_read 51 = .ok (.iload_n 3, 1) := by decide +kernel
theorem dX10_read_52 : decode cX10_read 52 = .ok (.iload_n 3, 1) := by decide +kernel
theorem dX10_read_53 : decode cX10_read 53 = .ok (.iconst 2, 1) := by decide +kernel
theorem dX10_read_54 : decode cX10_read 54 = .ok (.irem, 1) := by decide +kernel
theorem dX10_read_55 : decode cX10_read 55 = .ok (.isub, 1) := by decide +kernel
theorem dX10_read_56 : decode cX10_read 56 = .ok (.goto 20, 3) := by decide +kernel
theorem dX10_read_59 : decode cX10_read 59 = .ok (.iload 4, 2) := by decide +kernel
theorem dX10_read_61 : decode cX10_read 61 = .ok (.iconst 2, 1) := by decide +kernel
theorem dX10_read_62 : decode cX10_read 62 = .ok (.if_icmp .ne 11, 3) := by decide +kernel
theorem dX10_read_65 : decode cX10_read 65 = .ok (.iconst 4, 1) := by decide +kernel
theorem dX10_read_66 : decode cX10_read 66 = .ok (.iload_n 3, 1) := by decide +kernel
theorem dX10_read_67 : decode cX10_read 67 = .ok (.invokestatic 183, 3) := by decide +kernel
theorem dX10_read_70 : decode cX10_read 70 = .ok (.goto 6, 3) := by decide +kernel
theorem dX10_read_73 : decode cX10_read 73 = .ok (.iload_n 3, 1) := by decide +kernel
theorem dX10_read_74 : decode cX10_read 74 = .ok (.iconst 2, 1) := by decide +kernel
theorem dX10_read_75 : decode cX10_read 75 = .ok (.idiv, 1) := by decide +kernel
theorem dX10_read_76 : decode cX10_read 76 = .ok (.ireturn, 1) := by decide +kernel
theorem dX10_isOut_0 : decode cX10_isOut 0 = .ok (.aload_n 0, 1) := by decide +kernel
theorem dX10_isOut_1 : decode cX10_isOut 1 = .ok (.getfield 43, 3) := by decide +kernel
theorem dX10_isOut_4 : decode cX10_isOut 4 = .ok (.iload_n 1, 1) := by decide +kernel
theorem dX10_isOut_5 : decode cX10_isOut 5 = .ok (.iaload, 1) := by decide +kernel
theorem dX10_isOut_6 : decode cX10_isOut 6 = .ok (.iconst 1, 1) := by decide +kernel
theorem dX10_isOut_7 : decode cX10_isOut 7 = .ok (.if_icmp .eq 13, 3) := by decide +kernel
theorem dX10_isOut_10 : decode cX10_isOut 10 = .ok (.aload_n 0, 1) := by decide +kernel
theorem dX10_isOut_11 : decode cX10_isOut 11 = .ok (.getfield 43, 3) := by decide +kernel
theorem dX10_isOut_14 : decode cX10_isOut 14 = .ok (.iload_n 1, 1) := by decide +kernel
theorem dX10_isOut_15 : decode cX10_isOut 15 = .ok (.iaload, 1) := by decide +kernel
theorem dX10_isOut_16 : decode cX10_isOut 16 = .ok (.iconst 2, 1) := by decide +kernel
theorem dX10_isOut_17 : decode cX10_isOut 17 = .ok (.if_icmp .ne 7, 3) := by decide +kernel
theorem dX10_isOut_20 : decode cX10_isOut 20 = .ok (.iconst 1, 1) := by decide +kernel
theorem dX10_isOut_21 : decode cX10_isOut 21 = .ok (.goto 4, 3) := by decide +kernel
theorem dX10_isOut_24 : decode cX10_isOut 24 = .ok (.iconst 0, 1) := by decide +kernel
theorem dX10_isOut_25 : decode cX10_isOut 25 = .ok (.ireturn, 1) := by decide +kernel
theorem dX10_sign_0 : decode cX10_sign 0 = .ok (.aload_n 0, 1) := by decide +kernel
theorem dX10_sign_1 : decode cX10_sign 1 = .ok (.iload_n 1, 1) := by decide +kernel
theorem dX10_sign_2 : decode cX10_sign 2 = .ok (.invokevirtual 178, 3) := by decide +kernel
theorem dX10_sign_5 : decode cX10_sign 5 = .ok (.ifCond .eq 15, 3) := by decide +kernel
theorem dX10_sign_8 : decode cX10_sign 8 = .ok (.iload_n 2, 1) := by decide +kernel
theorem dX10_sign_9 : decode cX10_sign 9 = .ok (.i2l, 1) := by decide +kernel
theorem dX10_sign_10 : decode cX10_sign 10 = .ok (.lconst 0, 1) := by decide +kernel
theorem dX10_sign_11 : decode cX10_sign 11 = .ok (.ldc2_w 170, 3) := by decide +kernel
theorem dX10_sign_14 : decode cX10_sign 14 = .ok (.invokestatic 108, 3) := by decide +kernel
theorem dX10_sign_17 : decode cX10_sign 17 = .ok (.ifCond .ne 5, 3) := by decide +kernel
theorem dX10_sign_20 : decode cX10_sign 20 = .ok (.iconst (-1), 1) := by decide +kernel
theorem dX10_sign_21 : decode cX10_sign 21 = .ok (.ireturn, 1) := by decide +kernel
theorem dX10_sign_22 : decode cX10_sign 22 = .ok (.aload_n 0, 1) := by decide +kernel
theorem dX10_sign_23 : decode cX10_sign 23 = .ok (.iload_n 1, 1) := by decide +kernel
theorem dX10_sign_24 : decode cX10_sign 24 = .ok (.invokevirtual 190, 3) := by decide +kernel
theorem dX10_sign_27 : decode cX10_sign 27 = .ok (.ifCond .ne 6, 3) := by decide +kernel
theorem dX10_sign_30 : decode cX10_sign 30 = .ok (.bipush (-2), 2) := by decide +kernel
theorem dX10_sign_32 : decode cX10_sign 32 = .ok (.ireturn, 1) := by decide +kernel
theorem dX10_sign_33 : decode cX10_sign 33 = .ok (.iload_n 2, 1) := by decide +kernel
theorem dX10_sign_34 : decode cX10_sign 34 = .ok (.ifCond .ne 21, 3) := by decide +kernel
theorem dX10_sign_37 : decode cX10_sign 37 = .ok (.aload_n 0, 1) := by decide +kernel
theorem dX10_sign_38 : decode cX10_sign 38 = .ok (.iconst 0, 1) := by decide +kernel
theorem dX10_sign_39 : decode cX10_sign 39 = .ok (.iload_n 1, 1) := by decide +kernel
theorem dX10_sign_40 : decode cX10_sign 40 = .ok (.aload_n 0, 1) := by decide +kernel
theorem dX10_sign_41 : decode cX10_sign 41 = .ok (.getfield 43, 3) := by decide +kernel
theorem dX10_sign_44 : decode cX10_sign 44 = .ok (.bipush 30, 2) := by decide +kernel
theorem dX10_sign_46 : decode cX10_sign 46 = .ok (.iload_n 1, 1) := by decide +kernel
theorem dX10_sign_47 : decode cX10_sign 47 = .ok (.iadd, 1) := by decide +kernel
theorem dX10_sign_48 : decode cX10_sign 48 = .ok (.iaload, 1) := by decide +kernel
theorem dX10_sign_49 : decode cX10_sign 49 = .ok (.invokevirtual 186, 3) := by decide +kernel
theorem dX10_sign_52 : decode cX10_sign 52 = .ok (.goto 29, 3) := by decide +kernel
theorem dX10_sign_55 : decode cX10_sign 55 = .ok (.iload_n 2, 1) := by decide +kernel
theorem dX10_sign_56 : decode cX10_sign 56 = .ok (.iconst 1, 1) := by decide +kernel
theorem dX10_sign_57 : decode cX10_sign 57 = .ok (.if_icmp .ne 15, 3) := by decide +kernel
theorem dX10_sign_60 : decode cX10_sign 60 = .ok (.aload_n 0, 1) := by decide +kernel
theorem dX10_sign_61 : decode cX10_sign 61 = .ok (.getfield 43, 3) := by decide +kernel
theorem dX10_sign_64 : decode cX10_sign 64 = .ok (.bipush 45, 2) := by decide +kernel
theorem dX10_sign_66 : decode cX10_sign 66 = .ok (.iload_n 1, 1) := by decide +kernel
theorem dX10_sign_67 : decode cX10_sign 67 = .ok (.iadd, 1) := by decide +kernel
theorem dX10_sign_68 : decode cX10_sign 68 = .ok (.iaload, 1) := by decide +kernel
theorem dX10_sign_69 : decode cX10_sign 69 = .ok (.goto 12, 3) := by decide +kernel
theorem dX10_sign_72 : decode cX10_sign 72 = .ok (.aload_n 0, 1) := by decide +kernel
theorem dX10_sign_73 : decode cX10_sign 73 = .ok (.getfield 43, 3) := by decide +kernel
theorem dX10_sign_76 : decode cX10_sign 76 = .ok (.bipush 50, 2) := by decide +kernel
theorem dX10_sign_78 : decode cX10_sign 78 = .ok (.iload_n 1, 1) := by decide +kernel
theorem dX10_sign_79 : decode cX10_sign 79 = .ok (.iadd, 1) := by decide +kernel
theorem dX10_sign_80 : decode cX10_sign 80 = .ok (.iaload, 1) := by decide +kernel
theorem dX10_sign_81 : decode cX10_sign 81 = .ok (.ireturn, 1) := by decide +kernel
theorem dX10_known_0 : decode cX10_known 0 = .ok (.aload_n 0, 1) := by decide +kernel
theorem dX10_known_1 : decode cX10_known 1 = .ok (.getfield 160, 3) := by decide +kernel
theorem dX10_known_4 : decode cX10_known 4 = .ok (.bipush 8, 2) := by decide +kernel
theorem dX10_known_6 : decode cX10_known 6 = .ok (.if_icmp .ne 40, 3) := by decide +kernel
theorem dX10_known_9 : decode cX10_known 9 = .ok (.bipush 64, 2) := by decide +kernel
theorem dX10_known_11 : decode cX10_known 11 = .ok (.istore_n 1, 1) := by decide +kernel
theorem dX10_known_12 : decode cX10_known 12 = .ok (.iload_n 1, 1) := by decide +kernel
theorem dX10_known_13 : decode cX10_known 13 = .ok (.sipush 512, 3) := by decide +kernel
theorem dX10_known_16 : decode cX10_known 16 = .ok (.if_icmp .ge 24, 3) := by decide +kernel
theorem dX10_known_19 : decode cX10_known 19 = .ok (.aload_n 0, 1) := by decide +kernel
theorem dX10_known_20 : decode cX10_known 20 = .ok (.getfield 43, 3) := by decide +kernel
theorem dX10_known_23 : decode cX10_known 23 = .ok (.iload_n 1, 1) := by decide +kernel
theorem dX10_known_24 : decode cX10_known 24 = .ok (.aload_n 0, 1) := by decide +kernel
theorem dX10_known_25 : decode cX10_known 25 = .ok (.getfield 43, 3) := by decide +kernel
theorem dX10_known_28 : decode cX10_known 28 = .ok (.iload_n 1, 1) := by decide +kernel
theorem dX10_known_29 : decode cX10_known 29 = .ok (.bipush 64, 2) := by decide +kernel
theorem dX10_known_31 : decode cX10_known 31 = .ok (.iadd, 1) := by decide +kernel
theorem dX10_known_32 : decode cX10_known 32 = .ok (.iaload, 1) := by decide +kernel
theorem dX10_known_33 : decode cX10_known 33 = .ok (.iastore, 1) := by decide +kernel
theorem dX10_known_34 : decode cX10_known 34 = .ok (.iinc 1 1, 3) := by decide +kernel
theorem dX10_known_37 : decode cX10_known 37 = .ok (.goto (-25), 3) := by decide +kernel
theorem dX10_known_40 : decode cX10_known 40 = .ok (.aload_n 0, 1) := by decide +kernel
theorem dX10_known_41 : decode cX10_known 41 = .ok (.bipush 7, 2) := by decide +kernel
theorem dX10_known_43 : decode cX10_known 43 = .ok (.putfield 160, 3) := by decide +kernel
theorem dX10_known_46 : decode cX10_known 46 = .ok (.aload_n 0, 1) := by decide +kernel
theorem dX10_known_47 : decode cX10_known 47 = .ok (.dup, 1) := by decide +kernel
theorem dX10_known_48 : decode cX10_known 48 = .ok (.getfield 160, 3) := by decide +kernel
theorem dX10_known_51 : decode cX10_known 51 = .ok (.iconst 1, 1) := by decide +kernel
theorem dX10_known_52 : decode cX10_known 52 = .ok (.iadd, 1) := by decide +kernel
theorem dX10_known_53 : decode cX10_known 53 = .ok (.putfield 160, 3) := by decide +kernel
theorem dX10_known_56 : decode cX10_known 56 = .ok (.aload_n 0, 1) := by decide +kernel
theorem dX10_known_57 : decode cX10_known 57 = .ok (.iconst 0, 1) := by decide +kernel
theorem dX10_known_58 : decode cX10_known 58 = .ok (.aload_n 0, 1) := by decide +kernel
theorem dX10_known_59 : decode cX10_known 59 = .ok (.getfield 160, 3) := by decide +kernel
theorem dX10_known_62 : decode cX10_known 62 = .ok (.bipush 64, 2) := by decide +kernel
theorem dX10_known_64 : decode cX10_known 64 = .ok (.imul, 1) := by decide +kernel
theorem dX10_known_65 : decode cX10_known 65 = .ok (.invokevirtual 105, 3) := by decide +kernel
theorem dX10_known_68 : decode cX10_known 68 = .ok (.return_, 1) := by decide +kernel
theorem dX10_canSend_0 : decode cX10_canSend 0 = .ok (.aload_n 0, 1) := by decide +kernel
theorem dX10_canSend_1 : decode cX10_canSend 1 = .ok (.getfield 43, 3) := by decide +kernel
theorem dX10_canSend_4 : decode cX10_canSend 4 = .ok (.iload_n 1, 1) := by decide +kernel
theorem dX10_canSend_5 : decode cX10_canSend 5 = .ok (.iload_n 2, 1) := by decide +kernel
theorem dX10_canSend_6 : decode cX10_canSend 6 = .ok (.iadd, 1) := by decide +kernel
theorem dX10_canSend_7 : decode cX10_canSend 7 = .ok (.iaload, 1) := by decide +kernel
theorem dX10_canSend_8 : decode cX10_canSend 8 = .ok (.ifCond .ne 24, 3) := by decide +kernel
theorem dX10_canSend_11 : decode cX10_canSend 11 = .ok (.aload_n 0, 1) := by decide +kernel
theorem dX10_canSend_12 : decode cX10_canSend 12 = .ok (.getfield 13, 3) := by decide +kernel
theorem dX10_canSend_15 : decode cX10_canSend 15 = .ok (.aload_n 0, 1) := by decide +kernel
theorem dX10_canSend_16 : decode cX10_canSend 16 = .ok (.getfield 19, 3) := by decide +kernel
theorem dX10_canSend_19 : decode cX10_canSend 19 = .ok (.iload_n 3, 1) := by decide +kernel
theorem dX10_canSend_20 : decode cX10_canSend 20 = .ok (.iaload, 1) := by decide +kernel
theorem dX10_canSend_21 : decode cX10_canSend 21 = .ok (.iaload, 1) := by decide +kernel
theorem dX10_canSend_22 : decode cX10_canSend 22 = .ok (.sipush 9999, 3) := by decide +kernel
theorem dX10_canSend_25 : decode cX10_canSend 25 = .ok (.if_icmp .ge 7, 3) := by decide +kernel
theorem dX10_canSend_28 : decode cX10_canSend 28 = .ok (.iconst 1, 1) := by decide +kernel
theorem dX10_canSend_29 : decode cX10_canSend 29 = .ok (.goto 4, 3) := by decide +kernel
theorem dX10_canSend_32 : decode cX10_canSend 32 = .ok (.iconst 0, 1) := by decide +kernel
theorem dX10_canSend_33 : decode cX10_canSend 33 = .ok (.ireturn, 1) := by decide +kernel
theorem qX10_place : jYv yX10_place cX10_place 3 (some .int) 2 := ⟨tw_1067, tw_1068, tw_72, tw_1069, ⟨by decide +kernel, by decide +kernel, by decide +kernel⟩⟩
abbrev rX10_place : Room := { frames := 2, cells := 0, slots := 0, locals := 46 }
def uX10_place : jM := (cX10_place, 3, RX10, (some .int), rX10_place)
def pX10_place (fu : Nat) (x1 : Int32) (x2 : Int32) (M : Mem) : Res :=
  bI (pX10_isPlace fu x1 M) fun r2 M1 =>
  if r2 = 0 then (
    some ((-1 : Int32), M1))
  else
  bI (pX10_in fu (x2).toInt64 (0 : Int64) (2 : Int64) M1) fun r4 M3 =>
  if r4 = 0 then (
    some ((-1 : Int32), M3))
  else
  if x2 = 0 then (
    ld M3 12 768 ((55 : Int32) + x1) fun v7 =>
    some (v7, M3))
  else
  if x2 = (1 : Int32) then (
    some ((((M3 0 3) >>> (x1 &&& 31)) &&& (1 : Int32)), M3))
  else
  bI (pX10_standing fu (0 : Int32) x1 M3) fun r6 M5 =>
  some (r6, M5)
set_option maxRecDepth 100000 in
theorem wX10_place {E : jE} {X : jC} (hX : jOk X uX10_place (gM E)) (fu : Nat)  (x1 : Int32) (x2 : Int32) (M : Mem) : J X uX10_place (gM E) 0 [(0, .ref (gad (gM E) 0)), (1, .int x1), (2, .int x2)] [] M (pX10_place fu  x1 x2 M) := by
  unfold pX10_place
  refine j_aload_n (pc := 0) hX 0 dX10_place_0 rfl rfl ?_
  refine j_iload_n (pc := 1) hX 1 dX10_place_1 rfl rfl ?_
  refine j_callV (pc := 2) hX [.int x1] (mX10_isPlace _ E hX.2.2.2.2.2.2.2.2.1 fu   x1 M) qX10_isPlace tw_1070 (jb rfl) rfl (ci := 9) (T := TX10) (N := 30) rfl (jb rfl) rfl ⟨rfl, rfl⟩ ⟨(Nat.le_of_ble_eq_true rfl), (Nat.le_of_ble_eq_true rfl)⟩ (Nat.le_of_ble_eq_true rfl) dX10_place_2 (fun _ => rfl) rfl (fun r2 M1 => ?_)
  refine j_if_eq (pc := 5) hX 20 dX10_place_5 (by decide) ?_ ?_
  · refine j_iconst (pc := 20) (v := (-1 : Int32)) hX dX10_place_20 ci_m1 ?_
    exact j_iret (pc := 21) hX rfl dX10_place_21
  · refine j_iload_n (pc := 8) hX 2 dX10_place_8 rfl rfl ?_
    refine j_i2l (pc := 9) hX dX10_place_9 ?_
    refine j_lconst (pc := 10) (v := (0 : Int64)) hX dX10_place_10 rfl ?_
    refine j_ldc2 (pc := 11) (v := (2 : Int64)) hX tw_1074 dX10_place_11 ?_
    refine j_callS (pc := 14) hX [.long (x2).toInt64, .long (0 : Int64), .long (2 : Int64)] (mX10_in _ E hX.2.2.2.2.2.2.2.2.1 fu   (x2).toInt64 (0 : Int64) (2 : Int64) M1) qX10_in tw_1017 rfl ⟨rfl, rfl⟩ ⟨(Nat.le_of_ble_eq_true rfl), (Nat.le_of_ble_eq_true rfl)⟩ (Nat.le_of_ble_eq_true rfl) dX10_place_14 (fun _ => rfl) rfl (fun r4 M3 => ?_)
    refine j_if_ne (pc := 17) hX 22 dX10_place_17 (by decide) ?_ ?_
    · refine j_iload_n (pc := 22) hX 2 dX10_place_22 rfl rfl ?_
      refine j_if_ne (pc := 23) hX 38 dX10_place_23 (by decide) ?_ ?_
      · refine j_iload_n (pc := 38) hX 2 dX10_place_38 rfl rfl ?_
        refine j_iconst (pc := 39) (v := (1 : Int32)) hX dX10_place_39 ci_1 ?_
        refine j_icmp_ne (pc := 40) hX 54 dX10_place_40 (by decide) ?_ ?_
        · refine j_aload_n (pc := 54) hX 0 dX10_place_54 rfl rfl ?_
          refine j_iconst (pc := 55) (v := (0 : Int32)) hX dX10_place_55 ci_0 ?_
          refine j_iload_n (pc := 56) hX 1 dX10_place_56 rfl rfl ?_
          refine j_callV (pc := 57) hX [.int (0 : Int32), .int x1] (mX10_standing _ E hX.2.2.2.2.2.2.2.2.1 fu   (0 : Int32) x1 M3) qX10_standing tw_1075 (jb rfl) rfl (ci := 9) (T := TX10) (N := 30) rfl (jb rfl) rfl ⟨rfl, rfl⟩ ⟨(Nat.le_of_ble_eq_true rfl), (Nat.le_of_ble_eq_true rfl)⟩ (Nat.le_of_ble_eq_true rfl) dX10_place_57 (fun _ => rfl) rfl (fun r6 M5 => ?_)
          exact j_iret (pc := 60) hX rfl dX10_place_60
        · refine j_aload_n (pc := 43) hX 0 dX10_place_43 rfl rfl ?_
          refine j_getI (pc := 44) hX (jb rfl) rfl (ci := 9) (C := RX10) (T := TX10) (N := 30) rfl (jb rfl) inX10 (j := 3) (jb rfl) rfl tw_923 dX10_place_44 ?_
          refine j_iload_n (pc := 47) hX 1 dX10_place_47 rfl rfl ?_
          refine j_ishr (pc := 48) hX dX10_place_48 ?_
          refine j_iconst (pc := 49) (v := (1 : Int32)) hX dX10_place_49 ci_1 ?_
          refine j_iand (pc := 50) hX dX10_place_50 ?_
          refine j_goto (pc := 51) hX 60 dX10_place_51 (by decide) ?_
          exact j_iret (pc := 60) hX rfl dX10_place_60
      · refine j_aload_n (pc := 26) hX 0 dX10_place_26 rfl rfl ?_
        refine j_getR (pc := 27) (t := 12) hX (jb rfl) rfl (ci := 9) (C := RX10) (T := TX10) (N := 30) rfl (jb rfl) inX10 (j := 19) (jb rfl) rfl tw_939 dX10_place_27 ?_
        refine j_bipush (pc := 30) (v := (55 : Int32)) hX dX10_place_30 cb_55 ?_
        refine j_iload_n (pc := 32) hX 1 dX10_place_32 rfl rfl ?_
        refine j_iadd (pc := 33) hX dX10_place_33 ?_
        refine j_iald (pc := 34) hX (jb rfl) rfl rfl dX10_place_34 (fun v7 => ?_)
        refine j_goto (pc := 35) hX 60 dX10_place_35 (by decide) ?_
        exact j_iret (pc := 60) hX rfl dX10_place_60
    · refine j_iconst (pc := 20) (v := (-1 : Int32)) hX dX10_place_20 ci_m1 ?_
      exact j_iret (pc := 21) hX rfl dX10_place_21
theorem mX10_place (l : Launch) (E : jE) (hI : jInj (gM E)) (fu : Nat)  (x1 : Int32) (x2 : Int32) (M : Mem) : jMet l (gM E) yX10_place cX10_place 3 (some .int) rX10_place [.ref (gad (gM E) 0), .int x1, .int x2] M (pX10_place fu  x1 x2 M) :=
  j_entry hI (by decide +kernel) (Nat.le_of_ble_eq_true rfl) rfl (fun X _ hX => wX10_place hX fu   x1 x2 M)
theorem qX10_way : jYv yX10_way cX10_way 3 (some .int) 2 := ⟨tw_1080, tw_1081, tw_72, tw_1082, ⟨by decide +kernel, by decide +kernel, by decide +kernel⟩⟩
abbrev rX10_way : Room := { frames := 2, cells := 0, slots := 0, locals := 46 }
def uX10_way : jM := (cX10_way, 3, RX10, (some .int), rX10_way)
def pX10_way (fu : Nat) (x1 : Int32) (x2 : Int32) (M : Mem) : Res :=
  bI (pX10_isPlace fu x1 M) fun r2 M1 =>
  if r2 = 0 then (
    some ((-1 : Int32), M1))
  else
  bI (pX10_isPlace fu x2 M1) fun r4 M3 =>
  if r4 = 0 then (
    some ((-1 : Int32), M3))
  else
  if x1 = x2 then (
    some ((-1 : Int32), M3))
  else
  ld M3 1 64 (((8 : Int32) * x1) + x2) fun v5 =>
  some (v5, M3)
set_option maxRecDepth 100000 in
theorem wX10_way {E : jE} {X : jC} (hX : jOk X uX10_way (gM E)) (fu : Nat)  (x1 : Int32) (x2 : Int32) (M : Mem) : J X uX10_way (gM E) 0 [(0, .ref (gad (gM E) 0)), (1, .int x1), (2, .int x2)] [] M (pX10_way fu  x1 x2 M) := by
  unfold pX10_way
  refine j_aload_n (pc := 0) hX 0 dX10_way_0 rfl rfl ?_
  refine j_iload_n (pc := 1) hX 1 dX10_way_1 rfl rfl ?_
  refine j_callV (pc := 2) hX [.int x1] (mX10_isPlace _ E hX.2.2.2.2.2.2.2.2.1 fu   x1 M) qX10_isPlace tw_1070 (jb rfl) rfl (ci := 9) (T := TX10) (N := 30) rfl (jb rfl) rfl ⟨rfl, rfl⟩ ⟨(Nat.le_of_ble_eq_true rfl), (Nat.le_of_ble_eq_true rfl)⟩ (Nat.le_of_ble_eq_true rfl) dX10_way_2 (fun _ => rfl) rfl (fun r2 M1 => ?_)
  refine j_if_eq (pc := 5) hX 35 dX10_way_5 (by decide) ?_ ?_
  · refine j_iconst (pc := 35) (v := (-1 : Int32)) hX dX10_way_35 ci_m1 ?_
    exact j_iret (pc := 36) hX rfl dX10_way_36
  · refine j_aload_n (pc := 8) hX 0 dX10_way_8 rfl rfl ?_
    refine j_iload_n (pc := 9) hX 2 dX10_way_9 rfl rfl ?_
    refine j_callV (pc := 10) hX [.int x2] (mX10_isPlace _ E hX.2.2.2.2.2.2.2.2.1 fu   x2 M1) qX10_isPlace tw_1070 (jb rfl) rfl (ci := 9) (T := TX10) (N := 30) rfl (jb rfl) rfl ⟨rfl, rfl⟩ ⟨(Nat.le_of_ble_eq_true rfl), (Nat.le_of_ble_eq_true rfl)⟩ (Nat.le_of_ble_eq_true rfl) dX10_way_10 (fun _ => rfl) rfl (fun r4 M3 => ?_)
    refine j_if_eq (pc := 13) hX 35 dX10_way_13 (by decide) ?_ ?_
    · refine j_iconst (pc := 35) (v := (-1 : Int32)) hX dX10_way_35 ci_m1 ?_
      exact j_iret (pc := 36) hX rfl dX10_way_36
    · refine j_iload_n (pc := 16) hX 1 dX10_way_16 rfl rfl ?_
      refine j_iload_n (pc := 17) hX 2 dX10_way_17 rfl rfl ?_
      refine j_icmp_eq (pc := 18) hX 35 dX10_way_18 (by decide) ?_ ?_
      · refine j_iconst (pc := 35) (v := (-1 : Int32)) hX dX10_way_35 ci_m1 ?_
        exact j_iret (pc := 36) hX rfl dX10_way_36
      · refine j_aload_n (pc := 21) hX 0 dX10_way_21 rfl rfl ?_
        refine j_getR (pc := 22) (t := 1) hX (jb rfl) rfl (ci := 9) (C := RX10) (T := TX10) (N := 30) rfl (jb rfl) inX10 (j := 1) (jb rfl) rfl tw_921 dX10_way_22 ?_
        refine j_bipush (pc := 25) (v := (8 : Int32)) hX dX10_way_25 cb_8 ?_
        refine j_iload_n (pc := 27) hX 1 dX10_way_27 rfl rfl ?_
        refine j_imul (pc := 28) hX dX10_way_28 ?_
        refine j_iload_n (pc := 29) hX 2 dX10_way_29 rfl rfl ?_
        refine j_iadd (pc := 30) hX dX10_way_30 ?_
        refine j_iald (pc := 31) hX (jb rfl) rfl rfl dX10_way_31 (fun v5 => ?_)
        refine j_goto (pc := 32) hX 36 dX10_way_32 (by decide) ?_
        exact j_iret (pc := 36) hX rfl dX10_way_36
theorem mX10_way (l : Launch) (E : jE) (hI : jInj (gM E)) (fu : Nat)  (x1 : Int32) (x2 : Int32) (M : Mem) : jMet l (gM E) yX10_way cX10_way 3 (some .int) rX10_way [.ref (gad (gM E) 0), .int x1, .int x2] M (pX10_way fu  x1 x2 M) :=
  j_entry hI (by decide +kernel) (Nat.le_of_ble_eq_true rfl) rfl (fun X _ hX => wX10_way hX fu   x1 x2 M)
theorem qX10_door : jYv yX10_door cX10_door 3 (some .int) 2 := ⟨tw_1084, tw_1085, tw_72, tw_1086, ⟨by decide +kernel, by decide +kernel, by decide +kernel⟩⟩
abbrev rX10_door : Room := { frames := 2, cells := 0, slots := 0, locals := 46 }
def uX10_door : jM := (cX10_door, 3, RX10, (some .int), rX10_door)
def pX10_door (fu : Nat) (x1 : Int32) (x2 : Int32) (M : Mem) : Res :=
  bI (pX10_isDoor fu x1 M) fun r2 M1 =>
  if r2 = 0 then (
    some ((-1 : Int32), M1))
  else
  bI (pX10_in fu (x2).toInt64 (0 : Int64) (1 : Int64) M1) fun r4 M3 =>
  if r4 = 0 then (
    some ((-1 : Int32), M3))
  else
  if x2 = 0 then (
    ld M3 3 4 x1 fun v6 =>
    some (v6, M3))
  else
  ld M3 4 4 x1 fun v5 =>
  some (v5, M3)
set_option maxRecDepth 100000 in
theorem wX10_door {E : jE} {X : jC} (hX : jOk X uX10_door (gM E)) (fu : Nat)  (x1 : Int32) (x2 : Int32) (M : Mem) : J X uX10_door (gM E) 0 [(0, .ref (gad (gM E) 0)), (1, .int x1), (2, .int x2)] [] M (pX10_door fu  x1 x2 M) := by
  unfold pX10_door
  refine j_aload_n (pc := 0) hX 0 dX10_door_0 rfl rfl ?_
  refine j_iload_n (pc := 1) hX 1 dX10_door_1 rfl rfl ?_
  refine j_callV (pc := 2) hX [.int x1] (mX10_isDoor _ E hX.2.2.2.2.2.2.2.2.1 fu   x1 M) qX10_isDoor tw_1087 (jb rfl) rfl (ci := 9) (T := TX10) (N := 30) rfl (jb rfl) rfl ⟨rfl, rfl⟩ ⟨(Nat.le_of_ble_eq_true rfl), (Nat.le_of_ble_eq_true rfl)⟩ (Nat.le_of_ble_eq_true rfl) dX10_door_2 (fun _ => rfl) rfl (fun r2 M1 => ?_)
  refine j_if_eq (pc := 5) hX 18 dX10_door_5 (by decide) ?_ ?_
  · refine j_iconst (pc := 18) (v := (-1 : Int32)) hX dX10_door_18 ci_m1 ?_
    exact j_iret (pc := 19) hX rfl dX10_door_19
  · refine j_iload_n (pc := 8) hX 2 dX10_door_8 rfl rfl ?_
    refine j_i2l (pc := 9) hX dX10_door_9 ?_
    refine j_lconst (pc := 10) (v := (0 : Int64)) hX dX10_door_10 rfl ?_
    refine j_lconst (pc := 11) (v := (1 : Int64)) hX dX10_door_11 rfl ?_
    refine j_callS (pc := 12) hX [.long (x2).toInt64, .long (0 : Int64), .long (1 : Int64)] (mX10_in _ E hX.2.2.2.2.2.2.2.2.1 fu   (x2).toInt64 (0 : Int64) (1 : Int64) M1) qX10_in tw_1017 rfl ⟨rfl, rfl⟩ ⟨(Nat.le_of_ble_eq_true rfl), (Nat.le_of_ble_eq_true rfl)⟩ (Nat.le_of_ble_eq_true rfl) dX10_door_12 (fun _ => rfl) rfl (fun r4 M3 => ?_)
    refine j_if_ne (pc := 15) hX 20 dX10_door_15 (by decide) ?_ ?_
    · refine j_iload_n (pc := 20) hX 2 dX10_door_20 rfl rfl ?_
      refine j_if_ne (pc := 21) hX 33 dX10_door_21 (by decide) ?_ ?_
      · refine j_aload_n (pc := 33) hX 0 dX10_door_33 rfl rfl ?_
        refine j_getR (pc := 34) (t := 4) hX (jb rfl) rfl (ci := 9) (C := RX10) (T := TX10) (N := 30) rfl (jb rfl) inX10 (j := 6) (jb rfl) rfl tw_926 dX10_door_34 ?_
        refine j_iload_n (pc := 37) hX 1 dX10_door_37 rfl rfl ?_
        refine j_iald (pc := 38) hX (jb rfl) rfl rfl dX10_door_38 (fun v5 => ?_)
        exact j_iret (pc := 39) hX rfl dX10_door_39
      · refine j_aload_n (pc := 24) hX 0 dX10_door_24 rfl rfl ?_
        refine j_getR (pc := 25) (t := 3) hX (jb rfl) rfl (ci := 9) (C := RX10) (T := TX10) (N := 30) rfl (jb rfl) inX10 (j := 5) (jb rfl) rfl tw_925 dX10_door_25 ?_
        refine j_iload_n (pc := 28) hX 1 dX10_door_28 rfl rfl ?_
        refine j_iald (pc := 29) hX (jb rfl) rfl rfl dX10_door_29 (fun v6 => ?_)
        refine j_goto (pc := 30) hX 39 dX10_door_30 (by decide) ?_
        exact j_iret (pc := 39) hX rfl dX10_door_39
    · refine j_iconst (pc := 18) (v := (-1 : Int32)) hX dX10_door_18 ci_m1 ?_
      exact j_iret (pc := 19) hX rfl dX10_door_19
theorem mX10_door (l : Launch) (E : jE) (hI : jInj (gM E)) (fu : Nat)  (x1 : Int32) (x2 : Int32) (M : Mem) : jMet l (gM E) yX10_door cX10_door 3 (some .int) rX10_door [.ref (gad (gM E) 0), .int x1, .int x2] M (pX10_door fu  x1 x2 M) :=
  j_entry hI (by decide +kernel) (Nat.le_of_ble_eq_true rfl) rfl (fun X _ hX => wX10_door hX fu   x1 x2 M)
theorem qX10_beast : jYv yX10_beast cX10_beast 4 (some .int) 2 := ⟨tw_1092, tw_1093, tw_72, tw_1094, ⟨by decide +kernel, by decide +kernel, by decide +kernel⟩⟩
abbrev rX10_beast : Room := { frames := 2, cells := 0, slots := 0, locals := 46 }
def uX10_beast : jM := (cX10_beast, 4, RX10, (some .int), rX10_beast)
def pX10_beast_57 (fu : Nat) (x1 : Int32) (x2 : Int32) (s0 : Int32) (M : Mem)  : Res :=
  if x2 = 0 then (
    ld M 5 5 x1 fun v13 =>
    some (v13, M))
  else
  if x2 = (1 : Int32) then (
    ld M 6 5 x1 fun v12 =>
    some (v12, M))
  else
  if x2 = (2 : Int32) then (
    ld M 12 768 ((40 : Int32) + x1) fun v11 =>
    some (v11, M))
  else
  if x2 = (3 : Int32) then (
    ld M 12 768 x1 fun v10 =>
    some (v10, M))
  else
  if x2 = (4 : Int32) then (
    ld M 12 768 ((5 : Int32) + x1) fun v9 =>
    some (v9, M))
  else
  if x2 = (5 : Int32) then (
    ld M 12 768 ((10 : Int32) + x1) fun v8 =>
    some (v8, M))
  else
  if x2 = (6 : Int32) then (
    some (s0, M))
  else
  ld M 12 768 ((25 : Int32) + x1) fun v7 =>
  some (v7, M)
set_option maxRecDepth 100000 in
theorem wX10_beast_57 {E : jE} {X : jC} (hX : jOk X uX10_beast (gM E)) (fu : Nat)  (x1 : Int32) (x2 : Int32) (s0 : Int32) (M : Mem)   : J X uX10_beast (gM E) 57 [(0, .ref (gad (gM E) 0)), (1, .int x1), (2, .int x2)] [.int s0] M (pX10_beast_57 fu  x1 x2 s0 M ) := by
  unfold pX10_beast_57
  refine j_istore_n (pc := 57) (lv' := [(3, .int s0), (0, .ref (gad (gM E) 0)), (1, .int x1), (2, .int x2)]) hX dX10_beast_57 rfl (jb rfl) rfl ?_
  refine j_iload_n (pc := 58) hX 3 dX10_beast_58 rfl rfl ?_
  refine j_if_ne (pc := 59) hX 71 dX10_beast_59 (by decide) ?_ ?_
  · refine j_iload_n (pc := 71) hX 3 dX10_beast_71 rfl rfl ?_
    refine j_iconst (pc := 72) (v := (1 : Int32)) hX dX10_beast_72 ci_1 ?_
    refine j_icmp_ne (pc := 73) hX 85 dX10_beast_73 (by decide) ?_ ?_
    · refine j_iload_n (pc := 85) hX 3 dX10_beast_85 rfl rfl ?_
      refine j_iconst (pc := 86) (v := (2 : Int32)) hX dX10_beast_86 ci_2 ?_
      refine j_icmp_ne (pc := 87) hX 102 dX10_beast_87 (by decide) ?_ ?_
      · refine j_iload_n (pc := 102) hX 3 dX10_beast_102 rfl rfl ?_
        refine j_iconst (pc := 103) (v := (3 : Int32)) hX dX10_beast_103 ci_3 ?_
        refine j_icmp_ne (pc := 104) hX 116 dX10_beast_104 (by decide) ?_ ?_
        · refine j_iload_n (pc := 116) hX 3 dX10_beast_116 rfl rfl ?_
          refine j_iconst (pc := 117) (v := (4 : Int32)) hX dX10_beast_117 ci_4 ?_
          refine j_icmp_ne (pc := 118) hX 132 dX10_beast_118 (by decide) ?_ ?_
          · refine j_iload_n (pc := 132) hX 3 dX10_beast_132 rfl rfl ?_
            refine j_iconst (pc := 133) (v := (5 : Int32)) hX dX10_beast_133 ci_5 ?_
            refine j_icmp_ne (pc := 134) hX 149 dX10_beast_134 (by decide) ?_ ?_
            · refine j_iload_n (pc := 149) hX 3 dX10_beast_149 rfl rfl ?_
              refine j_bipush (pc := 150) (v := (6 : Int32)) hX dX10_beast_150 cb_6 ?_
              refine j_icmp_ne (pc := 152) hX 159 dX10_beast_152 (by decide) ?_ ?_
              · refine j_aload_n (pc := 159) hX 1 dX10_beast_159 rfl rfl ?_
                refine j_getR (pc := 160) (t := 12) hX (jb rfl) rfl (ci := 9) (C := RX10) (T := TX10) (N := 30) rfl (jb rfl) inX10 (j := 19) (jb rfl) rfl tw_939 dX10_beast_160 ?_
                refine j_bipush (pc := 163) (v := (25 : Int32)) hX dX10_beast_163 cb_25 ?_
                refine j_iload_n (pc := 165) hX 2 dX10_beast_165 rfl rfl ?_
                refine j_iadd (pc := 166) hX dX10_beast_166 ?_
                refine j_iald (pc := 167) hX (jb rfl) rfl rfl dX10_beast_167 (fun v7 => ?_)
                exact j_iret (pc := 168) hX rfl dX10_beast_168
              · refine j_iload_n (pc := 155) hX 0 dX10_beast_155 rfl rfl ?_
                refine j_goto (pc := 156) hX 168 dX10_beast_156 (by decide) ?_
                exact j_iret (pc := 168) hX rfl dX10_beast_168
            · refine j_aload_n (pc := 137) hX 1 dX10_beast_137 rfl rfl ?_
              refine j_getR (pc := 138) (t := 12) hX (jb rfl) rfl (ci := 9) (C := RX10) (T := TX10) (N := 30) rfl (jb rfl) inX10 (j := 19) (jb rfl) rfl tw_939 dX10_beast_138 ?_
              refine j_bipush (pc := 141) (v := (10 : Int32)) hX dX10_beast_141 cb_10 ?_
              refine j_iload_n (pc := 143) hX 2 dX10_beast_143 rfl rfl ?_
              refine j_iadd (pc := 144) hX dX10_beast_144 ?_
              refine j_iald (pc := 145) hX (jb rfl) rfl rfl dX10_beast_145 (fun v8 => ?_)
              refine j_goto (pc := 146) hX 168 dX10_beast_146 (by decide) ?_
              exact j_iret (pc := 168) hX rfl dX10_beast_168
          · refine j_aload_n (pc := 121) hX 1 dX10_beast_121 rfl rfl ?_
            refine j_getR (pc := 122) (t := 12) hX (jb rfl) rfl (ci := 9) (C := RX10) (T := TX10) (N := 30) rfl (jb rfl) inX10 (j := 19) (jb rfl) rfl tw_939 dX10_beast_122 ?_
            refine j_iconst (pc := 125) (v := (5 : Int32)) hX dX10_beast_125 ci_5 ?_
            refine j_iload_n (pc := 126) hX 2 dX10_beast_126 rfl rfl ?_
            refine j_iadd (pc := 127) hX dX10_beast_127 ?_
            refine j_iald (pc := 128) hX (jb rfl) rfl rfl dX10_beast_128 (fun v9 => ?_)
            refine j_goto (pc := 129) hX 168 dX10_beast_129 (by decide) ?_
            exact j_iret (pc := 168) hX rfl dX10_beast_168
        · refine j_aload_n (pc := 107) hX 1 dX10_beast_107 rfl rfl ?_
          refine j_getR (pc := 108) (t := 12) hX (jb rfl) rfl (ci := 9) (C := RX10) (T := TX10) (N := 30) rfl (jb rfl) inX10 (j := 19) (jb rfl) rfl tw_939 dX10_beast_108 ?_
          refine j_iload_n (pc := 111) hX 2 dX10_beast_111 rfl rfl ?_
          refine j_iald (pc := 112) hX (jb rfl) rfl rfl dX10_beast_112 (fun v10 => ?_)
          refine j_goto (pc := 113) hX 168 dX10_beast_113 (by decide) ?_
          exact j_iret (pc := 168) hX rfl dX10_beast_168
      · refine j_aload_n (pc := 90) hX 1 dX10_beast_90 rfl rfl ?_
        refine j_getR (pc := 91) (t := 12) hX (jb rfl) rfl (ci := 9) (C := RX10) (T := TX10) (N := 30) rfl (jb rfl) inX10 (j := 19) (jb rfl) rfl tw_939 dX10_beast_91 ?_
        refine j_bipush (pc := 94) (v := (40 : Int32)) hX dX10_beast_94 cb_40 ?_
        refine j_iload_n (pc := 96) hX 2 dX10_beast_96 rfl rfl ?_
        refine j_iadd (pc := 97) hX dX10_beast_97 ?_
        refine j_iald (pc := 98) hX (jb rfl) rfl rfl dX10_beast_98 (fun v11 => ?_)
        refine j_goto (pc := 99) hX 168 dX10_beast_99 (by decide) ?_
        exact j_iret (pc := 168) hX rfl dX10_beast_168
    · refine j_aload_n (pc := 76) hX 1 dX10_beast_76 rfl rfl ?_
      refine j_getR (pc := 77) (t := 6) hX (jb rfl) rfl (ci := 9) (C := RX10) (T := TX10) (N := 30) rfl (jb rfl) inX10 (j := 9) (jb rfl) rfl tw_929 dX10_beast_77 ?_
      refine j_iload_n (pc := 80) hX 2 dX10_beast_80 rfl rfl ?_
      refine j_iald (pc := 81) hX (jb rfl) rfl rfl dX10_beast_81 (fun v12 => ?_)
      refine j_goto (pc := 82) hX 168 dX10_beast_82 (by decide) ?_
      exact j_iret (pc := 168) hX rfl dX10_beast_168
  · refine j_aload_n (pc := 62) hX 1 dX10_beast_62 rfl rfl ?_
    refine j_getR (pc := 63) (t := 5) hX (jb rfl) rfl (ci := 9) (C := RX10) (T := TX10) (N := 30) rfl (jb rfl) inX10 (j := 8) (jb rfl) rfl tw_928 dX10_beast_63 ?_
    refine j_iload_n (pc := 66) hX 2 dX10_beast_66 rfl rfl ?_
    refine j_iald (pc := 67) hX (jb rfl) rfl rfl dX10_beast_67 (fun v13 => ?_)
    refine j_goto (pc := 68) hX 168 dX10_beast_68 (by decide) ?_
    exact j_iret (pc := 168) hX rfl dX10_beast_168
def pX10_beast (fu : Nat) (x1 : Int32) (x2 : Int32) (M : Mem) : Res :=
  bI (pX10_isBeast fu x1 M) fun r2 M1 =>
  if r2 = 0 then (
    some ((-1 : Int32), M1))
  else
  bI (pX10_in fu (x2).toInt64 (0 : Int64) (7 : Int64) M1) fun r4 M3 =>
  if r4 = 0 then (
    some ((-1 : Int32), M3))
  else
  ld M3 12 768 ((10 : Int32) + x1) fun v5 =>
  if v5 = (-4 : Int32) then (
    ld M3 12 768 ((20 : Int32) + x1) fun v14 =>
    pX10_beast_57 fu  x1 x2 v14 M3 )
  else
  ld M3 12 768 ((15 : Int32) + x1) fun v6 =>
  pX10_beast_57 fu  x1 x2 v6 M3 
set_option maxRecDepth 100000 in
theorem wX10_beast {E : jE} {X : jC} (hX : jOk X uX10_beast (gM E)) (fu : Nat)  (x1 : Int32) (x2 : Int32) (M : Mem) : J X uX10_beast (gM E) 0 [(0, .ref (gad (gM E) 0)), (1, .int x1), (2, .int x2)] [] M (pX10_beast fu  x1 x2 M) := by
  unfold pX10_beast
  refine j_aload_n (pc := 0) hX 0 dX10_beast_0 rfl rfl ?_
  refine j_iload_n (pc := 1) hX 1 dX10_beast_1 rfl rfl ?_
  refine j_callV (pc := 2) hX [.int x1] (mX10_isBeast _ E hX.2.2.2.2.2.2.2.2.1 fu   x1 M) qX10_isBeast tw_1095 (jb rfl) rfl (ci := 9) (T := TX10) (N := 30) rfl (jb rfl) rfl ⟨rfl, rfl⟩ ⟨(Nat.le_of_ble_eq_true rfl), (Nat.le_of_ble_eq_true rfl)⟩ (Nat.le_of_ble_eq_true rfl) dX10_beast_2 (fun _ => rfl) rfl (fun r2 M1 => ?_)
  refine j_if_eq (pc := 5) hX 20 dX10_beast_5 (by decide) ?_ ?_
  · refine j_iconst (pc := 20) (v := (-1 : Int32)) hX dX10_beast_20 ci_m1 ?_
    exact j_iret (pc := 21) hX rfl dX10_beast_21
  · refine j_iload_n (pc := 8) hX 2 dX10_beast_8 rfl rfl ?_
    refine j_i2l (pc := 9) hX dX10_beast_9 ?_
    refine j_lconst (pc := 10) (v := (0 : Int64)) hX dX10_beast_10 rfl ?_
    refine j_ldc2 (pc := 11) (v := (7 : Int64)) hX tw_1099 dX10_beast_11 ?_
    refine j_callS (pc := 14) hX [.long (x2).toInt64, .long (0 : Int64), .long (7 : Int64)] (mX10_in _ E hX.2.2.2.2.2.2.2.2.1 fu   (x2).toInt64 (0 : Int64) (7 : Int64) M1) qX10_in tw_1017 rfl ⟨rfl, rfl⟩ ⟨(Nat.le_of_ble_eq_true rfl), (Nat.le_of_ble_eq_true rfl)⟩ (Nat.le_of_ble_eq_true rfl) dX10_beast_14 (fun _ => rfl) rfl (fun r4 M3 => ?_)
    refine j_if_ne (pc := 17) hX 22 dX10_beast_17 (by decide) ?_ ?_
    · refine j_aload_n (pc := 22) hX 0 dX10_beast_22 rfl rfl ?_
      refine j_getR (pc := 23) (t := 12) hX (jb rfl) rfl (ci := 9) (C := RX10) (T := TX10) (N := 30) rfl (jb rfl) inX10 (j := 19) (jb rfl) rfl tw_939 dX10_beast_23 ?_
      refine j_bipush (pc := 26) (v := (10 : Int32)) hX dX10_beast_26 cb_10 ?_
      refine j_iload_n (pc := 28) hX 1 dX10_beast_28 rfl rfl ?_
      refine j_iadd (pc := 29) hX dX10_beast_29 ?_
      refine j_iald (pc := 30) hX (jb rfl) rfl rfl dX10_beast_30 (fun v5 => ?_)
      refine j_bipush (pc := 31) (v := (-4 : Int32)) hX dX10_beast_31 cb_m4 ?_
      refine j_icmp_ne (pc := 33) hX 48 dX10_beast_33 (by decide) ?_ ?_
      · refine j_aload_n (pc := 48) hX 0 dX10_beast_48 rfl rfl ?_
        refine j_getR (pc := 49) (t := 12) hX (jb rfl) rfl (ci := 9) (C := RX10) (T := TX10) (N := 30) rfl (jb rfl) inX10 (j := 19) (jb rfl) rfl tw_939 dX10_beast_49 ?_
        refine j_bipush (pc := 52) (v := (15 : Int32)) hX dX10_beast_52 cb_15 ?_
        refine j_iload_n (pc := 54) hX 1 dX10_beast_54 rfl rfl ?_
        refine j_iadd (pc := 55) hX dX10_beast_55 ?_
        refine j_iald (pc := 56) hX (jb rfl) rfl rfl dX10_beast_56 (fun v6 => ?_)
        exact j_sub [0, 1, 2] rfl (wX10_beast_57 hX fu   x1 x2 v6 M3  )
      · refine j_aload_n (pc := 36) hX 0 dX10_beast_36 rfl rfl ?_
        refine j_getR (pc := 37) (t := 12) hX (jb rfl) rfl (ci := 9) (C := RX10) (T := TX10) (N := 30) rfl (jb rfl) inX10 (j := 19) (jb rfl) rfl tw_939 dX10_beast_37 ?_
        refine j_bipush (pc := 40) (v := (20 : Int32)) hX dX10_beast_40 cb_20 ?_
        refine j_iload_n (pc := 42) hX 1 dX10_beast_42 rfl rfl ?_
        refine j_iadd (pc := 43) hX dX10_beast_43 ?_
        refine j_iald (pc := 44) hX (jb rfl) rfl rfl dX10_beast_44 (fun v14 => ?_)
        refine j_goto (pc := 45) hX 57 dX10_beast_45 (by decide) ?_
        exact j_sub [0, 1, 2] rfl (wX10_beast_57 hX fu   x1 x2 v14 M3  )
    · refine j_iconst (pc := 20) (v := (-1 : Int32)) hX dX10_beast_20 ci_m1 ?_
      exact j_iret (pc := 21) hX rfl dX10_beast_21
theorem mX10_beast (l : Launch) (E : jE) (hI : jInj (gM E)) (fu : Nat)  (x1 : Int32) (x2 : Int32) (M : Mem) : jMet l (gM E) yX10_beast cX10_beast 4 (some .int) rX10_beast [.ref (gad (gM E) 0), .int x1, .int x2] M (pX10_beast fu  x1 x2 M) :=
  j_entry hI (by decide +kernel) (Nat.le_of_ble_eq_true rfl) rfl (fun X _ hX => wX10_beast hX fu   x1 x2 M)
theorem qX10_signBy : jYv yX10_signBy cX10_signBy 6 (some .int) 3 := ⟨tw_1110, tw_36, tw_72, tw_1111, ⟨by decide +kernel, by decide +kernel, by decide +kernel⟩⟩
abbrev rX10_signBy : Room := { frames := 1, cells := 0, slots := 0, locals := 21 }
def uX10_signBy : jM := (cX10_signBy, 6, RX10, (some .int), rX10_signBy)
def pX10_signBy_66 (fu : Nat) (x1 : Int32) (x2 : Int32) (s0 : Int32) (M : Mem)  : Res :=
  ld M 12 768 ((x1 + (45 : Int32)) + x2) fun v4 =>
  ld M 12 768 ((x1 + (50 : Int32)) + x2) fun v5 =>
  bI (pX10_larger fu (0 : Int32) ((s0 - v4) - ((2 : Int32) * v5)) M) fun r7 M6 =>
  some (r7, M6)
set_option maxRecDepth 100000 in
theorem wX10_signBy_66 {E : jE} {X : jC} (hX : jOk X uX10_signBy (gM E)) (fu : Nat)  (x1 : Int32) (x2 : Int32) (s0 : Int32) (M : Mem)   : J X uX10_signBy (gM E) 66 [(0, .ref (gad (gM E) 0)), (1, .int x1), (2, .int x2)] [.int s0] M (pX10_signBy_66 fu  x1 x2 s0 M ) := by
  unfold pX10_signBy_66
  refine j_istore (pc := 66) (lv' := [(5, .int s0), (0, .ref (gad (gM E) 0)), (1, .int x1), (2, .int x2)]) hX dX10_signBy_66 (jb rfl) rfl ?_
  refine j_iconst (pc := 68) (v := (0 : Int32)) hX dX10_signBy_68 ci_0 ?_
  refine j_iload (pc := 69) hX 0 dX10_signBy_69 rfl ?_
  refine j_aload_n (pc := 71) hX 1 dX10_signBy_71 rfl rfl ?_
  refine j_getR (pc := 72) (t := 12) hX (jb rfl) rfl (ci := 9) (C := RX10) (T := TX10) (N := 30) rfl (jb rfl) inX10 (j := 19) (jb rfl) rfl tw_939 dX10_signBy_72 ?_
  refine j_iload_n (pc := 75) hX 2 dX10_signBy_75 rfl rfl ?_
  refine j_bipush (pc := 76) (v := (45 : Int32)) hX dX10_signBy_76 cb_45 ?_
  refine j_iadd (pc := 78) hX dX10_signBy_78 ?_
  refine j_iload_n (pc := 79) hX 3 dX10_signBy_79 rfl rfl ?_
  refine j_iadd (pc := 80) hX dX10_signBy_80 ?_
  refine j_iald (pc := 81) hX (jb rfl) rfl rfl dX10_signBy_81 (fun v4 => ?_)
  refine j_isub (pc := 82) hX dX10_signBy_82 ?_
  refine j_iconst (pc := 83) (v := (2 : Int32)) hX dX10_signBy_83 ci_2 ?_
  refine j_aload_n (pc := 84) hX 1 dX10_signBy_84 rfl rfl ?_
  refine j_getR (pc := 85) (t := 12) hX (jb rfl) rfl (ci := 9) (C := RX10) (T := TX10) (N := 30) rfl (jb rfl) inX10 (j := 19) (jb rfl) rfl tw_939 dX10_signBy_85 ?_
  refine j_iload_n (pc := 88) hX 2 dX10_signBy_88 rfl rfl ?_
  refine j_bipush (pc := 89) (v := (50 : Int32)) hX dX10_signBy_89 cb_50 ?_
  refine j_iadd (pc := 91) hX dX10_signBy_91 ?_
  refine j_iload_n (pc := 92) hX 3 dX10_signBy_92 rfl rfl ?_
  refine j_iadd (pc := 93) hX dX10_signBy_93 ?_
  refine j_iald (pc := 94) hX (jb rfl) rfl rfl dX10_signBy_94 (fun v5 => ?_)
  refine j_imul (pc := 95) hX dX10_signBy_95 ?_
  refine j_isub (pc := 96) hX dX10_signBy_96 ?_
  refine j_callS (pc := 97) hX [.int (0 : Int32), .int ((s0 - v4) - ((2 : Int32) * v5))] (mX10_larger _ E hX.2.2.2.2.2.2.2.2.1 fu   (0 : Int32) ((s0 - v4) - ((2 : Int32) * v5)) M) qX10_larger tw_1112 rfl ⟨rfl, rfl⟩ ⟨(Nat.le_of_ble_eq_true rfl), (Nat.le_of_ble_eq_true rfl)⟩ (Nat.le_of_ble_eq_true rfl) dX10_signBy_97 (fun _ => rfl) rfl (fun r7 M6 => ?_)
  exact j_iret (pc := 100) hX rfl dX10_signBy_100
def pX10_signBy_65 (fu : Nat) (x1 : Int32) (x2 : Int32) (x3 : Int32) (M : Mem)  : Res :=
  pX10_signBy_66 fu  x1 x2 x3 M 
set_option maxRecDepth 100000 in
theorem wX10_signBy_65 {E : jE} {X : jC} (hX : jOk X uX10_signBy (gM E)) (fu : Nat)  (x1 : Int32) (x2 : Int32) (x3 : Int32) (M : Mem)   : J X uX10_signBy (gM E) 65 [(0, .ref (gad (gM E) 0)), (1, .int x1), (2, .int x2), (3, .int x3)] [] M (pX10_signBy_65 fu  x1 x2 x3 M ) := by
  unfold pX10_signBy_65
  refine j_iload_n (pc := 65) hX 3 dX10_signBy_65 rfl rfl ?_
  exact j_sub [0, 1, 2] rfl (wX10_signBy_66 hX fu   x1 x2 x3 M  )
def pX10_signBy_38 (fu : Nat) (x1 : Int32) (x2 : Int32) (x3 : Int32) (x4 : Int32) (M : Mem)  : Res :=
  ld M 5 5 x2 fun v3 =>
  if v3 = (2 : Int32) then (
    if x4 < (5 : Int32) then (
      pX10_signBy_65 fu  x1 x2 x3 M )
    else
    bI (pX10_smaller fu (7 : Int32) (x3 + (1 : Int32)) M) fun r9 M8 =>
    pX10_signBy_66 fu  x1 x2 r9 M8 )
  else
  pX10_signBy_65 fu  x1 x2 x3 M 
set_option maxRecDepth 100000 in
theorem wX10_signBy_38 {E : jE} {X : jC} (hX : jOk X uX10_signBy (gM E)) (fu : Nat)  (x1 : Int32) (x2 : Int32) (x3 : Int32) (x4 : Int32) (M : Mem)   : J X uX10_signBy (gM E) 38 [(0, .ref (gad (gM E) 0)), (1, .int x1), (2, .int x2), (3, .int x3), (4, .int x4)] [] M (pX10_signBy_38 fu  x1 x2 x3 x4 M ) := by
  unfold pX10_signBy_38
  refine j_aload_n (pc := 38) hX 0 dX10_signBy_38 rfl rfl ?_
  refine j_getR (pc := 39) (t := 5) hX (jb rfl) rfl (ci := 9) (C := RX10) (T := TX10) (N := 30) rfl (jb rfl) inX10 (j := 8) (jb rfl) rfl tw_928 dX10_signBy_39 ?_
  refine j_iload_n (pc := 42) hX 2 dX10_signBy_42 rfl rfl ?_
  refine j_iald (pc := 43) hX (jb rfl) rfl rfl dX10_signBy_43 (fun v3 => ?_)
  refine j_iconst (pc := 44) (v := (2 : Int32)) hX dX10_signBy_44 ci_2 ?_
  refine j_icmp_ne (pc := 45) hX 65 dX10_signBy_45 (by decide) ?_ ?_
  · exact j_sub [0, 1, 2, 3] rfl (wX10_signBy_65 hX fu   x1 x2 x3 M  )
  · refine j_iload (pc := 48) hX 4 dX10_signBy_48 rfl ?_
    refine j_iconst (pc := 50) (v := (5 : Int32)) hX dX10_signBy_50 ci_5 ?_
    refine j_icmp_lt (pc := 51) hX 65 dX10_signBy_51 (by decide) ?_ ?_
    · exact j_sub [0, 1, 2, 3] rfl (wX10_signBy_65 hX fu   x1 x2 x3 M  )
    · refine j_bipush (pc := 54) (v := (7 : Int32)) hX dX10_signBy_54 cb_7 ?_
      refine j_iload_n (pc := 56) hX 3 dX10_signBy_56 rfl rfl ?_
      refine j_iconst (pc := 57) (v := (1 : Int32)) hX dX10_signBy_57 ci_1 ?_
      refine j_iadd (pc := 58) hX dX10_signBy_58 ?_
      refine j_callS (pc := 59) hX [.int (7 : Int32), .int (x3 + (1 : Int32))] (mX10_smaller _ E hX.2.2.2.2.2.2.2.2.1 fu   (7 : Int32) (x3 + (1 : Int32)) M) qX10_smaller tw_913 rfl ⟨rfl, rfl⟩ ⟨(Nat.le_of_ble_eq_true rfl), (Nat.le_of_ble_eq_true rfl)⟩ (Nat.le_of_ble_eq_true rfl) dX10_signBy_59 (fun _ => rfl) rfl (fun r9 M8 => ?_)
      refine j_goto (pc := 62) hX 66 dX10_signBy_62 (by decide) ?_
      exact j_sub [0, 1, 2] rfl (wX10_signBy_66 hX fu   x1 x2 r9 M8  )
def pX10_signBy (fu : Nat) (x1 : Int32) (x2 : Int32) (x3 : Int32) (M : Mem) : Res :=
  ld M 12 768 ((x1 + (35 : Int32)) + x2) fun v1 =>
  ld M 5 5 x2 fun v2 =>
  if v2 = (1 : Int32) then (
    if (irm v1 (2 : Int32)) = (1 : Int32) then (
      pX10_signBy_66 fu  x1 x2 ((7 : Int32) - x3) M )
    else
    pX10_signBy_38 fu  x1 x2 x3 v1 M )
  else
  pX10_signBy_38 fu  x1 x2 x3 v1 M 
set_option maxRecDepth 100000 in
theorem wX10_signBy {E : jE} {X : jC} (hX : jOk X uX10_signBy (gM E)) (fu : Nat)  (x1 : Int32) (x2 : Int32) (x3 : Int32) (M : Mem) : J X uX10_signBy (gM E) 0 [(0, .ref (gad (gM E) 0)), (1, .int x1), (2, .int x2), (3, .int x3)] [] M (pX10_signBy fu  x1 x2 x3 M) := by
  unfold pX10_signBy
  refine j_aload_n (pc := 0) hX 0 dX10_signBy_0 rfl rfl ?_
  refine j_getR (pc := 1) (t := 12) hX (jb rfl) rfl (ci := 9) (C := RX10) (T := TX10) (N := 30) rfl (jb rfl) inX10 (j := 19) (jb rfl) rfl tw_939 dX10_signBy_1 ?_
  refine j_iload_n (pc := 4) hX 1 dX10_signBy_4 rfl rfl ?_
  refine j_bipush (pc := 5) (v := (35 : Int32)) hX dX10_signBy_5 cb_35 ?_
  refine j_iadd (pc := 7) hX dX10_signBy_7 ?_
  refine j_iload_n (pc := 8) hX 2 dX10_signBy_8 rfl rfl ?_
  refine j_iadd (pc := 9) hX dX10_signBy_9 ?_
  refine j_iald (pc := 10) hX (jb rfl) rfl rfl dX10_signBy_10 (fun v1 => ?_)
  refine j_istore (pc := 11) (lv' := [(4, .int v1), (0, .ref (gad (gM E) 0)), (1, .int x1), (2, .int x2), (3, .int x3)]) hX dX10_signBy_11 (jb rfl) rfl ?_
  refine j_aload_n (pc := 13) hX 1 dX10_signBy_13 rfl rfl ?_
  refine j_getR (pc := 14) (t := 5) hX (jb rfl) rfl (ci := 9) (C := RX10) (T := TX10) (N := 30) rfl (jb rfl) inX10 (j := 8) (jb rfl) rfl tw_928 dX10_signBy_14 ?_
  refine j_iload_n (pc := 17) hX 3 dX10_signBy_17 rfl rfl ?_
  refine j_iald (pc := 18) hX (jb rfl) rfl rfl dX10_signBy_18 (fun v2 => ?_)
  refine j_iconst (pc := 19) (v := (1 : Int32)) hX dX10_signBy_19 ci_1 ?_
  refine j_icmp_ne (pc := 20) hX 38 dX10_signBy_20 (by decide) ?_ ?_
  · exact j_sub [1, 2, 3, 4, 0] rfl (wX10_signBy_38 hX fu   x1 x2 x3 v1 M  )
  · refine j_iload (pc := 23) hX 0 dX10_signBy_23 rfl ?_
    refine j_iconst (pc := 25) (v := (2 : Int32)) hX dX10_signBy_25 ci_2 ?_
    refine j_iremC (pc := 26) hX dX10_signBy_26 (by decide) ?_
    refine j_iconst (pc := 27) (v := (1 : Int32)) hX dX10_signBy_27 ci_1 ?_
    refine j_icmp_ne (pc := 28) hX 38 dX10_signBy_28 (by decide) ?_ ?_
    · exact j_sub [1, 2, 3, 4, 0] rfl (wX10_signBy_38 hX fu   x1 x2 x3 v1 M  )
    · refine j_bipush (pc := 31) (v := (7 : Int32)) hX dX10_signBy_31 cb_7 ?_
      refine j_iload_n (pc := 33) hX 4 dX10_signBy_33 rfl rfl ?_
      refine j_isub (pc := 34) hX dX10_signBy_34 ?_
      refine j_goto (pc := 35) hX 66 dX10_signBy_35 (by decide) ?_
      exact j_sub [1, 2, 3] rfl (wX10_signBy_66 hX fu   x1 x2 ((7 : Int32) - x3) M  )
theorem mX10_signBy (l : Launch) (E : jE) (hI : jInj (gM E)) (fu : Nat)  (x1 : Int32) (x2 : Int32) (x3 : Int32) (M : Mem) : jMet l (gM E) yX10_signBy cX10_signBy 6 (some .int) rX10_signBy [.ref (gad (gM E) 0), .int x1, .int x2, .int x3] M (pX10_signBy fu  x1 x2 x3 M) :=
  j_entry hI (by decide +kernel) (Nat.le_of_ble_eq_true rfl) rfl (fun X _ hX => wX10_signBy hX fu   x1 x2 x3 M)
theorem qX10_read : jYv yX10_read cX10_read 5 (some .int) 2 := ⟨tw_1169, tw_46, tw_72, tw_1170, ⟨by decide +kernel, by decide +kernel, by decide +kernel⟩⟩
abbrev rX10_read : Room := { frames := 2, cells := 0, slots := 0, locals := 46 }
def uX10_read : jM := (cX10_read, 5, RX10, (some .int), rX10_read)
def pX10_read (fu : Nat) (x1 : Int32) (x2 : Int32) (M : Mem) : Res :=
  ld M 12 768 ((x1 + (30 : Int32)) + x2) fun v1 =>
  bI (pX10_signBy fu x1 x2 v1 M) fun r3 M2 =>
  ld M2 12 768 ((x1 + (25 : Int32)) + x2) fun v4 =>
  ld M2 3 4 v4 fun v5 =>
  if v5 = 0 then (
    some (r3, M2))
  else
  if v5 = (1 : Int32) then (
    some ((r3 - (irm r3 (2 : Int32))), M2))
  else
  if v5 = (2 : Int32) then (
    bI (pX10_larger fu (4 : Int32) r3 M2) fun r7 M6 =>
    some (r7, M6))
  else
  some ((r3 / (2 : Int32)), M2)
set_option maxRecDepth 100000 in
theorem wX10_read {E : jE} {X : jC} (hX : jOk X uX10_read (gM E)) (fu : Nat)  (x1 : Int32) (x2 : Int32) (M : Mem) : J X uX10_read (gM E) 0 [(0, .ref (gad (gM E) 0)), (1, .int x1), (2, .int x2)] [] M (pX10_read fu  x1 x2 M) := by
  unfold pX10_read
  refine j_aload_n (pc := 0) hX 0 dX10_read_0 rfl rfl ?_
  refine j_iload_n (pc := 1) hX 1 dX10_read_1 rfl rfl ?_
  refine j_iload_n (pc := 2) hX 2 dX10_read_2 rfl rfl ?_
  refine j_aload_n (pc := 3) hX 0 dX10_read_3 rfl rfl ?_
  refine j_getR (pc := 4) (t := 12) hX (jb rfl) rfl (ci := 9) (C := RX10) (T := TX10) (N := 30) rfl (jb rfl) inX10 (j := 19) (jb rfl) rfl tw_939 dX10_read_4 ?_
  refine j_iload_n (pc := 7) hX 1 dX10_read_7 rfl rfl ?_
  refine j_bipush (pc := 8) (v := (30 : Int32)) hX dX10_read_8 cb_30 ?_
  refine j_iadd (pc := 10) hX dX10_read_10 ?_
  refine j_iload_n (pc := 11) hX 2 dX10_read_11 rfl rfl ?_
  refine j_iadd (pc := 12) hX dX10_read_12 ?_
  refine j_iald (pc := 13) hX (jb rfl) rfl rfl dX10_read_13 (fun v1 => ?_)
  refine j_callV (pc := 14) hX [.int x1, .int x2, .int v1] (mX10_signBy _ E hX.2.2.2.2.2.2.2.2.1 fu   x1 x2 v1 M) qX10_signBy tw_1108 (jb rfl) rfl (ci := 9) (T := TX10) (N := 30) rfl (jb rfl) rfl ⟨rfl, rfl⟩ ⟨(Nat.le_of_ble_eq_true rfl), (Nat.le_of_ble_eq_true rfl)⟩ (Nat.le_of_ble_eq_true rfl) dX10_read_14 (fun _ => rfl) rfl (fun r3 M2 => ?_)
  refine j_istore_n (pc := 17) (lv' := [(3, .int r3), (0, .ref (gad (gM E) 0)), (1, .int x1), (2, .int x2)]) hX dX10_read_17 rfl (jb rfl) rfl ?_
  refine j_aload_n (pc := 18) hX 1 dX10_read_18 rfl rfl ?_
  refine j_getR (pc := 19) (t := 3) hX (jb rfl) rfl (ci := 9) (C := RX10) (T := TX10) (N := 30) rfl (jb rfl) inX10 (j := 5) (jb rfl) rfl tw_925 dX10_read_19 ?_
  refine j_aload_n (pc := 22) hX 1 dX10_read_22 rfl rfl ?_
  refine j_getR (pc := 23) (t := 12) hX (jb rfl) rfl (ci := 9) (C := RX10) (T := TX10) (N := 30) rfl (jb rfl) inX10 (j := 19) (jb rfl) rfl tw_939 dX10_read_23 ?_
  refine j_iload_n (pc := 26) hX 2 dX10_read_26 rfl rfl ?_
  refine j_bipush (pc := 27) (v := (25 : Int32)) hX dX10_read_27 cb_25 ?_
  refine j_iadd (pc := 29) hX dX10_read_29 ?_
  refine j_iload_n (pc := 30) hX 3 dX10_read_30 rfl rfl ?_
  refine j_iadd (pc := 31) hX dX10_read_31 ?_
  refine j_iald (pc := 32) hX (jb rfl) rfl rfl dX10_read_32 (fun v4 => ?_)
  refine j_iald (pc := 33) hX (jb rfl) rfl rfl dX10_read_33 (fun v5 => ?_)
  refine j_istore (pc := 34) (lv' := [(4, .int v5), (3, .int r3), (0, .ref (gad (gM E) 0)), (1, .int x1), (2, .int x2)]) hX dX10_read_34 (jb rfl) rfl ?_
  refine j_iload (pc := 36) hX 0 dX10_read_36 rfl ?_
  refine j_if_ne (pc := 38) hX 45 dX10_read_38 (by decide) ?_ ?_
  · refine j_iload (pc := 45) hX 0 dX10_read_45 rfl ?_
    refine j_iconst (pc := 47) (v := (1 : Int32)) hX dX10_read_47 ci_1 ?_
    refine j_icmp_ne (pc := 48) hX 59 dX10_read_48 (by decide) ?_ ?_
    · refine j_iload (pc := 59) hX 0 dX10_read_59 rfl ?_
      refine j_iconst (pc := 61) (v := (2 : Int32)) hX dX10_read_61 ci_2 ?_
      refine j_icmp_ne (pc := 62) hX 73 dX10_read_62 (by decide) ?_ ?_
      · refine j_iload_n (pc := 73) hX 1 dX10_read_73 rfl rfl ?_
        refine j_iconst (pc := 74) (v := (2 : Int32)) hX dX10_read_74 ci_2 ?_
        refine j_idivC (pc := 75) hX dX10_read_75 (by decide) ?_
        exact j_iret (pc := 76) hX rfl dX10_read_76
      · refine j_iconst (pc := 65) (v := (4 : Int32)) hX dX10_read_65 ci_4 ?_
        refine j_iload_n (pc := 66) hX 1 dX10_read_66 rfl rfl ?_
        refine j_callS (pc := 67) hX [.int (4 : Int32), .int r3] (mX10_larger _ E hX.2.2.2.2.2.2.2.2.1 fu   (4 : Int32) r3 M2) qX10_larger tw_1112 rfl ⟨rfl, rfl⟩ ⟨(Nat.le_of_ble_eq_true rfl), (Nat.le_of_ble_eq_true rfl)⟩ (Nat.le_of_ble_eq_true rfl) dX10_read_67 (fun _ => rfl) rfl (fun r7 M6 => ?_)
        refine j_goto (pc := 70) hX 76 dX10_read_70 (by decide) ?_
        exact j_iret (pc := 76) hX rfl dX10_read_76
    · refine j_iload_n (pc := 51) hX 1 dX10_read_51 rfl rfl ?_
      refine j_iload_n (pc := 52) hX 1 dX10_read_52 rfl rfl ?_
      refine j_iconst (pc := 53) (v := (2 : Int32)) hX dX10_read_53 ci_2 ?_
      refine j_iremC (pc := 54) hX dX10_read_54 (by decide) ?_
      refine j_isub (pc := 55) hX dX10_read_55 ?_
      refine j_goto (pc := 56) hX 76 dX10_read_56 (by decide) ?_
      exact j_iret (pc := 76) hX rfl dX10_read_76
  · refine j_iload_n (pc := 41) hX 1 dX10_read_41 rfl rfl ?_
    refine j_goto (pc := 42) hX 76 dX10_read_42 (by decide) ?_
    exact j_iret (pc := 76) hX rfl dX10_read_76
theorem mX10_read (l : Launch) (E : jE) (hI : jInj (gM E)) (fu : Nat)  (x1 : Int32) (x2 : Int32) (M : Mem) : jMet l (gM E) yX10_read cX10_read 5 (some .int) rX10_read [.ref (gad (gM E) 0), .int x1, .int x2] M (pX10_read fu  x1 x2 M) :=
  j_entry hI (by decide +kernel) (Nat.le_of_ble_eq_true rfl) rfl (fun X _ hX => wX10_read hX fu   x1 x2 M)
theorem qX10_isOut : jYv yX10_isOut cX10_isOut 2 (some .boolean) 1 := ⟨tw_1106, tw_35, tw_72, tw_1107, ⟨by decide +kernel, by decide +kernel, by decide +kernel⟩⟩
abbrev rX10_isOut : Room := { frames := 0, cells := 0, slots := 0, locals := 0 }
def uX10_isOut : jM := (cX10_isOut, 2, RX10, (some .boolean), rX10_isOut)
def pX10_isOut (fu : Nat) (x1 : Int32) (M : Mem) : Res :=
  ld M 12 768 x1 fun v1 =>
  if v1 = (1 : Int32) then (
    rtz (1 : Int32) M)
  else
  ld M 12 768 x1 fun v2 =>
  if v2 = (2 : Int32) then (
    rtz (1 : Int32) M)
  else
  rtz (0 : Int32) M
set_option maxRecDepth 100000 in
theorem wX10_isOut {E : jE} {X : jC} (hX : jOk X uX10_isOut (gM E)) (fu : Nat)  (x1 : Int32) (M : Mem) : J X uX10_isOut (gM E) 0 [(0, .ref (gad (gM E) 0)), (1, .int x1)] [] M (pX10_isOut fu  x1 M) := by
  unfold pX10_isOut
  refine j_aload_n (pc := 0) hX 0 dX10_isOut_0 rfl rfl ?_
  refine j_getR (pc := 1) (t := 12) hX (jb rfl) rfl (ci := 9) (C := RX10) (T := TX10) (N := 30) rfl (jb rfl) inX10 (j := 19) (jb rfl) rfl tw_939 dX10_isOut_1 ?_
  refine j_iload_n (pc := 4) hX 1 dX10_isOut_4 rfl rfl ?_
  refine j_iald (pc := 5) hX (jb rfl) rfl rfl dX10_isOut_5 (fun v1 => ?_)
  refine j_iconst (pc := 6) (v := (1 : Int32)) hX dX10_isOut_6 ci_1 ?_
  refine j_icmp_eq (pc := 7) hX 20 dX10_isOut_7 (by decide) ?_ ?_
  · refine j_iconst (pc := 20) (v := (1 : Int32)) hX dX10_isOut_20 ci_1 ?_
    refine j_goto (pc := 21) hX 25 dX10_isOut_21 (by decide) ?_
    exact j_zret (pc := 25) hX rfl dX10_isOut_25
  · refine j_aload_n (pc := 10) hX 0 dX10_isOut_10 rfl rfl ?_
    refine j_getR (pc := 11) (t := 12) hX (jb rfl) rfl (ci := 9) (C := RX10) (T := TX10) (N := 30) rfl (jb rfl) inX10 (j := 19) (jb rfl) rfl tw_939 dX10_isOut_11 ?_
    refine j_iload_n (pc := 14) hX 1 dX10_isOut_14 rfl rfl ?_
    refine j_iald (pc := 15) hX (jb rfl) rfl rfl dX10_isOut_15 (fun v2 => ?_)
    refine j_iconst (pc := 16) (v := (2 : Int32)) hX dX10_isOut_16 ci_2 ?_
    refine j_icmp_ne (pc := 17) hX 24 dX10_isOut_17 (by decide) ?_ ?_
    · refine j_iconst (pc := 24) (v := (0 : Int32)) hX dX10_isOut_24 ci_0 ?_
      exact j_zret (pc := 25) hX rfl dX10_isOut_25
    · refine j_iconst (pc := 20) (v := (1 : Int32)) hX dX10_isOut_20 ci_1 ?_
      refine j_goto (pc := 21) hX 25 dX10_isOut_21 (by decide) ?_
      exact j_zret (pc := 25) hX rfl dX10_isOut_25
theorem mX10_isOut (l : Launch) (E : jE) (hI : jInj (gM E)) (fu : Nat)  (x1 : Int32) (M : Mem) : jMet l (gM E) yX10_isOut cX10_isOut 2 (some .boolean) rX10_isOut [.ref (gad (gM E) 0), .int x1] M (pX10_isOut fu  x1 M) :=
  j_entry hI (by decide +kernel) (Nat.le_of_ble_eq_true rfl) rfl (fun X _ hX => wX10_isOut hX fu   x1 M)
theorem qX10_sign : jYv yX10_sign cX10_sign 3 (some .int) 2 := ⟨tw_1101, tw_1102, tw_72, tw_1103, ⟨by decide +kernel, by decide +kernel, by decide +kernel⟩⟩
abbrev rX10_sign : Room := { frames := 2, cells := 0, slots := 0, locals := 46 }
def uX10_sign : jM := (cX10_sign, 3, RX10, (some .int), rX10_sign)
def pX10_sign (fu : Nat) (x1 : Int32) (x2 : Int32) (M : Mem) : Res :=
  bI (pX10_isBeast fu x1 M) fun r2 M1 =>
  if r2 = 0 then (
    some ((-1 : Int32), M1))
  else
  bI (pX10_in fu (x2).toInt64 (0 : Int64) (2 : Int64) M1) fun r4 M3 =>
  if r4 = 0 then (
    some ((-1 : Int32), M3))
  else
  bI (pX10_isOut fu x1 M3) fun r6 M5 =>
  if r6 = 0 then (
    some ((-2 : Int32), M5))
  else
  if x2 = 0 then (
    ld M5 12 768 ((30 : Int32) + x1) fun v9 =>
    bI (pX10_signBy fu (0 : Int32) x1 v9 M5) fun r11 M10 =>
    some (r11, M10))
  else
  if x2 = (1 : Int32) then (
    ld M5 12 768 ((45 : Int32) + x1) fun v8 =>
    some (v8, M5))
  else
  ld M5 12 768 ((50 : Int32) + x1) fun v7 =>
  some (v7, M5)
set_option maxRecDepth 100000 in
theorem wX10_sign {E : jE} {X : jC} (hX : jOk X uX10_sign (gM E)) (fu : Nat)  (x1 : Int32) (x2 : Int32) (M : Mem) : J X uX10_sign (gM E) 0 [(0, .ref (gad (gM E) 0)), (1, .int x1), (2, .int x2)] [] M (pX10_sign fu  x1 x2 M) := by
  unfold pX10_sign
  refine j_aload_n (pc := 0) hX 0 dX10_sign_0 rfl rfl ?_
  refine j_iload_n (pc := 1) hX 1 dX10_sign_1 rfl rfl ?_
  refine j_callV (pc := 2) hX [.int x1] (mX10_isBeast _ E hX.2.2.2.2.2.2.2.2.1 fu   x1 M) qX10_isBeast tw_1095 (jb rfl) rfl (ci := 9) (T := TX10) (N := 30) rfl (jb rfl) rfl ⟨rfl, rfl⟩ ⟨(Nat.le_of_ble_eq_true rfl), (Nat.le_of_ble_eq_true rfl)⟩ (Nat.le_of_ble_eq_true rfl) dX10_sign_2 (fun _ => rfl) rfl (fun r2 M1 => ?_)
  refine j_if_eq (pc := 5) hX 20 dX10_sign_5 (by decide) ?_ ?_
  · refine j_iconst (pc := 20) (v := (-1 : Int32)) hX dX10_sign_20 ci_m1 ?_
    exact j_iret (pc := 21) hX rfl dX10_sign_21
  · refine j_iload_n (pc := 8) hX 2 dX10_sign_8 rfl rfl ?_
    refine j_i2l (pc := 9) hX dX10_sign_9 ?_
    refine j_lconst (pc := 10) (v := (0 : Int64)) hX dX10_sign_10 rfl ?_
    refine j_ldc2 (pc := 11) (v := (2 : Int64)) hX tw_1074 dX10_sign_11 ?_
    refine j_callS (pc := 14) hX [.long (x2).toInt64, .long (0 : Int64), .long (2 : Int64)] (mX10_in _ E hX.2.2.2.2.2.2.2.2.1 fu   (x2).toInt64 (0 : Int64) (2 : Int64) M1) qX10_in tw_1017 rfl ⟨rfl, rfl⟩ ⟨(Nat.le_of_ble_eq_true rfl), (Nat.le_of_ble_eq_true rfl)⟩ (Nat.le_of_ble_eq_true rfl) dX10_sign_14 (fun _ => rfl) rfl (fun r4 M3 => ?_)
    refine j_if_ne (pc := 17) hX 22 dX10_sign_17 (by decide) ?_ ?_
    · refine j_aload_n (pc := 22) hX 0 dX10_sign_22 rfl rfl ?_
      refine j_iload_n (pc := 23) hX 1 dX10_sign_23 rfl rfl ?_
      refine j_callV (pc := 24) hX [.int x1] (mX10_isOut _ E hX.2.2.2.2.2.2.2.2.1 fu   x1 M3) qX10_isOut tw_1104 (jb rfl) rfl (ci := 9) (T := TX10) (N := 30) rfl (jb rfl) rfl ⟨rfl, rfl⟩ ⟨(Nat.le_of_ble_eq_true rfl), (Nat.le_of_ble_eq_true rfl)⟩ (Nat.le_of_ble_eq_true rfl) dX10_sign_24 (fun _ => rfl) rfl (fun r6 M5 => ?_)
      refine j_if_ne (pc := 27) hX 33 dX10_sign_27 (by decide) ?_ ?_
      · refine j_iload_n (pc := 33) hX 2 dX10_sign_33 rfl rfl ?_
        refine j_if_ne (pc := 34) hX 55 dX10_sign_34 (by decide) ?_ ?_
        · refine j_iload_n (pc := 55) hX 2 dX10_sign_55 rfl rfl ?_
          refine j_iconst (pc := 56) (v := (1 : Int32)) hX dX10_sign_56 ci_1 ?_
          refine j_icmp_ne (pc := 57) hX 72 dX10_sign_57 (by decide) ?_ ?_
          · refine j_aload_n (pc := 72) hX 0 dX10_sign_72 rfl rfl ?_
            refine j_getR (pc := 73) (t := 12) hX (jb rfl) rfl (ci := 9) (C := RX10) (T := TX10) (N := 30) rfl (jb rfl) inX10 (j := 19) (jb rfl) rfl tw_939 dX10_sign_73 ?_
            refine j_bipush (pc := 76) (v := (50 : Int32)) hX dX10_sign_76 cb_50 ?_
            refine j_iload_n (pc := 78) hX 1 dX10_sign_78 rfl rfl ?_
            refine j_iadd (pc := 79) hX dX10_sign_79 ?_
            refine j_iald (pc := 80) hX (jb rfl) rfl rfl dX10_sign_80 (fun v7 => ?_)
            exact j_iret (pc := 81) hX rfl dX10_sign_81
          · refine j_aload_n (pc := 60) hX 0 dX10_sign_60 rfl rfl ?_
            refine j_getR (pc := 61) (t := 12) hX (jb rfl) rfl (ci := 9) (C := RX10) (T := TX10) (N := 30) rfl (jb rfl) inX10 (j := 19) (jb rfl) rfl tw_939 dX10_sign_61 ?_
            refine j_bipush (pc := 64) (v := (45 : Int32)) hX dX10_sign_64 cb_45 ?_
            refine j_iload_n (pc := 66) hX 1 dX10_sign_66 rfl rfl ?_
            refine j_iadd (pc := 67) hX dX10_sign_67 ?_
            refine j_iald (pc := 68) hX (jb rfl) rfl rfl dX10_sign_68 (fun v8 => ?_)
            refine j_goto (pc := 69) hX 81 dX10_sign_69 (by decide) ?_
            exact j_iret (pc := 81) hX rfl dX10_sign_81
        · refine j_aload_n (pc := 37) hX 0 dX10_sign_37 rfl rfl ?_
          refine j_iconst (pc := 38) (v := (0 : Int32)) hX dX10_sign_38 ci_0 ?_
          refine j_iload_n (pc := 39) hX 1 dX10_sign_39 rfl rfl ?_
          refine j_aload_n (pc := 40) hX 0 dX10_sign_40 rfl rfl ?_
          refine j_getR (pc := 41) (t := 12) hX (jb rfl) rfl (ci := 9) (C := RX10) (T := TX10) (N := 30) rfl (jb rfl) inX10 (j := 19) (jb rfl) rfl tw_939 dX10_sign_41 ?_
          refine j_bipush (pc := 44) (v := (30 : Int32)) hX dX10_sign_44 cb_30 ?_
          refine j_iload_n (pc := 46) hX 1 dX10_sign_46 rfl rfl ?_
          refine j_iadd (pc := 47) hX dX10_sign_47 ?_
          refine j_iald (pc := 48) hX (jb rfl) rfl rfl dX10_sign_48 (fun v9 => ?_)
          refine j_callV (pc := 49) hX [.int (0 : Int32), .int x1, .int v9] (mX10_signBy _ E hX.2.2.2.2.2.2.2.2.1 fu   (0 : Int32) x1 v9 M5) qX10_signBy tw_1108 (jb rfl) rfl (ci := 9) (T := TX10) (N := 30) rfl (jb rfl) rfl ⟨rfl, rfl⟩ ⟨(Nat.le_of_ble_eq_true rfl), (Nat.le_of_ble_eq_true rfl)⟩ (Nat.le_of_ble_eq_true rfl) dX10_sign_49 (fun _ => rfl) rfl (fun r11 M10 => ?_)
          refine j_goto (pc := 52) hX 81 dX10_sign_52 (by decide) ?_
          exact j_iret (pc := 81) hX rfl dX10_sign_81
      · refine j_bipush (pc := 30) (v := (-2 : Int32)) hX dX10_sign_30 cb_m2 ?_
        exact j_iret (pc := 32) hX rfl dX10_sign_32
    · refine j_iconst (pc := 20) (v := (-1 : Int32)) hX dX10_sign_20 ci_m1 ?_
      exact j_iret (pc := 21) hX rfl dX10_sign_21
theorem mX10_sign (l : Launch) (E : jE) (hI : jInj (gM E)) (fu : Nat)  (x1 : Int32) (x2 : Int32) (M : Mem) : jMet l (gM E) yX10_sign cX10_sign 3 (some .int) rX10_sign [.ref (gad (gM E) 0), .int x1, .int x2] M (pX10_sign fu  x1 x2 M) :=
  j_entry hI (by decide +kernel) (Nat.le_of_ble_eq_true rfl) rfl (fun X _ hX => wX10_sign hX fu   x1 x2 M)
theorem qX10_known : jYv yX10_known cX10_known 2 none 0 := ⟨tw_1125, tw_38, tw_72, tw_1126, ⟨by decide +kernel, by decide +kernel, by decide +kernel⟩⟩
abbrev rX10_known : Room := { frames := 1, cells := 0, slots := 0, locals := 23 }
def uX10_known : jM := (cX10_known, 2, RX10, none, rX10_known)
def pX10_known_46 (fu : Nat)  (M : Mem)  : Res :=
  fpt M 0 20 ((M 0 20) + (1 : Int32)) fun M1 =>
  bV (pX10_copies fu (0 : Int32) ((M1 0 20) * (64 : Int32)) M1) fun M2 =>
  some (0, M2)
set_option maxRecDepth 100000 in
theorem wX10_known_46 {E : jE} {X : jC} (hX : jOk X uX10_known (gM E)) (fu : Nat)   (M : Mem)   : J X uX10_known (gM E) 46 [(0, .ref (gad (gM E) 0))] [] M (pX10_known_46 fu   M ) := by
  unfold pX10_known_46
  refine j_aload_n (pc := 46) hX 0 dX10_known_46 rfl rfl ?_
  refine j_dup (pc := 47) hX dX10_known_47 rfl ?_
  refine j_getI (pc := 48) hX (jb rfl) rfl (ci := 9) (C := RX10) (T := TX10) (N := 30) rfl (jb rfl) inX10 (j := 20) (jb rfl) rfl tw_940 dX10_known_48 ?_
  refine j_iconst (pc := 51) (v := (1 : Int32)) hX dX10_known_51 ci_1 ?_
  refine j_iadd (pc := 52) hX dX10_known_52 ?_
  refine j_putI (pc := 53) hX (jb rfl) rfl (ci := 9) (C := RX10) (T := TX10) (N := 30) rfl (jb rfl) inX10 tyX10 tyX10_ok nmX10 (j := 20) (jb rfl) rfl tw_940 rfl (tyX10_ok 20 (jb rfl)) dX10_known_53 (fun M1 => ?_)
  refine j_aload_n (pc := 56) hX 0 dX10_known_56 rfl rfl ?_
  refine j_iconst (pc := 57) (v := (0 : Int32)) hX dX10_known_57 ci_0 ?_
  refine j_aload_n (pc := 58) hX 0 dX10_known_58 rfl rfl ?_
  refine j_getI (pc := 59) hX (jb rfl) rfl (ci := 9) (C := RX10) (T := TX10) (N := 30) rfl (jb rfl) inX10 (j := 20) (jb rfl) rfl tw_940 dX10_known_59 ?_
  refine j_bipush (pc := 62) (v := (64 : Int32)) hX dX10_known_62 cb_64 ?_
  refine j_imul (pc := 64) hX dX10_known_64 ?_
  refine j_callVv (pc := 65) hX [.int (0 : Int32), .int ((M1 0 20) * (64 : Int32))] (mX10_copies _ E hX.2.2.2.2.2.2.2.2.1 fu   (0 : Int32) ((M1 0 20) * (64 : Int32)) M1) qX10_copies tw_916 (jb rfl) rfl (ci := 9) (T := TX10) (N := 30) rfl (jb rfl) rfl ⟨rfl, rfl⟩ ⟨(Nat.le_of_ble_eq_true rfl), (Nat.le_of_ble_eq_true rfl)⟩ (Nat.le_of_ble_eq_true rfl) dX10_known_65 rfl (fun M2 => ?_)
  exact j_vret (pc := 68) hX rfl dX10_known_68
def pX10_known_12b (fu : Nat) (x1 : Int32) (M : Mem) (c12 : Int32 → Mem → Res) (c40 : Mem → Res) : Res :=
  if (512 : Int32) ≤ x1 then (
    c40 M)
  else
  ld M 12 768 (x1 + (64 : Int32)) fun v3 =>
  sto M 12 768 x1 v3 fun M4 =>
  c12 (x1 + (1 : Int32)) M4
set_option maxRecDepth 100000 in
theorem wX10_known_12b {E : jE} {X : jC} (hX : jOk X uX10_known (gM E)) (fu : Nat)  (x1 : Int32) (M : Mem) (c12 : Int32 → Mem → Res) (c40 : Mem → Res) (hc12 : ∀ (x1 : Int32) (M : Mem), J X uX10_known (gM E) 12 [(0, .ref (gad (gM E) 0)), (1, .int x1)] [] M (c12 x1 M)) (hc40 : ∀  (M : Mem), J X uX10_known (gM E) 40 [(0, .ref (gad (gM E) 0))] [] M (c40  M)) : J X uX10_known (gM E) 12 [(0, .ref (gad (gM E) 0)), (1, .int x1)] [] M (pX10_known_12b fu  x1 M c12 c40) := by
  unfold pX10_known_12b
  refine j_iload_n (pc := 12) hX 1 dX10_known_12 rfl rfl ?_
  refine j_sipush (pc := 13) (v := (512 : Int32)) hX dX10_known_13 cs_512 ?_
  refine j_icmp_ge (pc := 16) hX 40 dX10_known_16 (by decide) ?_ ?_
  · exact j_sub [0] rfl (hc40  M)
  · refine j_aload_n (pc := 19) hX 0 dX10_known_19 rfl rfl ?_
    refine j_getR (pc := 20) (t := 12) hX (jb rfl) rfl (ci := 9) (C := RX10) (T := TX10) (N := 30) rfl (jb rfl) inX10 (j := 19) (jb rfl) rfl tw_939 dX10_known_20 ?_
    refine j_iload_n (pc := 23) hX 1 dX10_known_23 rfl rfl ?_
    refine j_aload_n (pc := 24) hX 0 dX10_known_24 rfl rfl ?_
    refine j_getR (pc := 25) (t := 12) hX (jb rfl) rfl (ci := 9) (C := RX10) (T := TX10) (N := 30) rfl (jb rfl) inX10 (j := 19) (jb rfl) rfl tw_939 dX10_known_25 ?_
    refine j_iload_n (pc := 28) hX 1 dX10_known_28 rfl rfl ?_
    refine j_bipush (pc := 29) (v := (64 : Int32)) hX dX10_known_29 cb_64 ?_
    refine j_iadd (pc := 31) hX dX10_known_31 ?_
    refine j_iald (pc := 32) hX (jb rfl) rfl rfl dX10_known_32 (fun v3 => ?_)
    refine j_iast (pc := 33) hX (jb rfl) rfl rfl dX10_known_33 (fun M4 => ?_)
    refine j_iinc (pc := 34) (v := (x1 + (1 : Int32))) (lv' := [(1, .int (x1 + (1 : Int32))), (0, .ref (gad (gM E) 0))]) hX 1 dX10_known_34 rfl (by rw [ci_1]) (jb rfl) rfl ?_
    refine j_goto (pc := 37) hX 12 dX10_known_37 (by decide) ?_
    exact j_sub [1, 0] rfl (hc12 (x1 + (1 : Int32)) M4)
def pX10_known_12 (fu : Nat) (c40 : Mem → Res) : Nat → Int32 → Mem → Res
  | 0, _, _ => none
  | n + 1, x1, M => pX10_known_12b fu  x1 M (pX10_known_12 fu  c40 n) c40
theorem wX10_known_12 {E : jE} {X : jC} (hX : jOk X uX10_known (gM E)) (fu : Nat)  (c40 : Mem → Res) (hc40 : ∀  (M : Mem), J X uX10_known (gM E) 40 [(0, .ref (gad (gM E) 0))] [] M (c40  M)) : ∀ (n : Nat) (x1 : Int32) (M : Mem), J X uX10_known (gM E) 12 [(0, .ref (gad (gM E) 0)), (1, .int x1)] [] M (pX10_known_12 fu  c40 n x1 M) := by
  intro n
  induction n with
  | zero => intro x1 M; exact j_none
  | succ n ih => intro x1 M; exact wX10_known_12b hX fu   x1 M (pX10_known_12 fu  c40 n) c40 ih hc40
def pX10_known (fu : Nat)  (M : Mem) : Res :=
  if (M 0 20) = (8 : Int32) then (
    pX10_known_12 fu
      (fun  M5 =>
        fpt M5 0 20 (7 : Int32) fun M6 =>
        pX10_known_46 fu   M6 )
      fu (64 : Int32) M)
  else
  pX10_known_46 fu   M 
set_option maxRecDepth 100000 in
theorem wX10_known {E : jE} {X : jC} (hX : jOk X uX10_known (gM E)) (fu : Nat)   (M : Mem) : J X uX10_known (gM E) 0 [(0, .ref (gad (gM E) 0))] [] M (pX10_known fu   M) := by
  unfold pX10_known
  refine j_aload_n (pc := 0) hX 0 dX10_known_0 rfl rfl ?_
  refine j_getI (pc := 1) hX (jb rfl) rfl (ci := 9) (C := RX10) (T := TX10) (N := 30) rfl (jb rfl) inX10 (j := 20) (jb rfl) rfl tw_940 dX10_known_1 ?_
  refine j_bipush (pc := 4) (v := (8 : Int32)) hX dX10_known_4 cb_8 ?_
  refine j_icmp_ne (pc := 6) hX 46 dX10_known_6 (by decide) ?_ ?_
  · exact j_sub [0] rfl (wX10_known_46 hX fu    M  )
  · refine j_bipush (pc := 9) (v := (64 : Int32)) hX dX10_known_9 cb_64 ?_
    refine j_istore_n (pc := 11) (lv' := [(1, .int (64 : Int32)), (0, .ref (gad (gM E) 0))]) hX dX10_known_11 rfl (jb rfl) rfl ?_
    refine j_sub [1, 0] rfl (wX10_known_12 hX fu   _ ?_ fu (64 : Int32) M)
    · intro  M5
      refine j_aload_n (pc := 40) hX 0 dX10_known_40 rfl rfl ?_
      refine j_bipush (pc := 41) (v := (7 : Int32)) hX dX10_known_41 cb_7 ?_
      refine j_putI (pc := 43) hX (jb rfl) rfl (ci := 9) (C := RX10) (T := TX10) (N := 30) rfl (jb rfl) inX10 tyX10 tyX10_ok nmX10 (j := 20) (jb rfl) rfl tw_940 rfl (tyX10_ok 20 (jb rfl)) dX10_known_43 (fun M6 => ?_)
      exact j_sub [0] rfl (wX10_known_46 hX fu    M6  )
theorem mX10_known (l : Launch) (E : jE) (hI : jInj (gM E)) (fu : Nat)   (M : Mem) : jMet l (gM E) yX10_known cX10_known 2 none rX10_known [.ref (gad (gM E) 0)] M (pX10_known fu   M) :=
  j_entry hI (by decide +kernel) (Nat.le_of_ble_eq_true rfl) rfl (fun X _ hX => wX10_known hX fu    M)
theorem qX10_canSend : jYv yX10_canSend cX10_canSend 4 (some .boolean) 3 := ⟨tw_1121, tw_37, tw_72, tw_1122, ⟨by decide +kernel, by decide +kernel, by decide +kernel⟩⟩
abbrev rX10_canSend : Room := { frames := 0, cells := 0, slots := 0, locals := 0 }
def uX10_canSend : jM := (cX10_canSend, 4, RX10, (some .boolean), rX10_canSend)
def pX10_canSend (fu : Nat) (x1 : Int32) (x2 : Int32) (x3 : Int32) (M : Mem) : Res :=
  ld M 12 768 (x1 + x2) fun v1 =>
  if v1 = 0 then (
    ld M 4 4 x3 fun v2 =>
    ld M 2 64 v2 fun v3 =>
    if (9999 : Int32) ≤ v3 then (
      rtz (0 : Int32) M)
    else
    rtz (1 : Int32) M)
  else
  rtz (0 : Int32) M
set_option maxRecDepth 100000 in
theorem wX10_canSend {E : jE} {X : jC} (hX : jOk X uX10_canSend (gM E)) (fu : Nat)  (x1 : Int32) (x2 : Int32) (x3 : Int32) (M : Mem) : J X uX10_canSend (gM E) 0 [(0, .ref (gad (gM E) 0)), (1, .int x1), (2, .int x2), (3, .int x3)] [] M (pX10_canSend fu  x1 x2 x3 M) := by
  unfold pX10_canSend
  refine j_aload_n (pc := 0) hX 0 dX10_canSend_0 rfl rfl ?_
  refine j_getR (pc := 1) (t := 12) hX (jb rfl) rfl (ci := 9) (C := RX10) (T := TX10) (N := 30) rfl (jb rfl) inX10 (j := 19) (jb rfl) rfl tw_939 dX10_canSend_1 ?_
  refine j_iload_n (pc := 4) hX 1 dX10_canSend_4 rfl rfl ?_
  refine j_iload_n (pc := 5) hX 2 dX10_canSend_5 rfl rfl ?_
  refine j_iadd (pc := 6) hX dX10_canSend_6 ?_
  refine j_iald (pc := 7) hX (jb rfl) rfl rfl dX10_canSend_7 (fun v1 => ?_)
  refine j_if_ne (pc := 8) hX 32 dX10_canSend_8 (by decide) ?_ ?_
  · refine j_iconst (pc := 32) (v := (0 : Int32)) hX dX10_canSend_32 ci_0 ?_
    exact j_zret (pc := 33) hX rfl dX10_canSend_33
  · refine j_aload_n (pc := 11) hX 0 dX10_canSend_11 rfl rfl ?_
    refine j_getR (pc := 12) (t := 2) hX (jb rfl) rfl (ci := 9) (C := RX10) (T := TX10) (N := 30) rfl (jb rfl) inX10 (j := 2) (jb rfl) rfl tw_922 dX10_canSend_12 ?_
    refine j_aload_n (pc := 15) hX 0 dX10_canSend_15 rfl rfl ?_
    refine j_getR (pc := 16) (t := 4) hX (jb rfl) rfl (ci := 9) (C := RX10) (T := TX10) (N := 30) rfl (jb rfl) inX10 (j := 6) (jb rfl) rfl tw_926 dX10_canSend_16 ?_
    refine j_iload_n (pc := 19) hX 3 dX10_canSend_19 rfl rfl ?_
    refine j_iald (pc := 20) hX (jb rfl) rfl rfl dX10_canSend_20 (fun v2 => ?_)
    refine j_iald (pc := 21) hX (jb rfl) rfl rfl dX10_canSend_21 (fun v3 => ?_)
    refine j_sipush (pc := 22) (v := (9999 : Int32)) hX dX10_canSend_22 cs_9999 ?_
    refine j_icmp_ge (pc := 25) hX 32 dX10_canSend_25 (by decide) ?_ ?_
    · refine j_iconst (pc := 32) (v := (0 : Int32)) hX dX10_canSend_32 ci_0 ?_
      exact j_zret (pc := 33) hX rfl dX10_canSend_33
    · refine j_iconst (pc := 28) (v := (1 : Int32)) hX dX10_canSend_28 ci_1 ?_
      refine j_goto (pc := 29) hX 33 dX10_canSend_29 (by decide) ?_
      exact j_zret (pc := 33) hX rfl dX10_canSend_33
theorem mX10_canSend (l : Launch) (E : jE) (hI : jInj (gM E)) (fu : Nat)  (x1 : Int32) (x2 : Int32) (x3 : Int32) (M : Mem) : jMet l (gM E) yX10_canSend cX10_canSend 4 (some .boolean) rX10_canSend [.ref (gad (gM E) 0), .int x1, .int x2, .int x3] M (pX10_canSend fu  x1 x2 x3 M) :=
  j_entry hI (by decide +kernel) (Nat.le_of_ble_eq_true rfl) rfl (fun X _ hX => wX10_canSend hX fu   x1 x2 x3 M)
