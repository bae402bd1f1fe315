theorem dX10_meet_0 : decode cX10_meet 0 = .ok (.aload_n 0, 1) := by decide +kernel
theorem dX10_meet_1 : decode cX10_meet 1 = .ok (.iload_n 1, 1) := by decide +kernel
theorem dX10_meet_2 : decode cX10_meet 2 = .ok (.invokevirtual 178, 3) := by decide +kernel
theorem dX10_meet_5 : decode cX10_meet 5 = .ok (.ifCond .eq 16, 3) := by decide +kernel
theorem dX10_meet_8 : decode cX10_meet 8 = .ok (.aload_n 0, 1) := by decide +kernel
theorem dX10_meet_9 : decode cX10_meet 9 = .ok (.iload_n 2, 1) := by decide +kernel
theorem dX10_meet_10 : decode cX10_meet 10 = .ok (.invokevirtual 178, 3) := by decide +kernel
theorem dX10_meet_13 : decode cX10_meet 13 = .ok (.ifCond .eq 8, 3) := by decide +kernel
theorem dX10_meet_16 : decode cX10_meet 16 = .ok (.iload_n 1, 1) := by decide +kernel
theorem dX10_meet_17 : decode cX10_meet 17 = .ok (.iload_n 2, 1) := by decide +kernel
theorem dX10_meet_18 : decode cX10_meet 18 = .ok (.if_icmp .ne 5, 3) := by decide +kernel
theorem dX10_meet_21 : decode cX10_meet 21 = .ok (.iconst (-1), 1) := by decide +kernel
theorem dX10_meet_22 : decode cX10_meet 22 = .ok (.ireturn, 1) := by decide +kernel
theorem dX10_meet_23 : decode cX10_meet 23 = .ok (.aload_n 0, 1) := by decide +kernel
theorem dX10_meet_24 : decode cX10_meet 24 = .ok (.iconst 0, 1) := by decide +kernel
theorem dX10_meet_25 : decode cX10_meet 25 = .ok (.sipush 704, 3) := by decide +kernel
theorem dX10_meet_28 : decode cX10_meet 28 = .ok (.invokevirtual 105, 3) := by decide +kernel
theorem dX10_meet_31 : decode cX10_meet 31 = .ok (.iconst 0, 1) := by decide +kernel
theorem dX10_meet_32 : decode cX10_meet 32 = .ok (.istore_n 3, 1) := by decide +kernel
theorem dX10_meet_33 : decode cX10_meet 33 = .ok (.iload_n 3, 1) := by decide +kernel
theorem dX10_meet_34 : decode cX10_meet 34 = .ok (.bipush 60, 2) := by decide +kernel
theorem dX10_meet_36 : decode cX10_meet 36 = .ok (.if_icmp .gt 72, 3) := by decide +kernel
theorem dX10_meet_39 : decode cX10_meet 39 = .ok (.aload_n 0, 1) := by decide +kernel
theorem dX10_meet_40 : decode cX10_meet 40 = .ok (.getfield 43, 3) := by decide +kernel
theorem dX10_meet_43 : decode cX10_meet 43 = .ok (.sipush 714, 3) := by decide +kernel
theorem dX10_meet_46 : decode cX10_meet 46 = .ok (.iload_n 1, 1) := by decide +kernel
theorem dX10_meet_47 : decode cX10_meet 47 = .ok (.iadd, 1) := by decide +kernel
theorem dX10_meet_48 : decode cX10_meet 48 = .ok (.iaload, 1) := by decide +kernel
theorem dX10_meet_49 : decode cX10_meet 49 = .ok (.bipush (-4), 2) := by decide +kernel
theorem dX10_meet_51 : decode cX10_meet 51 = .ok (.if_icmp .ne 43, 3) := by decide +kernel
theorem dX10_meet_54 : decode cX10_meet 54 = .ok (.aload_n 0, 1) := by decide +kernel
theorem dX10_meet_55 : decode cX10_meet 55 = .ok (.getfield 43, 3) := by decide +kernel
theorem dX10_meet_58 : decode cX10_meet 58 = .ok (.sipush 714, 3) := by decide +kernel
theorem dX10_meet_61 : decode cX10_meet 61 = .ok (.iload_n 2, 1) := by decide +kernel
theorem dX10_meet_62 : decode cX10_meet 62 = .ok (.iadd, 1) := by decide +kernel
theorem dX10_meet_63 : decode cX10_meet 63 = .ok (.iaload, 1) := by decide +kernel
theorem dX10_meet_64 : decode cX10_meet 64 = .ok (.bipush (-4), 2) := by decide +kernel
theorem dX10_meet_66 : decode cX10_meet 66 = .ok (.if_icmp .ne 28, 3) := by decide +kernel
theorem dX10_meet_69 : decode cX10_meet 69 = .ok (.aload_n 0, 1) := by decide +kernel
theorem dX10_meet_70 : decode cX10_meet 70 = .ok (.getfield 43, 3) := by decide +kernel
theorem dX10_meet_73 : decode cX10_meet 73 = .ok (.sipush 709, 3) := by decide +kernel
theorem dX10_meet_76 : decode cX10_meet 76 = .ok (.iload_n 1, 1) := by decide +kernel
theorem dX10_meet_77 : decode cX10_meet 77 = .ok (.iadd, 1) := by decide +kernel
theorem dX10_meet_78 : decode cX10_meet 78 = .ok (.iaload, 1) := by decide +kernel
theorem dX10_meet_79 : decode cX10_meet 79 = .ok (.aload_n 0, 1) := by decide +kernel
theorem dX10_meet_80 : decode cX10_meet 80 = .ok (.getfield 43, 3) := by decide +kernel
theorem dX10_meet_83 : decode cX10_meet 83 = .ok (.sipush 709, 3) := by decide +kernel
theorem dX10_meet_86 : decode cX10_meet 86 = .ok (.iload_n 2, 1) := by decide +kernel
theorem dX10_meet_87 : decode cX10_meet 87 = .ok (.iadd, 1) := by decide +kernel
theorem dX10_meet_88 : decode cX10_meet 88 = .ok (.iaload, 1) := by decide +kernel
theorem dX10_meet_89 : decode cX10_meet 89 = .ok (.if_icmp .ne 5, 3) := by decide +kernel
theorem dX10_meet_92 : decode cX10_meet 92 = .ok (.iload_n 3, 1) := by decide +kernel
theorem dX10_meet_93 : decode cX10_meet 93 = .ok (.ireturn, 1) := by decide +kernel
theorem dX10_meet_94 : decode cX10_meet 94 = .ok (.aload_n 0, 1) := by decide +kernel
theorem dX10_meet_95 : decode cX10_meet 95 = .ok (.sipush 704, 3) := by decide +kernel
theorem dX10_meet_98 : decode cX10_meet 98 = .ok (.iconst (-1), 1) := by decide +kernel
theorem dX10_meet_99 : decode cX10_meet 99 = .ok (.invokevirtual 225, 3) := by decide +kernel
theorem dX10_meet_102 : decode cX10_meet 102 = .ok (.iinc 3 1, 3) := by decide +kernel
theorem dX10_meet_105 : decode cX10_meet 105 = .ok (.goto (-72), 3) := by decide +kernel
theorem dX10_meet_108 : decode cX10_meet 108 = .ok (.bipush (-4), 2) := by decide +kernel
theorem dX10_meet_110 : decode cX10_meet 110 = .ok (.ireturn, 1) := by decide +kernel
theorem dX10_told_0 : decode cX10_told 0 = .ok (.aload_n 0, 1) := by decide +kernel
theorem dX10_told_1 : decode cX10_told 1 = .ok (.iload_n 1, 1) := by decide +kernel
theorem dX10_told_2 : decode cX10_told 2 = .ok (.invokevirtual 178, 3) := by decide +kernel
theorem dX10_told_5 : decode cX10_told 5 = .ok (.ifCond .eq 15, 3) := by decide +kernel
theorem dX10_told_8 : decode cX10_told 8 = .ok (.iload_n 2, 1) := by decide +kernel
theorem dX10_told_9 : decode cX10_told 9 = .ok (.i2l, 1) := by decide +kernel
theorem dX10_told_10 : decode cX10_told 10 = .ok (.lconst 0, 1) := by decide +kernel
theorem dX10_told_11 : decode cX10_told 11 = .ok (.ldc2_w 181, 3) := by decide +kernel
theorem dX10_told_14 : decode cX10_told 14 = .ok (.invokestatic 108, 3) := by decide +kernel
theorem dX10_told_17 : decode cX10_told 17 = .ok (.ifCond .ne 5, 3) := by decide +kernel
theorem dX10_told_20 : decode cX10_told 20 = .ok (.iconst (-1), 1) := by decide +kernel
theorem dX10_told_21 : decode cX10_told 21 = .ok (.ireturn, 1) := by decide +kernel
theorem dX10_told_22 : decode cX10_told 22 = .ok (.aload_n 0, 1) := by decide +kernel
theorem dX10_told_23 : decode cX10_told 23 = .ok (.iload_n 1, 1) := by decide +kernel
theorem dX10_told_24 : decode cX10_told 24 = .ok (.invokevirtual 190, 3) := by decide +kernel
theorem dX10_told_27 : decode cX10_told 27 = .ok (.ifCond .ne 6, 3) := by decide +kernel
theorem dX10_told_30 : decode cX10_told 30 = .ok (.bipush (-2), 2) := by decide +kernel
theorem dX10_told_32 : decode cX10_told 32 = .ok (.ireturn, 1) := by decide +kernel
theorem dX10_told_33 : decode cX10_told 33 = .ok (.iconst 0, 1) := by decide +kernel
theorem dX10_told_34 : decode cX10_told 34 = .ok (.istore_n 3, 1) := by decide +kernel
theorem dX10_told_35 : decode cX10_told 35 = .ok (.iconst 0, 1) := by decide +kernel
theorem dX10_told_36 : decode cX10_told 36 = .ok (.istore 4, 2) := by decide +kernel
theorem dX10_told_38 : decode cX10_told 38 = .ok (.iload 4, 2) := by decide +kernel
theorem dX10_told_40 : decode cX10_told 40 = .ok (.bipush 8, 2) := by decide +kernel
theorem dX10_told_42 : decode cX10_told 42 = .ok (.if_icmp .ge 32, 3) := by decide +kernel
theorem dX10_told_45 : decode cX10_told 45 = .ok (.iload_n 3, 1) := by decide +kernel
theorem dX10_told_46 : decode cX10_told 46 = .ok (.aload_n 0, 1) := by decide +kernel
theorem dX10_told_47 : decode cX10_told 47 = .ok (.iconst 0, 1) := by decide +kernel
theorem dX10_told_48 : decode cX10_told 48 = .ok (.iload_n 1, 1) := by decide +kernel
theorem dX10_told_49 : decode cX10_told 49 = .ok (.iload 4, 2) := by decide +kernel
theorem dX10_told_51 : decode cX10_told 51 = .ok (.invokevirtual 186, 3) := by decide +kernel
theorem dX10_told_54 : decode cX10_told 54 = .ok (.iload_n 2, 1) := by decide +kernel
theorem dX10_told_55 : decode cX10_told 55 = .ok (.if_icmp .ne 10, 3) := by decide +kernel
theorem dX10_told_58 : decode cX10_told 58 = .ok (.iconst 1, 1) := by decide +kernel
theorem dX10_told_59 : decode cX10_told 59 = .ok (.iload 4, 2) := by decide +kernel
theorem dX10_told_61 : decode cX10_told 61 = .ok (.ishl, 1) := by decide +kernel
theorem dX10_told_62 : decode cX10_told 62 = .ok (.goto 4, 3) := by decide +kernel
theorem dX10_told_65 : decode cX10_told 65 = .ok (.iconst 0, 1) := by decide +kernel
theorem dX10_told_66 : decode cX10_told 66 = .ok (.ior, 1) := by decide +kernel
theorem dX10_told_67 : decode cX10_told 67 = .ok (.istore_n 3, 1) := by decide +kernel
theorem dX10_told_68 : decode cX10_told 68 = .ok (.iinc 4 1, 3) := by decide +kernel
theorem dX10_told_71 : decode cX10_told 71 = .ok (.goto (-33), 3) := by decide +kernel
theorem dX10_told_74 : decode cX10_told 74 = .ok (.iload_n 3, 1) := by decide +kernel
theorem dX10_told_75 : decode cX10_told 75 = .ok (.ireturn, 1) := by decide +kernel
theorem dX10_who_0 : decode cX10_who 0 = .ok (.aload_n 0, 1) := by decide +kernel
theorem dX10_who_1 : decode cX10_who 1 = .ok (.iload_n 1, 1) := by decide +kernel
theorem dX10_who_2 : decode cX10_who 2 = .ok (.invokevirtual 175, 3) := by decide +kernel
theorem dX10_who_5 : decode cX10_who 5 = .ok (.ifCond .eq 25, 3) := by decide +kernel
theorem dX10_who_8 : decode cX10_who 8 = .ok (.iload_n 2, 1) := by decide +kernel
theorem dX10_who_9 : decode cX10_who 9 = .ok (.i2l, 1) := by decide +kernel
theorem dX10_who_10 : decode cX10_who 10 = .ok (.lconst 0, 1) := by decide +kernel
theorem dX10_who_11 : decode cX10_who 11 = .ok (.ldc2_w 181, 3) := by decide +kernel
theorem dX10_who_14 : decode cX10_who 14 = .ok (.invokestatic 108, 3) := by decide +kernel
theorem dX10_who_17 : decode cX10_who 17 = .ok (.ifCond .eq 13, 3) := by decide +kernel
theorem dX10_who_20 : decode cX10_who 20 = .ok (.iload_n 3, 1) := by decide +kernel
theorem dX10_who_21 : decode cX10_who 21 = .ok (.i2l, 1) := by decide +kernel
theorem dX10_who_22 : decode cX10_who 22 = .ok (.lconst 0, 1) := by decide +kernel
theorem dX10_who_23 : decode cX10_who 23 = .ok (.lconst 1, 1) := by decide +kernel
theorem dX10_who_24 : decode cX10_who 24 = .ok (.invokestatic 108, 3) := by decide +kernel
theorem dX10_who_27 : decode cX10_who 27 = .ok (.ifCond .ne 5, 3) := by decide +kernel
theorem dX10_who_30 : decode cX10_who 30 = .ok (.iconst (-1), 1) := by decide +kernel
theorem dX10_who_31 : decode cX10_who 31 = .ok (.ireturn, 1) := by decide +kernel
theorem dX10_who_32 : decode cX10_who 32 = .ok (.iconst 0, 1) := by decide +kernel
theorem dX10_who_33 : decode cX10_who 33 = .ok (.istore 4, 2) := by decide +kernel
theorem dX10_who_35 : decode cX10_who 35 = .ok (.bipush (-4), 2) := by decide +kernel
theorem dX10_who_37 : decode cX10_who 37 = .ok (.istore 5, 2) := by decide +kernel
theorem dX10_who_39 : decode cX10_who 39 = .ok (.iconst 0, 1) := by decide +kernel
theorem dX10_who_40 : decode cX10_who 40 = .ok (.istore 6, 2) := by decide +kernel
theorem dX10_who_42 : decode cX10_who 42 = .ok (.iload 6, 2) := by decide +kernel
theorem dX10_who_44 : decode cX10_who 44 = .ok (.aload_n 0, 1) := by decide +kernel
theorem dX10_who_45 : decode cX10_who 45 = .ok (.getfield 98, 3) := by decide +kernel
theorem dX10_who_48 : decode cX10_who 48 = .ok (.if_icmp .ge 85, 3) := by decide +kernel
theorem dX10_who_51 : decode cX10_who 51 = .ok (.iconst 0, 1) := by decide +kernel
theorem dX10_who_52 : decode cX10_who 52 = .ok (.istore 7, 2) := by decide +kernel
theorem dX10_who_54 : decode cX10_who 54 = .ok (.iload 7, 2) := by decide +kernel
theorem dX10_who_56 : decode cX10_who 56 = .ok (.bipush 8, 2) := by decide +kernel
theorem dX10_who_58 : decode cX10_who 58 = .ok (.if_icmp .ge 69, 3) := by decide +kernel
theorem dX10_who_61 : decode cX10_who 61 = .ok (.aload_n 0, 1) := by decide +kernel
theorem dX10_who_62 : decode cX10_who 62 = .ok (.iload 6, 2) := by decide +kernel
theorem dX10_who_64 : decode cX10_who 64 = .ok (.iload 7, 2) := by decide +kernel
theorem dX10_who_66 : decode cX10_who 66 = .ok (.iload_n 1, 1) := by decide +kernel
theorem dX10_who_67 : decode cX10_who 67 = .ok (.invokevirtual 243, 3) := by decide +kernel
theorem dX10_who_70 : decode cX10_who 70 = .ok (.iload_n 2, 1) := by decide +kernel
theorem dX10_who_71 : decode cX10_who 71 = .ok (.if_icmp .ne 7, 3) := by decide +kernel
theorem dX10_who_74 : decode cX10_who 74 = .ok (.iconst 1, 1) := by decide +kernel
theorem dX10_who_75 : decode cX10_who 75 = .ok (.goto 4, 3) := by decide +kernel
theorem dX10_who_78 : decode cX10_who 78 = .ok (.iconst 0, 1) := by decide +kernel
theorem dX10_who_79 : decode cX10_who 79 = .ok (.istore 8, 2) := by decide +kernel
theorem dX10_who_81 : decode cX10_who 81 = .ok (.iload 8, 2) := by decide +kernel
theorem dX10_who_83 : decode cX10_who 83 = .ok (.ifCond .eq 19, 3) := by decide +kernel
theorem dX10_who_86 : decode cX10_who 86 = .ok (.iload 4, 2) := by decide +kernel
theorem dX10_who_88 : decode cX10_who 88 = .ok (.ifCond .ne 14, 3) := by decide +kernel
theorem dX10_who_91 : decode cX10_who 91 = .ok (.bipush 10, 2) := by decide +kernel
theorem dX10_who_93 : decode cX10_who 93 = .ok (.iload 6, 2) := by decide +kernel
theorem dX10_who_95 : decode cX10_who 95 = .ok (.imul, 1) := by decide +kernel
theorem dX10_who_96 : decode cX10_who 96 = .ok (.iload 7, 2) := by decide +kernel
theorem dX10_who_98 : decode cX10_who 98 = .ok (.iadd, 1) := by decide +kernel
theorem dX10_who_99 : decode cX10_who 99 = .ok (.goto 5, 3) := by decide +kernel
theorem dX10_who_102 : decode cX10_who 102 = .ok (.iload 5, 2) := by decide +kernel
theorem dX10_who_104 : decode cX10_who 104 = .ok (.istore 5, 2) := by decide +kernel
theorem dX10_who_106 : decode cX10_who 106 = .ok (.iload 4, 2) := by decide +kernel
theorem dX10_who_108 : decode cX10_who 108 = .ok (.iload 8, 2) := by decide +kernel
theorem dX10_who_110 : decode cX10_who 110 = .ok (.ifCond .eq 7, 3) := by decide +kernel
theorem dX10_who_113 : decode cX10_who 113 = .ok (.iconst 1, 1) := by decide +kernel
theorem dX10_who_114 : decode cX10_who 114 = .ok (.goto 4, 3) := by decide +kernel
theorem dX10_who_117 : decode cX10_who 117 = .ok (.iconst 0, 1) := by decide +kernel
theorem dX10_who_118 : decode cX10_who 118 = .ok (.iadd, 1) := by decide +kernel
theorem dX10_who_119 : decode cX10_who 119 = .ok (.istore 4, 2) := by decide +kernel
theorem dX10_who_121 : decode cX10_who 121 = .ok (.iinc 7 1, 3) := by decide +kernel
theorem dX10_who_124 : decode cX10_who 124 = .ok (.goto (-70), 3) := by decide +kernel
theorem dX10_who_127 : decode cX10_who 127 = .ok (.iinc 6 1, 3) := by decide +kernel
theorem dX10_who_130 : decode cX10_who 130 = .ok (.goto (-88), 3) := by decide +kernel
theorem dX10_who_133 : decode cX10_who 133 = .ok (.iload_n 3, 1) := by decide +kernel
theorem dX10_who_134 : decode cX10_who 134 = .ok (.ifCond .ne 8, 3) := by decide +kernel
theorem dX10_who_137 : decode cX10_who 137 = .ok (.iload 4, 2) := by decide +kernel
theorem dX10_who_139 : decode cX10_who 139 = .ok (.goto 5, 3) := by decide +kernel
theorem dX10_who_142 : decode cX10_who 142 = .ok (.iload 5, 2) := by decide +kernel
theorem dX10_who_144 : decode cX10_who 144 = .ok (.ireturn, 1) := by decide +kernel
theorem dX10_balks_0 : decode cX10_balks 0 = .ok (.aload_n 0, 1) := by decide +kernel
theorem dX10_balks_1 : decode cX10_balks 1 = .ok (.iload_n 1, 1) := by decide +kernel
theorem dX10_balks_2 : decode cX10_balks 2 = .ok (.invokevirtual 178, 3) := by decide +kernel
theorem dX10_balks_5 : decode cX10_balks 5 = .ok (.ifCond .eq 38, 3) := by decide +kernel
theorem dX10_balks_8 : decode cX10_balks 8 = .ok (.iload_n 2, 1) := by decide +kernel
theorem dX10_balks_9 : decode cX10_balks 9 = .ok (.i2l, 1) := by decide +kernel
theorem dX10_balks_10 : decode cX10_balks 10 = .ok (.lconst 0, 1) := by decide +kernel
theorem dX10_balks_11 : decode cX10_balks 11 = .ok (.ldc2_w 251, 3) := by decide +kernel
theorem dX10_balks_14 : decode cX10_balks 14 = .ok (.invokestatic 108, 3) := by decide +kernel
theorem dX10_balks_17 : decode cX10_balks 17 = .ok (.ifCond .eq 26, 3) := by decide +kernel
theorem dX10_balks_20 : decode cX10_balks 20 = .ok (.iload_n 3, 1) := by decide +kernel
theorem dX10_balks_21 : decode cX10_balks 21 = .ok (.i2l, 1) := by decide +kernel
theorem dX10_balks_22 : decode cX10_balks 22 = .ok (.lconst 0, 1) := by decide +kernel
theorem dX10_balks_23 : decode cX10_balks 23 = .ok (.ldc2_w 253, 3) := by decide +kernel
theorem dX10_balks_26 : decode cX10_balks 26 = .ok (.invokestatic 108, 3) := by decide +kernel
theorem dX10_balks_29 : decode cX10_balks 29 = .ok (.ifCond .eq 14, 3) := by decide +kernel
theorem dX10_balks_32 : decode cX10_balks 32 = .ok (.iload 4, 2) := by decide +kernel
theorem dX10_balks_34 : decode cX10_balks 34 = .ok (.i2l, 1) := by decide +kernel
theorem dX10_balks_35 : decode cX10_balks 35 = .ok (.lconst 0, 1) := by decide +kernel
theorem dX10_balks_36 : decode cX10_balks 36 = .ok (.lconst 1, 1) := by decide +kernel
theorem dX10_balks_37 : decode cX10_balks 37 = .ok (.invokestatic 108, 3) := by decide +kernel
theorem dX10_balks_40 : decode cX10_balks 40 = .ok (.ifCond .ne 5, 3) := by decide +kernel
theorem dX10_balks_43 : decode cX10_balks 43 = .ok (.iconst (-1), 1) := by decide +kernel
theorem dX10_balks_44 : decode cX10_balks 44 = .ok (.ireturn, 1) := by decide +kernel
theorem dX10_balks_45 : decode cX10_balks 45 = .ok (.iconst 0, 1) := by decide +kernel
theorem dX10_balks_46 : decode cX10_balks 46 = .ok (.istore 5, 2) := by decide +kernel
theorem dX10_balks_48 : decode cX10_balks 48 = .ok (.iconst 0, 1) := by decide +kernel
theorem dX10_balks_49 : decode cX10_balks 49 = .ok (.istore 6, 2) := by decide +kernel
theorem dX10_balks_51 : decode cX10_balks 51 = .ok (.iconst 0, 1) := by decide +kernel
theorem dX10_balks_52 : decode cX10_balks 52 = .ok (.istore 7, 2) := by decide +kernel
theorem dX10_balks_54 : decode cX10_balks 54 = .ok (.iload 7, 2) := by decide +kernel
theorem dX10_balks_56 : decode cX10_balks 56 = .ok (.iconst 1, 1) := by decide +kernel
theorem dX10_balks_57 : decode cX10_balks 57 = .ok (.iload_n 2, 1) := by decide +kernel
theorem dX10_balks_58 : decode cX10_balks 58 = .ok (.ishl, 1) := by decide +kernel
theorem dX10_balks_59 : decode cX10_balks 59 = .ok (.if_icmp .ge 112, 3) := by decide +kernel
theorem dX10_balks_62 : decode cX10_balks 62 = .ok (.aload_n 0, 1) := by decide +kernel
theorem dX10_balks_63 : decode cX10_balks 63 = .ok (.iconst 0, 1) := by decide +kernel
theorem dX10_balks_64 : decode cX10_balks 64 = .ok (.sipush 704, 3) := by decide +kernel
theorem dX10_balks_67 : decode cX10_balks 67 = .ok (.invokevirtual 105, 3) := by decide +kernel
theorem dX10_balks_70 : decode cX10_balks 70 = .ok (.iconst 1, 1) := by decide +kernel
theorem dX10_balks_71 : decode cX10_balks 71 = .ok (.istore 8, 2) := by decide +kernel
theorem dX10_balks_73 : decode cX10_balks 73 = .ok (.iconst 0, 1) := by decide +kernel
theorem dX10_balks_74 : decode cX10_balks 74 = .ok (.istore 9, 2) := by decide +kernel
theorem dX10_balks_76 : decode cX10_balks 76 = .ok (.iload 9, 2) := by decide +kernel
theorem dX10_balks_78 : decode cX10_balks 78 = .ok (.iload_n 2, 1) := by decide +kernel
theorem dX10_balks_79 : decode cX10_balks 79 = .ok (.if_icmp .ge 54, 3) := by decide +kernel
theorem dX10_balks_82 : decode cX10_balks 82 = .ok (.iload 8, 2) := by decide +kernel
theorem dX10_balks_84 : decode cX10_balks 84 = .ok (.iload 7, 2) := by decide +kernel
theorem dX10_balks_86 : decode cX10_balks 86 = .ok (.iload 9, 2) := by decide +kernel
theorem dX10_balks_88 : decode cX10_balks 88 = .ok (.invokestatic 193, 3) := by decide +kernel
theorem dX10_balks_91 : decode cX10_balks 91 = .ok (.ifCond .eq 7, 3) := by decide +kernel
theorem dX10_balks_94 : decode cX10_balks 94 = .ok (.iload_n 3, 1) := by decide +kernel
theorem dX10_balks_95 : decode cX10_balks 95 = .ok (.goto 7, 3) := by decide +kernel
theorem dX10_balks_98 : decode cX10_balks 98 = .ok (.bipush 10, 2) := by decide +kernel
theorem dX10_balks_100 : decode cX10_balks 100 = .ok (.iload_n 3, 1) := by decide +kernel
theorem dX10_balks_101 : decode cX10_balks 101 = .ok (.isub, 1) := by decide +kernel
theorem dX10_balks_102 : decode cX10_balks 102 = .ok (.imul, 1) := by decide +kernel
theorem dX10_balks_103 : decode cX10_balks 103 = .ok (.istore 8, 2) := by decide +kernel
theorem dX10_balks_105 : decode cX10_balks 105 = .ok (.aload_n 0, 1) := by decide +kernel
theorem dX10_balks_106 : decode cX10_balks 106 = .ok (.sipush 704, 3) := by decide +kernel
theorem dX10_balks_109 : decode cX10_balks 109 = .ok (.iload 7, 2) := by decide +kernel
theorem dX10_balks_111 : decode cX10_balks 111 = .ok (.iload 9, 2) := by decide +kernel
theorem dX10_balks_113 : decode cX10_balks 113 = .ok (.invokestatic 193, 3) := by decide +kernel
theorem dX10_balks_116 : decode cX10_balks 116 = .ok (.ifCond .eq 7, 3) := by decide +kernel
theorem dX10_balks_119 : decode cX10_balks 119 = .ok (.iload_n 1, 1) := by decide +kernel
theorem dX10_balks_120 : decode cX10_balks 120 = .ok (.goto 4, 3) := by decide +kernel
theorem dX10_balks_123 : decode cX10_balks 123 = .ok (.iconst (-1), 1) := by decide +kernel
theorem dX10_balks_124 : decode cX10_balks 124 = .ok (.invokevirtual 225, 3) := by decide +kernel
theorem dX10_balks_127 : decode cX10_balks 127 = .ok (.iinc 9 1, 3) := by decide +kernel
theorem dX10_balks_130 : decode cX10_balks 130 = .ok (.goto (-54), 3) := by decide +kernel
theorem dX10_balks_133 : decode cX10_balks 133 = .ok (.iload 6, 2) := by decide +kernel
theorem dX10_balks_135 : decode cX10_balks 135 = .ok (.iload 8, 2) := by decide +kernel
theorem dX10_balks_137 : decode cX10_balks 137 = .ok (.iadd, 1) := by decide +kernel
theorem dX10_balks_138 : decode cX10_balks 138 = .ok (.istore 6, 2) := by decide +kernel
theorem dX10_balks_140 : decode cX10_balks 140 = .ok (.iload 5, 2) := by decide +kernel
theorem dX10_balks_142 : decode cX10_balks 142 = .ok (.aload_n 0, 1) := by decide +kernel
theorem dX10_balks_143 : decode cX10_balks 143 = .ok (.getfield 43, 3) := by decide +kernel
theorem dX10_balks_146 : decode cX10_balks 146 = .ok (.sipush 704, 3) := by decide +kernel
theorem dX10_balks_149 : decode cX10_balks 149 = .ok (.iload_n 1, 1) := by decide +kernel
theorem dX10_balks_150 : decode cX10_balks 150 = .ok (.iadd, 1) := by decide +kernel
theorem dX10_balks_151 : decode cX10_balks 151 = .ok (.iaload, 1) := by decide +kernel
theorem dX10_balks_152 : decode cX10_balks 152 = .ok (.iconst 2, 1) := by decide +kernel
theorem dX10_balks_153 : decode cX10_balks 153 = .ok (.if_icmp .ne 8, 3) := by decide +kernel
theorem dX10_balks_156 : decode cX10_balks 156 = .ok (.iload 8, 2) := by decide +kernel
theorem dX10_balks_158 : decode cX10_balks 158 = .ok (.goto 4, 3) := by decide +kernel
theorem dX10_balks_161 : decode cX10_balks 161 = .ok (.iconst 0, 1) := by decide +kernel
theorem dX10_balks_162 : decode cX10_balks 162 = .ok (.iadd, 1) := by decide +kernel
theorem dX10_balks_163 : decode cX10_balks 163 = .ok (.istore 5, 2) := by decide +kernel
theorem dX10_balks_165 : decode cX10_balks 165 = .ok (.iinc 7 1, 3) := by decide +kernel
theorem dX10_balks_168 : decode cX10_balks 168 = .ok (.goto (-114), 3) := by decide +kernel
theorem dX10_balks_171 : decode cX10_balks 171 = .ok (.iload 5, 2) := by decide +kernel
theorem dX10_balks_173 : decode cX10_balks 173 = .ok (.istore 7, 2) := by decide +kernel
theorem dX10_balks_175 : decode cX10_balks 175 = .ok (.iload 6, 2) := by decide +kernel
theorem dX10_balks_177 : decode cX10_balks 177 = .ok (.istore 8, 2) := by decide +kernel
theorem dX10_balks_179 : decode cX10_balks 179 = .ok (.iload 8, 2) := by decide +kernel
theorem dX10_balks_181 : decode cX10_balks 181 = .ok (.ifCond .eq 21, 3) := by decide +kernel
theorem dX10_balks_184 : decode cX10_balks 184 = .ok (.iload 7, 2) := by decide +kernel
theorem dX10_balks_186 : decode cX10_balks 186 = .ok (.iload 8, 2) := by decide +kernel
theorem dX10_balks_188 : decode cX10_balks 188 = .ok (.irem, 1) := by decide +kernel
theorem dX10_balks_189 : decode cX10_balks 189 = .ok (.istore 9, 2) := by decide +kernel
theorem dX10_balks_191 : decode cX10_balks 191 = .ok (.iload 8, 2) := by decide +kernel
theorem dX10_balks_193 : decode cX10_balks 193 = .ok (.istore 7, 2) := by decide +kernel
theorem dX10_balks_195 : decode cX10_balks 195 = .ok (.iload 9, 2) := by decide +kernel
theorem dX10_balks_197 : decode cX10_balks 197 = .ok (.istore 8, 2) := by decide +kernel
theorem dX10_balks_199 : decode cX10_balks 199 = .ok (.goto (-20), 3) := by decide +kernel
theorem dX10_balks_202 : decode cX10_balks 202 = .ok (.iload 4, 2) := by decide +kernel
theorem dX10_balks_204 : decode cX10_balks 204 = .ok (.ifCond .ne 11, 3) := by decide +kernel
theorem dX10_balks_207 : decode cX10_balks 207 = .ok (.iload 5, 2) := by decide +kernel
theorem dX10_balks_209 : decode cX10_balks 209 = .ok (.iload 7, 2) := by decide +kernel
theorem dX10_balks_211 : decode cX10_balks 211 = .ok (.idiv, 1) := by decide +kernel
theorem dX10_balks_212 : decode cX10_balks 212 = .ok (.goto 8, 3) := by decide +kernel
theorem dX10_balks_215 : decode cX10_balks 215 = .ok (.iload 6, 2) := by decide +kernel
theorem dX10_balks_217 : decode cX10_balks 217 = .ok (.iload 7, 2) := by decide +kernel
theorem dX10_balks_219 : decode cX10_balks 219 = .ok (.idiv, 1) := by decide +kernel
theorem dX10_balks_220 : decode cX10_balks 220 = .ok (.ireturn, 1) := by decide +kernel
theorem dX10_does_0 : decode cX10_does 0 = .ok (.iload_n 2, 1) := by decide +kernel
theorem dX10_does_1 : decode cX10_does 1 = .ok (.bipush 8, 2) := by decide +kernel
theorem dX10_does_3 : decode cX10_does 3 = .ok (.idiv, 1) := by decide +kernel
theorem dX10_does_4 : decode cX10_does 4 = .ok (.aload_n 0, 1) := by decide +kernel
theorem dX10_does_5 : decode cX10_does 5 = .ok (.getfield 98, 3) := by decide +kernel
theorem dX10_does_8 : decode cX10_does 8 = .ok (.irem, 1) := by decide +kernel
theorem dX10_does_9 : decode cX10_does 9 = .ok (.istore_n 3, 1) := by decide +kernel
theorem dX10_does_10 : decode cX10_does 10 = .ok (.iload_n 2, 1) := by decide +kernel
theorem dX10_does_11 : decode cX10_does 11 = .ok (.bipush 8, 2) := by decide +kernel
theorem dX10_does_13 : decode cX10_does 13 = .ok (.irem, 1) := by decide +kernel
theorem dX10_does_14 : decode cX10_does 14 = .ok (.istore 4, 2) := by decide +kernel
theorem dX10_does_16 : decode cX10_does 16 = .ok (.iload_n 2, 1) := by decide +kernel
theorem dX10_does_17 : decode cX10_does 17 = .ok (.sipush 512, 3) := by decide +kernel
theorem dX10_does_20 : decode cX10_does 20 = .ok (.idiv, 1) := by decide +kernel
theorem dX10_does_21 : decode cX10_does 21 = .ok (.aload_n 0, 1) := by decide +kernel
theorem dX10_does_22 : decode cX10_does 22 = .ok (.getfield 95, 3) := by decide +kernel
theorem dX10_does_25 : decode cX10_does 25 = .ok (.irem, 1) := by decide +kernel
theorem dX10_does_26 : decode cX10_does 26 = .ok (.istore 5, 2) := by decide +kernel
theorem dX10_does_28 : decode cX10_does 28 = .ok (.iload 4, 2) := by decide +kernel
theorem dX10_does_30 : decode cX10_does 30 = .ok (.iconst 3, 1) := by decide +kernel
theorem dX10_does_31 : decode cX10_does 31 = .ok (.if_icmp .ge 32, 3) := by decide +kernel
theorem dX10_does_34 : decode cX10_does 34 = .ok (.aload_n 0, 1) := by decide +kernel
theorem dX10_does_35 : decode cX10_does 35 = .ok (.iload_n 1, 1) := by decide +kernel
theorem dX10_does_36 : decode cX10_does 36 = .ok (.iload_n 3, 1) := by decide +kernel
theorem dX10_does_37 : decode cX10_does 37 = .ok (.iload 5, 2) := by decide +kernel
theorem dX10_does_39 : decode cX10_does 39 = .ok (.invokevirtual 212, 3) := by decide +kernel
theorem dX10_does_42 : decode cX10_does 42 = .ok (.ifCond .eq 21, 3) := by decide +kernel
theorem dX10_does_45 : decode cX10_does 45 = .ok (.aload_n 0, 1) := by decide +kernel
theorem dX10_does_46 : decode cX10_does 46 = .ok (.iload_n 1, 1) := by decide +kernel
theorem dX10_does_47 : decode cX10_does 47 = .ok (.iload_n 3, 1) := by decide +kernel
theorem dX10_does_48 : decode cX10_does 48 = .ok (.iload_n 2, 1) := by decide +kernel
theorem dX10_does_49 : decode cX10_does 49 = .ok (.bipush 64, 2) := by decide +kernel
theorem dX10_does_51 : decode cX10_does 51 = .ok (.idiv, 1) := by decide +kernel
theorem dX10_does_52 : decode cX10_does 52 = .ok (.bipush 8, 2) := by decide +kernel
theorem dX10_does_54 : decode cX10_does 54 = .ok (.irem, 1) := by decide +kernel
theorem dX10_does_55 : decode cX10_does 55 = .ok (.iload 5, 2) := by decide +kernel
theorem dX10_does_57 : decode cX10_does 57 = .ok (.invokevirtual 219, 3) := by decide +kernel
theorem dX10_does_60 : decode cX10_does 60 = .ok (.goto 62, 3) := by decide +kernel
theorem dX10_does_63 : decode cX10_does 63 = .ok (.iload 4, 2) := by decide +kernel
theorem dX10_does_65 : decode cX10_does 65 = .ok (.iconst 3, 1) := by decide +kernel
theorem dX10_does_66 : decode cX10_does 66 = .ok (.if_icmp .ne 24, 3) := by decide +kernel
theorem dX10_does_69 : decode cX10_does 69 = .ok (.aload_n 0, 1) := by decide +kernel
theorem dX10_does_70 : decode cX10_does 70 = .ok (.getfield 43, 3) := by decide +kernel
theorem dX10_does_73 : decode cX10_does 73 = .ok (.iload_n 1, 1) := by decide +kernel
theorem dX10_does_74 : decode cX10_does 74 = .ok (.iload_n 3, 1) := by decide +kernel
theorem dX10_does_75 : decode cX10_does 75 = .ok (.iadd, 1) := by decide +kernel
theorem dX10_does_76 : decode cX10_does 76 = .ok (.iaload, 1) := by decide +kernel
theorem dX10_does_77 : decode cX10_does 77 = .ok (.iconst 2, 1) := by decide +kernel
theorem dX10_does_78 : decode cX10_does 78 = .ok (.if_icmp .ne 12, 3) := by decide +kernel
theorem dX10_does_81 : decode cX10_does 81 = .ok (.aload_n 0, 1) := by decide +kernel
theorem dX10_does_82 : decode cX10_does 82 = .ok (.iload_n 1, 1) := by decide +kernel
theorem dX10_does_83 : decode cX10_does 83 = .ok (.iload_n 3, 1) := by decide +kernel
theorem dX10_does_84 : decode cX10_does 84 = .ok (.invokevirtual 231, 3) := by decide +kernel
theorem dX10_does_87 : decode cX10_does 87 = .ok (.goto 35, 3) := by decide +kernel
theorem dX10_does_90 : decode cX10_does 90 = .ok (.iload 4, 2) := by decide +kernel
theorem dX10_does_92 : decode cX10_does 92 = .ok (.iconst 4, 1) := by decide +kernel
theorem dX10_does_93 : decode cX10_does 93 = .ok (.if_icmp .ne 29, 3) := by decide +kernel
theorem dX10_does_96 : decode cX10_does 96 = .ok (.aload_n 0, 1) := by decide +kernel
theorem dX10_does_97 : decode cX10_does 97 = .ok (.getfield 43, 3) := by decide +kernel
theorem dX10_does_100 : decode cX10_does 100 = .ok (.iload_n 1, 1) := by decide +kernel
theorem dX10_does_101 : decode cX10_does 101 = .ok (.bipush 55, 2) := by decide +kernel
theorem dX10_does_103 : decode cX10_does 103 = .ok (.iadd, 1) := by decide +kernel
theorem dX10_does_104 : decode cX10_does 104 = .ok (.iload_n 2, 1) := by decide +kernel
theorem dX10_does_105 : decode cX10_does 105 = .ok (.bipush 8, 2) := by decide +kernel
theorem dX10_does_107 : decode cX10_does 107 = .ok (.idiv, 1) := by decide +kernel
theorem dX10_does_108 : decode cX10_does 108 = .ok (.aload_n 0, 1) := by decide +kernel
theorem dX10_does_109 : decode cX10_does 109 = .ok (.getfield 89, 3) := by decide +kernel
theorem dX10_does_112 : decode cX10_does 112 = .ok (.irem, 1) := by decide +kernel
theorem dX10_does_113 : decode cX10_does 113 = .ok (.iadd, 1) := by decide +kernel
theorem dX10_does_114 : decode cX10_does 114 = .ok (.iload_n 2, 1) := by decide +kernel
theorem dX10_does_115 : decode cX10_does 115 = .ok (.bipush 64, 2) := by decide +kernel
theorem dX10_does_117 : decode cX10_does 117 = .ok (.idiv, 1) := by decide +kernel
theorem dX10_does_118 : decode cX10_does 118 = .ok (.bipush 10, 2) := by decide +kernel
theorem dX10_does_120 : decode cX10_does 120 = .ok (.irem, 1) := by decide +kernel
theorem dX10_does_121 : decode cX10_does 121 = .ok (.iastore, 1) := by decide +kernel
theorem dX10_does_122 : decode cX10_does 122 = .ok (.return_, 1) := by decide +kernel
theorem qX10_meet : jYv yX10_meet cX10_meet 4 (some .int) 2 := ⟨tw_1234, tw_1235, tw_72, tw_1236, ⟨by decide +kernel, by decide +kernel, by decide +kernel⟩⟩
abbrev rX10_meet : Room := { frames := 4, cells := 0, slots := 0, locals := 93 }
def uX10_meet : jM := (cX10_meet, 4, RX10, (some .int), rX10_meet)
def pX10_meet_94 (fu : Nat) (x1 : Int32) (x2 : Int32) (x3 : Int32) (M : Mem) (c33 : Int32 → Int32 → Int32 → Mem → Res) : Res :=
  bV (pX10_hour fu (704 : Int32) (-1 : Int32) M) fun M7 =>
  c33 x1 x2 (x3 + (1 : Int32)) M7
set_option maxRecDepth 100000 in
theorem wX10_meet_94 {E : jE} {X : jC} (hX : jOk X uX10_meet (gM E)) (fu : Nat)  (x1 : Int32) (x2 : Int32) (x3 : Int32) (M : Mem) (c33 : Int32 → Int32 → Int32 → Mem → Res) (hc33 : ∀ (x1 : Int32) (x2 : Int32) (x3 : Int32) (M : Mem), J X uX10_meet (gM E) 33 [(0, .ref (gad (gM E) 0)), (1, .int x1), (2, .int x2), (3, .int x3)] [] M (c33 x1 x2 x3 M)) : J X uX10_meet (gM E) 94 [(0, .ref (gad (gM E) 0)), (1, .int x1), (2, .int x2), (3, .int x3)] [] M (pX10_meet_94 fu  x1 x2 x3 M c33) := by
  unfold pX10_meet_94
  refine j_aload_n (pc := 94) hX 0 dX10_meet_94 rfl rfl ?_
  refine j_sipush (pc := 95) (v := (704 : Int32)) hX dX10_meet_95 cs_704 ?_
  refine j_iconst (pc := 98) (v := (-1 : Int32)) hX dX10_meet_98 ci_m1 ?_
  refine j_callVv (pc := 99) hX [.int (704 : Int32), .int (-1 : Int32)] (mX10_hour _ E hX.2.2.2.2.2.2.2.2.1 fu   (704 : Int32) (-1 : Int32) M) qX10_hour tw_1136 (jb rfl) rfl (ci := 9) (T := TX10) (N := 30) rfl (jb rfl) rfl ⟨rfl, rfl⟩ ⟨(Nat.le_of_ble_eq_true rfl), (Nat.le_of_ble_eq_true rfl)⟩ (Nat.le_of_ble_eq_true rfl) dX10_meet_99 rfl (fun M7 => ?_)
  refine j_iinc (pc := 102) (v := (x3 + (1 : Int32))) (lv' := [(3, .int (x3 + (1 : Int32))), (0, .ref (gad (gM E) 0)), (1, .int x1), (2, .int x2)]) hX 3 dX10_meet_102 rfl (by rw [ci_1]) (jb rfl) rfl ?_
  refine j_goto (pc := 105) hX 33 dX10_meet_105 (by decide) ?_
  exact j_sub [1, 2, 3, 0] rfl (hc33 x1 x2 (x3 + (1 : Int32)) M7)
def pX10_meet_33b (fu : Nat) (x1 : Int32) (x2 : Int32) (x3 : Int32) (M : Mem) (c33 : Int32 → Int32 → Int32 → Mem → Res) : Res :=
  if (60 : Int32) < x3 then (
    some ((-4 : Int32), M))
  else
  ld M 12 768 ((714 : Int32) + x1) fun v6 =>
  if v6 = (-4 : Int32) then (
    ld M 12 768 ((714 : Int32) + x2) fun v8 =>
    if v8 = (-4 : Int32) then (
      ld M 12 768 ((709 : Int32) + x1) fun v9 =>
      ld M 12 768 ((709 : Int32) + x2) fun v10 =>
      if v9 = v10 then (
        some (x3, M))
      else
      pX10_meet_94 fu  x1 x2 x3 M c33)
    else
    pX10_meet_94 fu  x1 x2 x3 M c33)
  else
  pX10_meet_94 fu  x1 x2 x3 M c33
set_option maxRecDepth 100000 in
theorem wX10_meet_33b {E : jE} {X : jC} (hX : jOk X uX10_meet (gM E)) (fu : Nat)  (x1 : Int32) (x2 : Int32) (x3 : Int32) (M : Mem) (c33 : Int32 → Int32 → Int32 → Mem → Res) (hc33 : ∀ (x1 : Int32) (x2 : Int32) (x3 : Int32) (M : Mem), J X uX10_meet (gM E) 33 [(0, .ref (gad (gM E) 0)), (1, .int x1), (2, .int x2), (3, .int x3)] [] M (c33 x1 x2 x3 M)) : J X uX10_meet (gM E) 33 [(0, .ref (gad (gM E) 0)), (1, .int x1), (2, .int x2), (3, .int x3)] [] M (pX10_meet_33b fu  x1 x2 x3 M c33) := by
  unfold pX10_meet_33b
  refine j_iload_n (pc := 33) hX 3 dX10_meet_33 rfl rfl ?_
  refine j_bipush (pc := 34) (v := (60 : Int32)) hX dX10_meet_34 cb_60 ?_
  refine j_icmp_gt (pc := 36) hX 108 dX10_meet_36 (by decide) ?_ ?_
  · refine j_bipush (pc := 108) (v := (-4 : Int32)) hX dX10_meet_108 cb_m4 ?_
    exact j_iret (pc := 110) hX rfl dX10_meet_110
  · refine j_aload_n (pc := 39) hX 0 dX10_meet_39 rfl rfl ?_
    refine j_getR (pc := 40) (t := 12) hX (jb rfl) rfl (ci := 9) (C := RX10) (T := TX10) (N := 30) rfl (jb rfl) inX10 (j := 19) (jb rfl) rfl tw_939 dX10_meet_40 ?_
    refine j_sipush (pc := 43) (v := (714 : Int32)) hX dX10_meet_43 cs_714 ?_
    refine j_iload_n (pc := 46) hX 1 dX10_meet_46 rfl rfl ?_
    refine j_iadd (pc := 47) hX dX10_meet_47 ?_
    refine j_iald (pc := 48) hX (jb rfl) rfl rfl dX10_meet_48 (fun v6 => ?_)
    refine j_bipush (pc := 49) (v := (-4 : Int32)) hX dX10_meet_49 cb_m4 ?_
    refine j_icmp_ne (pc := 51) hX 94 dX10_meet_51 (by decide) ?_ ?_
    · exact j_sub [0, 1, 2, 3] rfl (wX10_meet_94 hX fu   x1 x2 x3 M c33 hc33)
    · refine j_aload_n (pc := 54) hX 0 dX10_meet_54 rfl rfl ?_
      refine j_getR (pc := 55) (t := 12) hX (jb rfl) rfl (ci := 9) (C := RX10) (T := TX10) (N := 30) rfl (jb rfl) inX10 (j := 19) (jb rfl) rfl tw_939 dX10_meet_55 ?_
      refine j_sipush (pc := 58) (v := (714 : Int32)) hX dX10_meet_58 cs_714 ?_
      refine j_iload_n (pc := 61) hX 2 dX10_meet_61 rfl rfl ?_
      refine j_iadd (pc := 62) hX dX10_meet_62 ?_
      refine j_iald (pc := 63) hX (jb rfl) rfl rfl dX10_meet_63 (fun v8 => ?_)
      refine j_bipush (pc := 64) (v := (-4 : Int32)) hX dX10_meet_64 cb_m4 ?_
      refine j_icmp_ne (pc := 66) hX 94 dX10_meet_66 (by decide) ?_ ?_
      · exact j_sub [0, 1, 2, 3] rfl (wX10_meet_94 hX fu   x1 x2 x3 M c33 hc33)
      · refine j_aload_n (pc := 69) hX 0 dX10_meet_69 rfl rfl ?_
        refine j_getR (pc := 70) (t := 12) hX (jb rfl) rfl (ci := 9) (C := RX10) (T := TX10) (N := 30) rfl (jb rfl) inX10 (j := 19) (jb rfl) rfl tw_939 dX10_meet_70 ?_
        refine j_sipush (pc := 73) (v := (709 : Int32)) hX dX10_meet_73 cs_709 ?_
        refine j_iload_n (pc := 76) hX 1 dX10_meet_76 rfl rfl ?_
        refine j_iadd (pc := 77) hX dX10_meet_77 ?_
        refine j_iald (pc := 78) hX (jb rfl) rfl rfl dX10_meet_78 (fun v9 => ?_)
        refine j_aload_n (pc := 79) hX 0 dX10_meet_79 rfl rfl ?_
        refine j_getR (pc := 80) (t := 12) hX (jb rfl) rfl (ci := 9) (C := RX10) (T := TX10) (N := 30) rfl (jb rfl) inX10 (j := 19) (jb rfl) rfl tw_939 dX10_meet_80 ?_
        refine j_sipush (pc := 83) (v := (709 : Int32)) hX dX10_meet_83 cs_709 ?_
        refine j_iload_n (pc := 86) hX 2 dX10_meet_86 rfl rfl ?_
        refine j_iadd (pc := 87) hX dX10_meet_87 ?_
        refine j_iald (pc := 88) hX (jb rfl) rfl rfl dX10_meet_88 (fun v10 => ?_)
        refine j_icmp_ne (pc := 89) hX 94 dX10_meet_89 (by decide) ?_ ?_
        · exact j_sub [0, 1, 2, 3] rfl (wX10_meet_94 hX fu   x1 x2 x3 M c33 hc33)
        · refine j_iload_n (pc := 92) hX 3 dX10_meet_92 rfl rfl ?_
          exact j_iret (pc := 93) hX rfl dX10_meet_93
def pX10_meet_33 (fu : Nat)  : Nat → Int32 → Int32 → Int32 → Mem → Res
  | 0, _, _, _, _ => none
  | n + 1, x1, x2, x3, M => pX10_meet_33b fu  x1 x2 x3 M (pX10_meet_33 fu   n)
theorem wX10_meet_33 {E : jE} {X : jC} (hX : jOk X uX10_meet (gM E)) (fu : Nat)    : ∀ (n : Nat) (x1 : Int32) (x2 : Int32) (x3 : Int32) (M : Mem), J X uX10_meet (gM E) 33 [(0, .ref (gad (gM E) 0)), (1, .int x1), (2, .int x2), (3, .int x3)] [] M (pX10_meet_33 fu   n x1 x2 x3 M) := by
  intro n
  induction n with
  | zero => intro x1 x2 x3 M; exact j_none
  | succ n ih => intro x1 x2 x3 M; exact wX10_meet_33b hX fu   x1 x2 x3 M (pX10_meet_33 fu   n) ih
def pX10_meet (fu : Nat) (x1 : Int32) (x2 : Int32) (M : Mem) : Res :=
  bI (pX10_isBeast fu x1 M) fun r2 M1 =>
  if r2 = 0 then (
    some ((-1 : Int32), M1))
  else
  bI (pX10_isBeast fu x2 M1) fun r4 M3 =>
  if r4 = 0 then (
    some ((-1 : Int32), M3))
  else
  if x1 = x2 then (
    some ((-1 : Int32), M3))
  else
  bV (pX10_copies fu (0 : Int32) (704 : Int32) M3) fun M5 =>
  pX10_meet_33 fu
    fu x1 x2 (0 : Int32) M5
set_option maxRecDepth 100000 in
theorem wX10_meet {E : jE} {X : jC} (hX : jOk X uX10_meet (gM E)) (fu : Nat)  (x1 : Int32) (x2 : Int32) (M : Mem) : J X uX10_meet (gM E) 0 [(0, .ref (gad (gM E) 0)), (1, .int x1), (2, .int x2)] [] M (pX10_meet fu  x1 x2 M) := by
  unfold pX10_meet
  refine j_aload_n (pc := 0) hX 0 dX10_meet_0 rfl rfl ?_
  refine j_iload_n (pc := 1) hX 1 dX10_meet_1 rfl rfl ?_
  refine j_callV (pc := 2) hX [.int x1] (mX10_isBeast _ E hX.2.2.2.2.2.2.2.2.1 fu   x1 M) qX10_isBeast tw_1095 (jb rfl) rfl (ci := 9) (T := TX10) (N := 30) rfl (jb rfl) rfl ⟨rfl, rfl⟩ ⟨(Nat.le_of_ble_eq_true rfl), (Nat.le_of_ble_eq_true rfl)⟩ (Nat.le_of_ble_eq_true rfl) dX10_meet_2 (fun _ => rfl) rfl (fun r2 M1 => ?_)
  refine j_if_eq (pc := 5) hX 21 dX10_meet_5 (by decide) ?_ ?_
  · refine j_iconst (pc := 21) (v := (-1 : Int32)) hX dX10_meet_21 ci_m1 ?_
    exact j_iret (pc := 22) hX rfl dX10_meet_22
  · refine j_aload_n (pc := 8) hX 0 dX10_meet_8 rfl rfl ?_
    refine j_iload_n (pc := 9) hX 2 dX10_meet_9 rfl rfl ?_
    refine j_callV (pc := 10) hX [.int x2] (mX10_isBeast _ E hX.2.2.2.2.2.2.2.2.1 fu   x2 M1) qX10_isBeast tw_1095 (jb rfl) rfl (ci := 9) (T := TX10) (N := 30) rfl (jb rfl) rfl ⟨rfl, rfl⟩ ⟨(Nat.le_of_ble_eq_true rfl), (Nat.le_of_ble_eq_true rfl)⟩ (Nat.le_of_ble_eq_true rfl) dX10_meet_10 (fun _ => rfl) rfl (fun r4 M3 => ?_)
    refine j_if_eq (pc := 13) hX 21 dX10_meet_13 (by decide) ?_ ?_
    · refine j_iconst (pc := 21) (v := (-1 : Int32)) hX dX10_meet_21 ci_m1 ?_
      exact j_iret (pc := 22) hX rfl dX10_meet_22
    · refine j_iload_n (pc := 16) hX 1 dX10_meet_16 rfl rfl ?_
      refine j_iload_n (pc := 17) hX 2 dX10_meet_17 rfl rfl ?_
      refine j_icmp_ne (pc := 18) hX 23 dX10_meet_18 (by decide) ?_ ?_
      · refine j_aload_n (pc := 23) hX 0 dX10_meet_23 rfl rfl ?_
        refine j_iconst (pc := 24) (v := (0 : Int32)) hX dX10_meet_24 ci_0 ?_
        refine j_sipush (pc := 25) (v := (704 : Int32)) hX dX10_meet_25 cs_704 ?_
        refine j_callVv (pc := 28) hX [.int (0 : Int32), .int (704 : Int32)] (mX10_copies _ E hX.2.2.2.2.2.2.2.2.1 fu   (0 : Int32) (704 : Int32) M3) qX10_copies tw_916 (jb rfl) rfl (ci := 9) (T := TX10) (N := 30) rfl (jb rfl) rfl ⟨rfl, rfl⟩ ⟨(Nat.le_of_ble_eq_true rfl), (Nat.le_of_ble_eq_true rfl)⟩ (Nat.le_of_ble_eq_true rfl) dX10_meet_28 rfl (fun M5 => ?_)
        refine j_iconst (pc := 31) (v := (0 : Int32)) hX dX10_meet_31 ci_0 ?_
        refine j_istore_n (pc := 32) (lv' := [(3, .int (0 : Int32)), (0, .ref (gad (gM E) 0)), (1, .int x1), (2, .int x2)]) hX dX10_meet_32 rfl (jb rfl) rfl ?_
        refine j_sub [1, 2, 3, 0] rfl (wX10_meet_33 hX fu     fu x1 x2 (0 : Int32) M5)
      · refine j_iconst (pc := 21) (v := (-1 : Int32)) hX dX10_meet_21 ci_m1 ?_
        exact j_iret (pc := 22) hX rfl dX10_meet_22
theorem mX10_meet (l : Launch) (E : jE) (hI : jInj (gM E)) (fu : Nat)  (x1 : Int32) (x2 : Int32) (M : Mem) : jMet l (gM E) yX10_meet cX10_meet 4 (some .int) rX10_meet [.ref (gad (gM E) 0), .int x1, .int x2] M (pX10_meet fu  x1 x2 M) :=
  j_entry hI (by decide +kernel) (Nat.le_of_ble_eq_true rfl) rfl (fun X _ hX => wX10_meet hX fu   x1 x2 M)
theorem qX10_told : jYv yX10_told cX10_told 5 (some .int) 2 := ⟨tw_1238, tw_1239, tw_72, tw_1240, ⟨by decide +kernel, by decide +kernel, by decide +kernel⟩⟩
abbrev rX10_told : Room := { frames := 2, cells := 0, slots := 0, locals := 46 }
def uX10_told : jM := (cX10_told, 5, RX10, (some .int), rX10_told)
def pX10_told_66 (fu : Nat) (x1 : Int32) (x2 : Int32) (x4 : Int32) (s0 : Int32) (s1 : Int32) (M : Mem) (c38 : Int32 → Int32 → Int32 → Int32 → Mem → Res) : Res :=
  c38 x1 x2 (s1 ||| s0) (x4 + (1 : Int32)) M
set_option maxRecDepth 100000 in
theorem wX10_told_66 {E : jE} {X : jC} (hX : jOk X uX10_told (gM E)) (fu : Nat)  (x1 : Int32) (x2 : Int32) (x4 : Int32) (s0 : Int32) (s1 : Int32) (M : Mem) (c38 : Int32 → Int32 → Int32 → Int32 → Mem → Res) (hc38 : ∀ (x1 : Int32) (x2 : Int32) (x3 : Int32) (x4 : Int32) (M : Mem), J X uX10_told (gM E) 38 [(0, .ref (gad (gM E) 0)), (1, .int x1), (2, .int x2), (3, .int x3), (4, .int x4)] [] M (c38 x1 x2 x3 x4 M)) : J X uX10_told (gM E) 66 [(0, .ref (gad (gM E) 0)), (1, .int x1), (2, .int x2), (4, .int x4)] [.int s0, .int s1] M (pX10_told_66 fu  x1 x2 x4 s0 s1 M c38) := by
  unfold pX10_told_66
  refine j_ior (pc := 66) hX dX10_told_66 ?_
  refine j_istore_n (pc := 67) (lv' := [(3, .int (s1 ||| s0)), (0, .ref (gad (gM E) 0)), (1, .int x1), (2, .int x2), (4, .int x4)]) hX dX10_told_67 rfl (jb rfl) rfl ?_
  refine j_iinc (pc := 68) (v := (x4 + (1 : Int32))) (lv' := [(4, .int (x4 + (1 : Int32))), (3, .int (s1 ||| s0)), (0, .ref (gad (gM E) 0)), (1, .int x1), (2, .int x2)]) hX 4 dX10_told_68 rfl (by rw [ci_1]) (jb rfl) rfl ?_
  refine j_goto (pc := 71) hX 38 dX10_told_71 (by decide) ?_
  exact j_sub [2, 3, 4, 1, 0] rfl (hc38 x1 x2 (s1 ||| s0) (x4 + (1 : Int32)) M)
def pX10_told_38b (fu : Nat) (x1 : Int32) (x2 : Int32) (x3 : Int32) (x4 : Int32) (M : Mem) (c38 : Int32 → Int32 → Int32 → Int32 → Mem → Res) : Res :=
  if (8 : Int32) ≤ x4 then (
    some (x3, M))
  else
  bI (pX10_signBy fu (0 : Int32) x1 x4 M) fun r8 M7 =>
  if r8 = x2 then (
    pX10_told_66 fu  x1 x2 x4 ((1 : Int32) <<< (x4 &&& 31)) x3 M7 c38)
  else
  pX10_told_66 fu  x1 x2 x4 (0 : Int32) x3 M7 c38
set_option maxRecDepth 100000 in
theorem wX10_told_38b {E : jE} {X : jC} (hX : jOk X uX10_told (gM E)) (fu : Nat)  (x1 : Int32) (x2 : Int32) (x3 : Int32) (x4 : Int32) (M : Mem) (c38 : Int32 → Int32 → Int32 → Int32 → Mem → Res) (hc38 : ∀ (x1 : Int32) (x2 : Int32) (x3 : Int32) (x4 : Int32) (M : Mem), J X uX10_told (gM E) 38 [(0, .ref (gad (gM E) 0)), (1, .int x1), (2, .int x2), (3, .int x3), (4, .int x4)] [] M (c38 x1 x2 x3 x4 M)) : J X uX10_told (gM E) 38 [(0, .ref (gad (gM E) 0)), (1, .int x1), (2, .int x2), (3, .int x3), (4, .int x4)] [] M (pX10_told_38b fu  x1 x2 x3 x4 M c38) := by
  unfold pX10_told_38b
  refine j_iload (pc := 38) hX 4 dX10_told_38 rfl ?_
  refine j_bipush (pc := 40) (v := (8 : Int32)) hX dX10_told_40 cb_8 ?_
  refine j_icmp_ge (pc := 42) hX 74 dX10_told_42 (by decide) ?_ ?_
  · refine j_iload_n (pc := 74) hX 3 dX10_told_74 rfl rfl ?_
    exact j_iret (pc := 75) hX rfl dX10_told_75
  · refine j_iload_n (pc := 45) hX 3 dX10_told_45 rfl rfl ?_
    refine j_aload_n (pc := 46) hX 0 dX10_told_46 rfl rfl ?_
    refine j_iconst (pc := 47) (v := (0 : Int32)) hX dX10_told_47 ci_0 ?_
    refine j_iload_n (pc := 48) hX 1 dX10_told_48 rfl rfl ?_
    refine j_iload (pc := 49) hX 4 dX10_told_49 rfl ?_
    refine j_callV (pc := 51) hX [.int (0 : Int32), .int x1, .int x4] (mX10_signBy _ E hX.2.2.2.2.2.2.2.2.1 fu   (0 : Int32) x1 x4 M) qX10_signBy tw_1108 (jb rfl) rfl (ci := 9) (T := TX10) (N := 30) rfl (jb rfl) rfl ⟨rfl, rfl⟩ ⟨(Nat.le_of_ble_eq_true rfl), (Nat.le_of_ble_eq_true rfl)⟩ (Nat.le_of_ble_eq_true rfl) dX10_told_51 (fun _ => rfl) rfl (fun r8 M7 => ?_)
    refine j_iload_n (pc := 54) hX 2 dX10_told_54 rfl rfl ?_
    refine j_icmp_ne (pc := 55) hX 65 dX10_told_55 (by decide) ?_ ?_
    · refine j_iconst (pc := 65) (v := (0 : Int32)) hX dX10_told_65 ci_0 ?_
      exact j_sub [0, 1, 2, 4] rfl (wX10_told_66 hX fu   x1 x2 x4 (0 : Int32) x3 M7 c38 hc38)
    · refine j_iconst (pc := 58) (v := (1 : Int32)) hX dX10_told_58 ci_1 ?_
      refine j_iload (pc := 59) hX 4 dX10_told_59 rfl ?_
      refine j_ishl (pc := 61) hX dX10_told_61 ?_
      refine j_goto (pc := 62) hX 66 dX10_told_62 (by decide) ?_
      exact j_sub [0, 1, 2, 4] rfl (wX10_told_66 hX fu   x1 x2 x4 ((1 : Int32) <<< (x4 &&& 31)) x3 M7 c38 hc38)
def pX10_told_38 (fu : Nat)  : Nat → Int32 → Int32 → Int32 → Int32 → Mem → Res
  | 0, _, _, _, _, _ => none
  | n + 1, x1, x2, x3, x4, M => pX10_told_38b fu  x1 x2 x3 x4 M (pX10_told_38 fu   n)
theorem wX10_told_38 {E : jE} {X : jC} (hX : jOk X uX10_told (gM E)) (fu : Nat)    : ∀ (n : Nat) (x1 : Int32) (x2 : Int32) (x3 : Int32) (x4 : Int32) (M : Mem), J X uX10_told (gM E) 38 [(0, .ref (gad (gM E) 0)), (1, .int x1), (2, .int x2), (3, .int x3), (4, .int x4)] [] M (pX10_told_38 fu   n x1 x2 x3 x4 M) := by
  intro n
  induction n with
  | zero => intro x1 x2 x3 x4 M; exact j_none
  | succ n ih => intro x1 x2 x3 x4 M; exact wX10_told_38b hX fu   x1 x2 x3 x4 M (pX10_told_38 fu   n) ih
def pX10_told (fu : Nat) (x1 : Int32) (x2 : Int32) (M : Mem) : Res :=
  bI (pX10_isBeast fu x1 M) fun r2 M1 =>
  if r2 = 0 then (
    some ((-1 : Int32), M1))
  else
  bI (pX10_in fu (x2).toInt64 (0 : Int64) (7 : Int64) M1) fun r4 M3 =>
  if r4 = 0 then (
    some ((-1 : Int32), M3))
  else
  bI (pX10_isOut fu x1 M3) fun r6 M5 =>
  if r6 = 0 then (
    some ((-2 : Int32), M5))
  else
  pX10_told_38 fu
    fu x1 x2 (0 : Int32) (0 : Int32) M5
set_option maxRecDepth 100000 in
theorem wX10_told {E : jE} {X : jC} (hX : jOk X uX10_told (gM E)) (fu : Nat)  (x1 : Int32) (x2 : Int32) (M : Mem) : J X uX10_told (gM E) 0 [(0, .ref (gad (gM E) 0)), (1, .int x1), (2, .int x2)] [] M (pX10_told fu  x1 x2 M) := by
  unfold pX10_told
  refine j_aload_n (pc := 0) hX 0 dX10_told_0 rfl rfl ?_
  refine j_iload_n (pc := 1) hX 1 dX10_told_1 rfl rfl ?_
  refine j_callV (pc := 2) hX [.int x1] (mX10_isBeast _ E hX.2.2.2.2.2.2.2.2.1 fu   x1 M) qX10_isBeast tw_1095 (jb rfl) rfl (ci := 9) (T := TX10) (N := 30) rfl (jb rfl) rfl ⟨rfl, rfl⟩ ⟨(Nat.le_of_ble_eq_true rfl), (Nat.le_of_ble_eq_true rfl)⟩ (Nat.le_of_ble_eq_true rfl) dX10_told_2 (fun _ => rfl) rfl (fun r2 M1 => ?_)
  refine j_if_eq (pc := 5) hX 20 dX10_told_5 (by decide) ?_ ?_
  · refine j_iconst (pc := 20) (v := (-1 : Int32)) hX dX10_told_20 ci_m1 ?_
    exact j_iret (pc := 21) hX rfl dX10_told_21
  · refine j_iload_n (pc := 8) hX 2 dX10_told_8 rfl rfl ?_
    refine j_i2l (pc := 9) hX dX10_told_9 ?_
    refine j_lconst (pc := 10) (v := (0 : Int64)) hX dX10_told_10 rfl ?_
    refine j_ldc2 (pc := 11) (v := (7 : Int64)) hX tw_1099 dX10_told_11 ?_
    refine j_callS (pc := 14) hX [.long (x2).toInt64, .long (0 : Int64), .long (7 : Int64)] (mX10_in _ E hX.2.2.2.2.2.2.2.2.1 fu   (x2).toInt64 (0 : Int64) (7 : Int64) M1) qX10_in tw_1017 rfl ⟨rfl, rfl⟩ ⟨(Nat.le_of_ble_eq_true rfl), (Nat.le_of_ble_eq_true rfl)⟩ (Nat.le_of_ble_eq_true rfl) dX10_told_14 (fun _ => rfl) rfl (fun r4 M3 => ?_)
    refine j_if_ne (pc := 17) hX 22 dX10_told_17 (by decide) ?_ ?_
    · refine j_aload_n (pc := 22) hX 0 dX10_told_22 rfl rfl ?_
      refine j_iload_n (pc := 23) hX 1 dX10_told_23 rfl rfl ?_
      refine j_callV (pc := 24) hX [.int x1] (mX10_isOut _ E hX.2.2.2.2.2.2.2.2.1 fu   x1 M3) qX10_isOut tw_1104 (jb rfl) rfl (ci := 9) (T := TX10) (N := 30) rfl (jb rfl) rfl ⟨rfl, rfl⟩ ⟨(Nat.le_of_ble_eq_true rfl), (Nat.le_of_ble_eq_true rfl)⟩ (Nat.le_of_ble_eq_true rfl) dX10_told_24 (fun _ => rfl) rfl (fun r6 M5 => ?_)
      refine j_if_ne (pc := 27) hX 33 dX10_told_27 (by decide) ?_ ?_
      · refine j_iconst (pc := 33) (v := (0 : Int32)) hX dX10_told_33 ci_0 ?_
        refine j_istore_n (pc := 34) (lv' := [(3, .int (0 : Int32)), (0, .ref (gad (gM E) 0)), (1, .int x1), (2, .int x2)]) hX dX10_told_34 rfl (jb rfl) rfl ?_
        refine j_iconst (pc := 35) (v := (0 : Int32)) hX dX10_told_35 ci_0 ?_
        refine j_istore (pc := 36) (lv' := [(4, .int (0 : Int32)), (3, .int (0 : Int32)), (0, .ref (gad (gM E) 0)), (1, .int x1), (2, .int x2)]) hX dX10_told_36 (jb rfl) rfl ?_
        refine j_sub [2, 3, 4, 1, 0] rfl (wX10_told_38 hX fu     fu x1 x2 (0 : Int32) (0 : Int32) M5)
      · refine j_bipush (pc := 30) (v := (-2 : Int32)) hX dX10_told_30 cb_m2 ?_
        exact j_iret (pc := 32) hX rfl dX10_told_32
    · refine j_iconst (pc := 20) (v := (-1 : Int32)) hX dX10_told_20 ci_m1 ?_
      exact j_iret (pc := 21) hX rfl dX10_told_21
theorem mX10_told (l : Launch) (E : jE) (hI : jInj (gM E)) (fu : Nat)  (x1 : Int32) (x2 : Int32) (M : Mem) : jMet l (gM E) yX10_told cX10_told 5 (some .int) rX10_told [.ref (gad (gM E) 0), .int x1, .int x2] M (pX10_told fu  x1 x2 M) :=
  j_entry hI (by decide +kernel) (Nat.le_of_ble_eq_true rfl) rfl (fun X _ hX => wX10_told hX fu   x1 x2 M)
theorem qX10_who : jYv yX10_who cX10_who 9 (some .int) 3 := ⟨tw_1242, tw_1243, tw_72, tw_1244, ⟨by decide +kernel, by decide +kernel, by decide +kernel⟩⟩
abbrev rX10_who : Room := { frames := 7, cells := 0, slots := 0, locals := 159 }
def uX10_who : jM := (cX10_who, 9, RX10, (some .int), rX10_who)
def pX10_who_118 (fu : Nat) (x1 : Int32) (x2 : Int32) (x3 : Int32) (x5 : Int32) (x6 : Int32) (x7 : Int32) (s0 : Int32) (s1 : Int32) (M : Mem) (c54 : Int32 → Int32 → Int32 → Int32 → Int32 → Int32 → Int32 → Mem → Res) : Res :=
  c54 x1 x2 x3 (s1 + s0) x5 x6 (x7 + (1 : Int32)) M
set_option maxRecDepth 100000 in
theorem wX10_who_118 {E : jE} {X : jC} (hX : jOk X uX10_who (gM E)) (fu : Nat)  (x1 : Int32) (x2 : Int32) (x3 : Int32) (x5 : Int32) (x6 : Int32) (x7 : Int32) (s0 : Int32) (s1 : Int32) (M : Mem) (c54 : Int32 → Int32 → Int32 → Int32 → Int32 → Int32 → Int32 → Mem → Res) (hc54 : ∀ (x1 : Int32) (x2 : Int32) (x3 : Int32) (x4 : Int32) (x5 : Int32) (x6 : Int32) (x7 : Int32) (M : Mem), J X uX10_who (gM E) 54 [(0, .ref (gad (gM E) 0)), (1, .int x1), (2, .int x2), (3, .int x3), (4, .int x4), (5, .int x5), (6, .int x6), (7, .int x7)] [] M (c54 x1 x2 x3 x4 x5 x6 x7 M)) : J X uX10_who (gM E) 118 [(0, .ref (gad (gM E) 0)), (1, .int x1), (2, .int x2), (3, .int x3), (5, .int x5), (6, .int x6), (7, .int x7)] [.int s0, .int s1] M (pX10_who_118 fu  x1 x2 x3 x5 x6 x7 s0 s1 M c54) := by
  unfold pX10_who_118
  refine j_iadd (pc := 118) hX dX10_who_118 ?_
  refine j_istore (pc := 119) (lv' := [(4, .int (s1 + s0)), (0, .ref (gad (gM E) 0)), (1, .int x1), (2, .int x2), (3, .int x3), (5, .int x5), (6, .int x6), (7, .int x7)]) hX dX10_who_119 (jb rfl) rfl ?_
  refine j_iinc (pc := 121) (v := (x7 + (1 : Int32))) (lv' := [(7, .int (x7 + (1 : Int32))), (4, .int (s1 + s0)), (0, .ref (gad (gM E) 0)), (1, .int x1), (2, .int x2), (3, .int x3), (5, .int x5), (6, .int x6)]) hX 7 dX10_who_121 rfl (by rw [ci_1]) (jb rfl) rfl ?_
  refine j_goto (pc := 124) hX 54 dX10_who_124 (by decide) ?_
  exact j_sub [2, 3, 4, 5, 1, 6, 7, 0] rfl (hc54 x1 x2 x3 (s1 + s0) x5 x6 (x7 + (1 : Int32)) M)
def pX10_who_104 (fu : Nat) (x1 : Int32) (x2 : Int32) (x3 : Int32) (x4 : Int32) (x6 : Int32) (x7 : Int32) (x8 : Int32) (s0 : Int32) (M : Mem) (c54 : Int32 → Int32 → Int32 → Int32 → Int32 → Int32 → Int32 → Mem → Res) : Res :=
  if x8 = 0 then (
    pX10_who_118 fu  x1 x2 x3 s0 x6 x7 (0 : Int32) x4 M c54)
  else
  pX10_who_118 fu  x1 x2 x3 s0 x6 x7 (1 : Int32) x4 M c54
set_option maxRecDepth 100000 in
theorem wX10_who_104 {E : jE} {X : jC} (hX : jOk X uX10_who (gM E)) (fu : Nat)  (x1 : Int32) (x2 : Int32) (x3 : Int32) (x4 : Int32) (x6 : Int32) (x7 : Int32) (x8 : Int32) (s0 : Int32) (M : Mem) (c54 : Int32 → Int32 → Int32 → Int32 → Int32 → Int32 → Int32 → Mem → Res) (hc54 : ∀ (x1 : Int32) (x2 : Int32) (x3 : Int32) (x4 : Int32) (x5 : Int32) (x6 : Int32) (x7 : Int32) (M : Mem), J X uX10_who (gM E) 54 [(0, .ref (gad (gM E) 0)), (1, .int x1), (2, .int x2), (3, .int x3), (4, .int x4), (5, .int x5), (6, .int x6), (7, .int x7)] [] M (c54 x1 x2 x3 x4 x5 x6 x7 M)) : J X uX10_who (gM E) 104 [(0, .ref (gad (gM E) 0)), (1, .int x1), (2, .int x2), (3, .int x3), (4, .int x4), (6, .int x6), (7, .int x7), (8, .int x8)] [.int s0] M (pX10_who_104 fu  x1 x2 x3 x4 x6 x7 x8 s0 M c54) := by
  unfold pX10_who_104
  refine j_istore (pc := 104) (lv' := [(5, .int s0), (0, .ref (gad (gM E) 0)), (1, .int x1), (2, .int x2), (3, .int x3), (4, .int x4), (6, .int x6), (7, .int x7), (8, .int x8)]) hX dX10_who_104 (jb rfl) rfl ?_
  refine j_iload (pc := 106) hX 5 dX10_who_106 rfl ?_
  refine j_iload (pc := 108) hX 8 dX10_who_108 rfl ?_
  refine j_if_eq (pc := 110) hX 117 dX10_who_110 (by decide) ?_ ?_
  · refine j_iconst (pc := 117) (v := (0 : Int32)) hX dX10_who_117 ci_0 ?_
    exact j_sub [1, 2, 3, 4, 0, 6, 7] rfl (wX10_who_118 hX fu   x1 x2 x3 s0 x6 x7 (0 : Int32) x4 M c54 hc54)
  · refine j_iconst (pc := 113) (v := (1 : Int32)) hX dX10_who_113 ci_1 ?_
    refine j_goto (pc := 114) hX 118 dX10_who_114 (by decide) ?_
    exact j_sub [1, 2, 3, 4, 0, 6, 7] rfl (wX10_who_118 hX fu   x1 x2 x3 s0 x6 x7 (1 : Int32) x4 M c54 hc54)
def pX10_who_102 (fu : Nat) (x1 : Int32) (x2 : Int32) (x3 : Int32) (x4 : Int32) (x5 : Int32) (x6 : Int32) (x7 : Int32) (x8 : Int32) (M : Mem) (c54 : Int32 → Int32 → Int32 → Int32 → Int32 → Int32 → Int32 → Mem → Res) : Res :=
  pX10_who_104 fu  x1 x2 x3 x4 x6 x7 x8 x5 M c54
set_option maxRecDepth 100000 in
theorem wX10_who_102 {E : jE} {X : jC} (hX : jOk X uX10_who (gM E)) (fu : Nat)  (x1 : Int32) (x2 : Int32) (x3 : Int32) (x4 : Int32) (x5 : Int32) (x6 : Int32) (x7 : Int32) (x8 : Int32) (M : Mem) (c54 : Int32 → Int32 → Int32 → Int32 → Int32 → Int32 → Int32 → Mem → Res) (hc54 : ∀ (x1 : Int32) (x2 : Int32) (x3 : Int32) (x4 : Int32) (x5 : Int32) (x6 : Int32) (x7 : Int32) (M : Mem), J X uX10_who (gM E) 54 [(0, .ref (gad (gM E) 0)), (1, .int x1), (2, .int x2), (3, .int x3), (4, .int x4), (5, .int x5), (6, .int x6), (7, .int x7)] [] M (c54 x1 x2 x3 x4 x5 x6 x7 M)) : J X uX10_who (gM E) 102 [(0, .ref (gad (gM E) 0)), (1, .int x1), (2, .int x2), (3, .int x3), (4, .int x4), (5, .int x5), (6, .int x6), (7, .int x7), (8, .int x8)] [] M (pX10_who_102 fu  x1 x2 x3 x4 x5 x6 x7 x8 M c54) := by
  unfold pX10_who_102
  refine j_iload (pc := 102) hX 5 dX10_who_102 rfl ?_
  exact j_sub [0, 1, 2, 3, 4, 6, 7, 8] rfl (wX10_who_104 hX fu   x1 x2 x3 x4 x6 x7 x8 x5 M c54 hc54)
def pX10_who_79 (fu : Nat) (x1 : Int32) (x2 : Int32) (x3 : Int32) (x4 : Int32) (x5 : Int32) (x6 : Int32) (x7 : Int32) (s0 : Int32) (M : Mem) (c54 : Int32 → Int32 → Int32 → Int32 → Int32 → Int32 → Int32 → Mem → Res) : Res :=
  if s0 = 0 then (
    pX10_who_102 fu  x1 x2 x3 x4 x5 x6 x7 s0 M c54)
  else
  if x4 = 0 then (
    pX10_who_104 fu  x1 x2 x3 x4 x6 x7 s0 (((10 : Int32) * x6) + x7) M c54)
  else
  pX10_who_102 fu  x1 x2 x3 x4 x5 x6 x7 s0 M c54
set_option maxRecDepth 100000 in
theorem wX10_who_79 {E : jE} {X : jC} (hX : jOk X uX10_who (gM E)) (fu : Nat)  (x1 : Int32) (x2 : Int32) (x3 : Int32) (x4 : Int32) (x5 : Int32) (x6 : Int32) (x7 : Int32) (s0 : Int32) (M : Mem) (c54 : Int32 → Int32 → Int32 → Int32 → Int32 → Int32 → Int32 → Mem → Res) (hc54 : ∀ (x1 : Int32) (x2 : Int32) (x3 : Int32) (x4 : Int32) (x5 : Int32) (x6 : Int32) (x7 : Int32) (M : Mem), J X uX10_who (gM E) 54 [(0, .ref (gad (gM E) 0)), (1, .int x1), (2, .int x2), (3, .int x3), (4, .int x4), (5, .int x5), (6, .int x6), (7, .int x7)] [] M (c54 x1 x2 x3 x4 x5 x6 x7 M)) : J X uX10_who (gM E) 79 [(0, .ref (gad (gM E) 0)), (1, .int x1), (2, .int x2), (3, .int x3), (4, .int x4), (5, .int x5), (6, .int x6), (7, .int x7)] [.int s0] M (pX10_who_79 fu  x1 x2 x3 x4 x5 x6 x7 s0 M c54) := by
  unfold pX10_who_79
  refine j_istore (pc := 79) (lv' := [(8, .int s0), (0, .ref (gad (gM E) 0)), (1, .int x1), (2, .int x2), (3, .int x3), (4, .int x4), (5, .int x5), (6, .int x6), (7, .int x7)]) hX dX10_who_79 (jb rfl) rfl ?_
  refine j_iload (pc := 81) hX 0 dX10_who_81 rfl ?_
  refine j_if_eq (pc := 83) hX 102 dX10_who_83 (by decide) ?_ ?_
  · exact j_sub [1, 2, 3, 4, 5, 6, 7, 8, 0] rfl (wX10_who_102 hX fu   x1 x2 x3 x4 x5 x6 x7 s0 M c54 hc54)
  · refine j_iload (pc := 86) hX 5 dX10_who_86 rfl ?_
    refine j_if_ne (pc := 88) hX 102 dX10_who_88 (by decide) ?_ ?_
    · exact j_sub [1, 2, 3, 4, 5, 6, 7, 8, 0] rfl (wX10_who_102 hX fu   x1 x2 x3 x4 x5 x6 x7 s0 M c54 hc54)
    · refine j_bipush (pc := 91) (v := (10 : Int32)) hX dX10_who_91 cb_10 ?_
      refine j_iload (pc := 93) hX 7 dX10_who_93 rfl ?_
      refine j_imul (pc := 95) hX dX10_who_95 ?_
      refine j_iload (pc := 96) hX 8 dX10_who_96 rfl ?_
      refine j_iadd (pc := 98) hX dX10_who_98 ?_
      refine j_goto (pc := 99) hX 104 dX10_who_99 (by decide) ?_
      exact j_sub [1, 2, 3, 4, 5, 7, 8, 0] rfl (wX10_who_104 hX fu   x1 x2 x3 x4 x6 x7 s0 (((10 : Int32) * x6) + x7) M c54 hc54)
def pX10_who_54b (fu : Nat) (x1 : Int32) (x2 : Int32) (x3 : Int32) (x4 : Int32) (x5 : Int32) (x6 : Int32) (x7 : Int32) (M : Mem) (c54 : Int32 → Int32 → Int32 → Int32 → Int32 → Int32 → Int32 → Mem → Res) (c127 : Int32 → Int32 → Int32 → Int32 → Int32 → Int32 → Mem → Res) : Res :=
  if (8 : Int32) ≤ x7 then (
    c127 x1 x2 x3 x4 x5 x6 M)
  else
  bI (pX10_readSent fu x6 x7 x1 M) fun r8 M7 =>
  if r8 = x2 then (
    pX10_who_79 fu  x1 x2 x3 x4 x5 x6 x7 (1 : Int32) M7 c54)
  else
  pX10_who_79 fu  x1 x2 x3 x4 x5 x6 x7 (0 : Int32) M7 c54
set_option maxRecDepth 100000 in
theorem wX10_who_54b {E : jE} {X : jC} (hX : jOk X uX10_who (gM E)) (fu : Nat)  (x1 : Int32) (x2 : Int32) (x3 : Int32) (x4 : Int32) (x5 : Int32) (x6 : Int32) (x7 : Int32) (M : Mem) (c54 : Int32 → Int32 → Int32 → Int32 → Int32 → Int32 → Int32 → Mem → Res) (c127 : Int32 → Int32 → Int32 → Int32 → Int32 → Int32 → Mem → Res) (hc54 : ∀ (x1 : Int32) (x2 : Int32) (x3 : Int32) (x4 : Int32) (x5 : Int32) (x6 : Int32) (x7 : Int32) (M : Mem), J X uX10_who (gM E) 54 [(0, .ref (gad (gM E) 0)), (1, .int x1), (2, .int x2), (3, .int x3), (4, .int x4), (5, .int x5), (6, .int x6), (7, .int x7)] [] M (c54 x1 x2 x3 x4 x5 x6 x7 M)) (hc127 : ∀ (x1 : Int32) (x2 : Int32) (x3 : Int32) (x4 : Int32) (x5 : Int32) (x6 : Int32) (M : Mem), J X uX10_who (gM E) 127 [(0, .ref (gad (gM E) 0)), (1, .int x1), (2, .int x2), (3, .int x3), (4, .int x4), (5, .int x5), (6, .int x6)] [] M (c127 x1 x2 x3 x4 x5 x6 M)) : J X uX10_who (gM E) 54 [(0, .ref (gad (gM E) 0)), (1, .int x1), (2, .int x2), (3, .int x3), (4, .int x4), (5, .int x5), (6, .int x6), (7, .int x7)] [] M (pX10_who_54b fu  x1 x2 x3 x4 x5 x6 x7 M c54 c127) := by
  unfold pX10_who_54b
  refine j_iload (pc := 54) hX 7 dX10_who_54 rfl ?_
  refine j_bipush (pc := 56) (v := (8 : Int32)) hX dX10_who_56 cb_8 ?_
  refine j_icmp_ge (pc := 58) hX 127 dX10_who_58 (by decide) ?_ ?_
  · exact j_sub [0, 1, 2, 3, 4, 5, 6] rfl (hc127 x1 x2 x3 x4 x5 x6 M)
  · refine j_aload_n (pc := 61) hX 0 dX10_who_61 rfl rfl ?_
    refine j_iload (pc := 62) hX 6 dX10_who_62 rfl ?_
    refine j_iload (pc := 64) hX 7 dX10_who_64 rfl ?_
    refine j_iload_n (pc := 66) hX 1 dX10_who_66 rfl rfl ?_
    refine j_callV (pc := 67) hX [.int x6, .int x7, .int x1] (mX10_readSent _ E hX.2.2.2.2.2.2.2.2.1 fu   x6 x7 x1 M) qX10_readSent tw_1204 (jb rfl) rfl (ci := 9) (T := TX10) (N := 30) rfl (jb rfl) rfl ⟨rfl, rfl⟩ ⟨(Nat.le_of_ble_eq_true rfl), (Nat.le_of_ble_eq_true rfl)⟩ (Nat.le_of_ble_eq_true rfl) dX10_who_67 (fun _ => rfl) rfl (fun r8 M7 => ?_)
    refine j_iload_n (pc := 70) hX 2 dX10_who_70 rfl rfl ?_
    refine j_icmp_ne (pc := 71) hX 78 dX10_who_71 (by decide) ?_ ?_
    · refine j_iconst (pc := 78) (v := (0 : Int32)) hX dX10_who_78 ci_0 ?_
      exact j_sub [0, 1, 2, 3, 4, 5, 6, 7] rfl (wX10_who_79 hX fu   x1 x2 x3 x4 x5 x6 x7 (0 : Int32) M7 c54 hc54)
    · refine j_iconst (pc := 74) (v := (1 : Int32)) hX dX10_who_74 ci_1 ?_
      refine j_goto (pc := 75) hX 79 dX10_who_75 (by decide) ?_
      exact j_sub [0, 1, 2, 3, 4, 5, 6, 7] rfl (wX10_who_79 hX fu   x1 x2 x3 x4 x5 x6 x7 (1 : Int32) M7 c54 hc54)
def pX10_who_54 (fu : Nat) (c127 : Int32 → Int32 → Int32 → Int32 → Int32 → Int32 → Mem → Res) : Nat → Int32 → Int32 → Int32 → Int32 → Int32 → Int32 → Int32 → Mem → Res
  | 0, _, _, _, _, _, _, _, _ => none
  | n + 1, x1, x2, x3, x4, x5, x6, x7, M => pX10_who_54b fu  x1 x2 x3 x4 x5 x6 x7 M (pX10_who_54 fu  c127 n) c127
theorem wX10_who_54 {E : jE} {X : jC} (hX : jOk X uX10_who (gM E)) (fu : Nat)  (c127 : Int32 → Int32 → Int32 → Int32 → Int32 → Int32 → Mem → Res) (hc127 : ∀ (x1 : Int32) (x2 : Int32) (x3 : Int32) (x4 : Int32) (x5 : Int32) (x6 : Int32) (M : Mem), J X uX10_who (gM E) 127 [(0, .ref (gad (gM E) 0)), (1, .int x1), (2, .int x2), (3, .int x3), (4, .int x4), (5, .int x5), (6, .int x6)] [] M (c127 x1 x2 x3 x4 x5 x6 M)) : ∀ (n : Nat) (x1 : Int32) (x2 : Int32) (x3 : Int32) (x4 : Int32) (x5 : Int32) (x6 : Int32) (x7 : Int32) (M : Mem), J X uX10_who (gM E) 54 [(0, .ref (gad (gM E) 0)), (1, .int x1), (2, .int x2), (3, .int x3), (4, .int x4), (5, .int x5), (6, .int x6), (7, .int x7)] [] M (pX10_who_54 fu  c127 n x1 x2 x3 x4 x5 x6 x7 M) := by
  intro n
  induction n with
  | zero => intro x1 x2 x3 x4 x5 x6 x7 M; exact j_none
  | succ n ih => intro x1 x2 x3 x4 x5 x6 x7 M; exact wX10_who_54b hX fu   x1 x2 x3 x4 x5 x6 x7 M (pX10_who_54 fu  c127 n) c127 ih hc127
def pX10_who_42b (fu : Nat) (x1 : Int32) (x2 : Int32) (x3 : Int32) (x4 : Int32) (x5 : Int32) (x6 : Int32) (M : Mem) (c42 : Int32 → Int32 → Int32 → Int32 → Int32 → Int32 → Mem → Res) (c133 : Int32 → Int32 → Int32 → Mem → Res) : Res :=
  if (M 0 7) ≤ x6 then (
    c133 x3 x4 x5 M)
  else
  pX10_who_54 fu
    (fun y9 y10 y11 y12 y13 y14 M15 =>
      c42 y9 y10 y11 y12 y13 (y14 + (1 : Int32)) M15)
    fu x1 x2 x3 x4 x5 x6 (0 : Int32) M
set_option maxRecDepth 100000 in
theorem wX10_who_42b {E : jE} {X : jC} (hX : jOk X uX10_who (gM E)) (fu : Nat)  (x1 : Int32) (x2 : Int32) (x3 : Int32) (x4 : Int32) (x5 : Int32) (x6 : Int32) (M : Mem) (c42 : Int32 → Int32 → Int32 → Int32 → Int32 → Int32 → Mem → Res) (c133 : Int32 → Int32 → Int32 → Mem → Res) (hc42 : ∀ (x1 : Int32) (x2 : Int32) (x3 : Int32) (x4 : Int32) (x5 : Int32) (x6 : Int32) (M : Mem), J X uX10_who (gM E) 42 [(0, .ref (gad (gM E) 0)), (1, .int x1), (2, .int x2), (3, .int x3), (4, .int x4), (5, .int x5), (6, .int x6)] [] M (c42 x1 x2 x3 x4 x5 x6 M)) (hc133 : ∀ (x3 : Int32) (x4 : Int32) (x5 : Int32) (M : Mem), J X uX10_who (gM E) 133 [(3, .int x3), (4, .int x4), (5, .int x5)] [] M (c133 x3 x4 x5 M)) : J X uX10_who (gM E) 42 [(0, .ref (gad (gM E) 0)), (1, .int x1), (2, .int x2), (3, .int x3), (4, .int x4), (5, .int x5), (6, .int x6)] [] M (pX10_who_42b fu  x1 x2 x3 x4 x5 x6 M c42 c133) := by
  unfold pX10_who_42b
  refine j_iload (pc := 42) hX 6 dX10_who_42 rfl ?_
  refine j_aload_n (pc := 44) hX 0 dX10_who_44 rfl rfl ?_
  refine j_getI (pc := 45) hX (jb rfl) rfl (ci := 9) (C := RX10) (T := TX10) (N := 30) rfl (jb rfl) inX10 (j := 7) (jb rfl) rfl tw_927 dX10_who_45 ?_
  refine j_icmp_ge (pc := 48) hX 133 dX10_who_48 (by decide) ?_ ?_
  · exact j_sub [3, 4, 5] rfl (hc133 x3 x4 x5 M)
  · refine j_iconst (pc := 51) (v := (0 : Int32)) hX dX10_who_51 ci_0 ?_
    refine j_istore (pc := 52) (lv' := [(7, .int (0 : Int32)), (0, .ref (gad (gM E) 0)), (1, .int x1), (2, .int x2), (3, .int x3), (4, .int x4), (5, .int x5), (6, .int x6)]) hX dX10_who_52 (jb rfl) rfl ?_
    refine j_sub [1, 2, 3, 4, 5, 6, 7, 0] rfl (wX10_who_54 hX fu   _ ?_ fu x1 x2 x3 x4 x5 x6 (0 : Int32) M)
    · intro y9 y10 y11 y12 y13 y14 M15
      refine j_iinc (pc := 127) (v := (y14 + (1 : Int32))) (lv' := [(6, .int (y14 + (1 : Int32))), (0, .ref (gad (gM E) 0)), (1, .int y9), (2, .int y10), (3, .int y11), (4, .int y12), (5, .int y13)]) hX 6 dX10_who_127 rfl (by rw [ci_1]) (jb rfl) rfl ?_
      refine j_goto (pc := 130) hX 42 dX10_who_130 (by decide) ?_
      exact j_sub [1, 2, 3, 4, 5, 6, 0] rfl (hc42 y9 y10 y11 y12 y13 (y14 + (1 : Int32)) M15)
def pX10_who_42 (fu : Nat) (c133 : Int32 → Int32 → Int32 → Mem → Res) : Nat → Int32 → Int32 → Int32 → Int32 → Int32 → Int32 → Mem → Res
  | 0, _, _, _, _, _, _, _ => none
  | n + 1, x1, x2, x3, x4, x5, x6, M => pX10_who_42b fu  x1 x2 x3 x4 x5 x6 M (pX10_who_42 fu  c133 n) c133
theorem wX10_who_42 {E : jE} {X : jC} (hX : jOk X uX10_who (gM E)) (fu : Nat)  (c133 : Int32 → Int32 → Int32 → Mem → Res) (hc133 : ∀ (x3 : Int32) (x4 : Int32) (x5 : Int32) (M : Mem), J X uX10_who (gM E) 133 [(3, .int x3), (4, .int x4), (5, .int x5)] [] M (c133 x3 x4 x5 M)) : ∀ (n : Nat) (x1 : Int32) (x2 : Int32) (x3 : Int32) (x4 : Int32) (x5 : Int32) (x6 : Int32) (M : Mem), J X uX10_who (gM E) 42 [(0, .ref (gad (gM E) 0)), (1, .int x1), (2, .int x2), (3, .int x3), (4, .int x4), (5, .int x5), (6, .int x6)] [] M (pX10_who_42 fu  c133 n x1 x2 x3 x4 x5 x6 M) := by
  intro n
  induction n with
  | zero => intro x1 x2 x3 x4 x5 x6 M; exact j_none
  | succ n ih => intro x1 x2 x3 x4 x5 x6 M; exact wX10_who_42b hX fu   x1 x2 x3 x4 x5 x6 M (pX10_who_42 fu  c133 n) c133 ih hc133
def pX10_who (fu : Nat) (x1 : Int32) (x2 : Int32) (x3 : Int32) (M : Mem) : Res :=
  bI (pX10_isDoor fu x1 M) fun r2 M1 =>
  if r2 = 0 then (
    some ((-1 : Int32), M1))
  else
  bI (pX10_in fu (x2).toInt64 (0 : Int64) (7 : Int64) M1) fun r4 M3 =>
  if r4 = 0 then (
    some ((-1 : Int32), M3))
  else
  bI (pX10_in fu (x3).toInt64 (0 : Int64) (1 : Int64) M3) fun r6 M5 =>
  if r6 = 0 then (
    some ((-1 : Int32), M5))
  else
  pX10_who_42 fu
    (fun y16 y17 y18 M19 =>
      if y16 = 0 then (
        some (y17, M19))
      else
      some (y18, M19))
    fu x1 x2 x3 (0 : Int32) (-4 : Int32) (0 : Int32) M5
set_option maxRecDepth 100000 in
theorem wX10_who {E : jE} {X : jC} (hX : jOk X uX10_who (gM E)) (fu : Nat)  (x1 : Int32) (x2 : Int32) (x3 : Int32) (M : Mem) : J X uX10_who (gM E) 0 [(0, .ref (gad (gM E) 0)), (1, .int x1), (2, .int x2), (3, .int x3)] [] M (pX10_who fu  x1 x2 x3 M) := by
  unfold pX10_who
  refine j_aload_n (pc := 0) hX 0 dX10_who_0 rfl rfl ?_
  refine j_iload_n (pc := 1) hX 1 dX10_who_1 rfl rfl ?_
  refine j_callV (pc := 2) hX [.int x1] (mX10_isDoor _ E hX.2.2.2.2.2.2.2.2.1 fu   x1 M) qX10_isDoor tw_1087 (jb rfl) rfl (ci := 9) (T := TX10) (N := 30) rfl (jb rfl) rfl ⟨rfl, rfl⟩ ⟨(Nat.le_of_ble_eq_true rfl), (Nat.le_of_ble_eq_true rfl)⟩ (Nat.le_of_ble_eq_true rfl) dX10_who_2 (fun _ => rfl) rfl (fun r2 M1 => ?_)
  refine j_if_eq (pc := 5) hX 30 dX10_who_5 (by decide) ?_ ?_
  · refine j_iconst (pc := 30) (v := (-1 : Int32)) hX dX10_who_30 ci_m1 ?_
    exact j_iret (pc := 31) hX rfl dX10_who_31
  · refine j_iload_n (pc := 8) hX 2 dX10_who_8 rfl rfl ?_
    refine j_i2l (pc := 9) hX dX10_who_9 ?_
    refine j_lconst (pc := 10) (v := (0 : Int64)) hX dX10_who_10 rfl ?_
    refine j_ldc2 (pc := 11) (v := (7 : Int64)) hX tw_1099 dX10_who_11 ?_
    refine j_callS (pc := 14) hX [.long (x2).toInt64, .long (0 : Int64), .long (7 : Int64)] (mX10_in _ E hX.2.2.2.2.2.2.2.2.1 fu   (x2).toInt64 (0 : Int64) (7 : Int64) M1) qX10_in tw_1017 rfl ⟨rfl, rfl⟩ ⟨(Nat.le_of_ble_eq_true rfl), (Nat.le_of_ble_eq_true rfl)⟩ (Nat.le_of_ble_eq_true rfl) dX10_who_14 (fun _ => rfl) rfl (fun r4 M3 => ?_)
    refine j_if_eq (pc := 17) hX 30 dX10_who_17 (by decide) ?_ ?_
    · refine j_iconst (pc := 30) (v := (-1 : Int32)) hX dX10_who_30 ci_m1 ?_
      exact j_iret (pc := 31) hX rfl dX10_who_31
    · refine j_iload_n (pc := 20) hX 3 dX10_who_20 rfl rfl ?_
      refine j_i2l (pc := 21) hX dX10_who_21 ?_
      refine j_lconst (pc := 22) (v := (0 : Int64)) hX dX10_who_22 rfl ?_
      refine j_lconst (pc := 23) (v := (1 : Int64)) hX dX10_who_23 rfl ?_
      refine j_callS (pc := 24) hX [.long (x3).toInt64, .long (0 : Int64), .long (1 : Int64)] (mX10_in _ E hX.2.2.2.2.2.2.2.2.1 fu   (x3).toInt64 (0 : Int64) (1 : Int64) M3) qX10_in tw_1017 rfl ⟨rfl, rfl⟩ ⟨(Nat.le_of_ble_eq_true rfl), (Nat.le_of_ble_eq_true rfl)⟩ (Nat.le_of_ble_eq_true rfl) dX10_who_24 (fun _ => rfl) rfl (fun r6 M5 => ?_)
      refine j_if_ne (pc := 27) hX 32 dX10_who_27 (by decide) ?_ ?_
      · refine j_iconst (pc := 32) (v := (0 : Int32)) hX dX10_who_32 ci_0 ?_
        refine j_istore (pc := 33) (lv' := [(4, .int (0 : Int32)), (0, .ref (gad (gM E) 0)), (1, .int x1), (2, .int x2), (3, .int x3)]) hX dX10_who_33 (jb rfl) rfl ?_
        refine j_bipush (pc := 35) (v := (-4 : Int32)) hX dX10_who_35 cb_m4 ?_
        refine j_istore (pc := 37) (lv' := [(5, .int (-4 : Int32)), (4, .int (0 : Int32)), (0, .ref (gad (gM E) 0)), (1, .int x1), (2, .int x2), (3, .int x3)]) hX dX10_who_37 (jb rfl) rfl ?_
        refine j_iconst (pc := 39) (v := (0 : Int32)) hX dX10_who_39 ci_0 ?_
        refine j_istore (pc := 40) (lv' := [(6, .int (0 : Int32)), (5, .int (-4 : Int32)), (4, .int (0 : Int32)), (0, .ref (gad (gM E) 0)), (1, .int x1), (2, .int x2), (3, .int x3)]) hX dX10_who_40 (jb rfl) rfl ?_
        refine j_sub [3, 4, 5, 6, 2, 1, 0] rfl (wX10_who_42 hX fu   _ ?_ fu x1 x2 x3 (0 : Int32) (-4 : Int32) (0 : Int32) M5)
        · intro y16 y17 y18 M19
          refine j_iload_n (pc := 133) hX 0 dX10_who_133 rfl rfl ?_
          refine j_if_ne (pc := 134) hX 142 dX10_who_134 (by decide) ?_ ?_
          · refine j_iload (pc := 142) hX 2 dX10_who_142 rfl ?_
            exact j_iret (pc := 144) hX rfl dX10_who_144
          · refine j_iload (pc := 137) hX 1 dX10_who_137 rfl ?_
            refine j_goto (pc := 139) hX 144 dX10_who_139 (by decide) ?_
            exact j_iret (pc := 144) hX rfl dX10_who_144
      · refine j_iconst (pc := 30) (v := (-1 : Int32)) hX dX10_who_30 ci_m1 ?_
        exact j_iret (pc := 31) hX rfl dX10_who_31
theorem mX10_who (l : Launch) (E : jE) (hI : jInj (gM E)) (fu : Nat)  (x1 : Int32) (x2 : Int32) (x3 : Int32) (M : Mem) : jMet l (gM E) yX10_who cX10_who 9 (some .int) rX10_who [.ref (gad (gM E) 0), .int x1, .int x2, .int x3] M (pX10_who fu  x1 x2 x3 M) :=
  j_entry hI (by decide +kernel) (Nat.le_of_ble_eq_true rfl) rfl (fun X _ hX => wX10_who hX fu   x1 x2 x3 M)
theorem qX10_balks : jYv yX10_balks cX10_balks 10 (some .int) 4 := ⟨tw_1246, tw_1247, tw_72, tw_1248, ⟨by decide +kernel, by decide +kernel, by decide +kernel⟩⟩
abbrev rX10_balks : Room := { frames := 4, cells := 0, slots := 0, locals := 93 }
def uX10_balks : jM := (cX10_balks, 10, RX10, (some .int), rX10_balks)
def pX10_balks_124 (fu : Nat) (x1 : Int32) (x2 : Int32) (x3 : Int32) (x4 : Int32) (x5 : Int32) (x6 : Int32) (x7 : Int32) (x8 : Int32) (x9 : Int32) (s0 : Int32) (s1 : Int32) (M : Mem) (c76 : Int32 → Int32 → Int32 → Int32 → Int32 → Int32 → Int32 → Int32 → Int32 → Mem → Res) : Res :=
  bV (pX10_hour fu s1 s0 M) fun M14 =>
  c76 x1 x2 x3 x4 x5 x6 x7 x8 (x9 + (1 : Int32)) M14
set_option maxRecDepth 100000 in
theorem wX10_balks_124 {E : jE} {X : jC} (hX : jOk X uX10_balks (gM E)) (fu : Nat)  (x1 : Int32) (x2 : Int32) (x3 : Int32) (x4 : Int32) (x5 : Int32) (x6 : Int32) (x7 : Int32) (x8 : Int32) (x9 : Int32) (s0 : Int32) (s1 : Int32) (M : Mem) (c76 : Int32 → Int32 → Int32 → Int32 → Int32 → Int32 → Int32 → Int32 → Int32 → Mem → Res) (hc76 : ∀ (x1 : Int32) (x2 : Int32) (x3 : Int32) (x4 : Int32) (x5 : Int32) (x6 : Int32) (x7 : Int32) (x8 : Int32) (x9 : Int32) (M : Mem), J X uX10_balks (gM E) 76 [(0, .ref (gad (gM E) 0)), (1, .int x1), (2, .int x2), (3, .int x3), (4, .int x4), (5, .int x5), (6, .int x6), (7, .int x7), (8, .int x8), (9, .int x9)] [] M (c76 x1 x2 x3 x4 x5 x6 x7 x8 x9 M)) : J X uX10_balks (gM E) 124 [(0, .ref (gad (gM E) 0)), (1, .int x1), (2, .int x2), (3, .int x3), (4, .int x4), (5, .int x5), (6, .int x6), (7, .int x7), (8, .int x8), (9, .int x9)] [.int s0, .int s1, .ref (gad (gM E) 0)] M (pX10_balks_124 fu  x1 x2 x3 x4 x5 x6 x7 x8 x9 s0 s1 M c76) := by
  unfold pX10_balks_124
  refine j_callVv (pc := 124) hX [.int s1, .int s0] (mX10_hour _ E hX.2.2.2.2.2.2.2.2.1 fu   s1 s0 M) qX10_hour tw_1136 (jb rfl) rfl (ci := 9) (T := TX10) (N := 30) rfl (jb rfl) rfl ⟨rfl, rfl⟩ ⟨(Nat.le_of_ble_eq_true rfl), (Nat.le_of_ble_eq_true rfl)⟩ (Nat.le_of_ble_eq_true rfl) dX10_balks_124 rfl (fun M14 => ?_)
  refine j_iinc (pc := 127) (v := (x9 + (1 : Int32))) (lv' := [(9, .int (x9 + (1 : Int32))), (0, .ref (gad (gM E) 0)), (1, .int x1), (2, .int x2), (3, .int x3), (4, .int x4), (5, .int x5), (6, .int x6), (7, .int x7), (8, .int x8)]) hX 9 dX10_balks_127 rfl (by rw [ci_1]) (jb rfl) rfl ?_
  refine j_goto (pc := 130) hX 76 dX10_balks_130 (by decide) ?_
  exact j_sub [1, 2, 3, 4, 5, 6, 7, 8, 9, 0] rfl (hc76 x1 x2 x3 x4 x5 x6 x7 x8 (x9 + (1 : Int32)) M14)
def pX10_balks_102 (fu : Nat) (x1 : Int32) (x2 : Int32) (x3 : Int32) (x4 : Int32) (x5 : Int32) (x6 : Int32) (x7 : Int32) (x9 : Int32) (s0 : Int32) (s1 : Int32) (M : Mem) (c76 : Int32 → Int32 → Int32 → Int32 → Int32 → Int32 → Int32 → Int32 → Int32 → Mem → Res) : Res :=
  bI (pX10_has fu x7 x9 M) fun r13 M12 =>
  if r13 = 0 then (
    pX10_balks_124 fu  x1 x2 x3 x4 x5 x6 x7 (s1 * s0) x9 (-1 : Int32) (704 : Int32) M12 c76)
  else
  pX10_balks_124 fu  x1 x2 x3 x4 x5 x6 x7 (s1 * s0) x9 x1 (704 : Int32) M12 c76
set_option maxRecDepth 100000 in
theorem wX10_balks_102 {E : jE} {X : jC} (hX : jOk X uX10_balks (gM E)) (fu : Nat)  (x1 : Int32) (x2 : Int32) (x3 : Int32) (x4 : Int32) (x5 : Int32) (x6 : Int32) (x7 : Int32) (x9 : Int32) (s0 : Int32) (s1 : Int32) (M : Mem) (c76 : Int32 → Int32 → Int32 → Int32 → Int32 → Int32 → Int32 → Int32 → Int32 → Mem → Res) (hc76 : ∀ (x1 : Int32) (x2 : Int32) (x3 : Int32) (x4 : Int32) (x5 : Int32) (x6 : Int32) (x7 : Int32) (x8 : Int32) (x9 : Int32) (M : Mem), J X uX10_balks (gM E) 76 [(0, .ref (gad (gM E) 0)), (1, .int x1), (2, .int x2), (3, .int x3), (4, .int x4), (5, .int x5), (6, .int x6), (7, .int x7), (8, .int x8), (9, .int x9)] [] M (c76 x1 x2 x3 x4 x5 x6 x7 x8 x9 M)) : J X uX10_balks (gM E) 102 [(0, .ref (gad (gM E) 0)), (1, .int x1), (2, .int x2), (3, .int x3), (4, .int x4), (5, .int x5), (6, .int x6), (7, .int x7), (9, .int x9)] [.int s0, .int s1] M (pX10_balks_102 fu  x1 x2 x3 x4 x5 x6 x7 x9 s0 s1 M c76) := by
  unfold pX10_balks_102
  refine j_imul (pc := 102) hX dX10_balks_102 ?_
  refine j_istore (pc := 103) (lv' := [(8, .int (s1 * s0)), (0, .ref (gad (gM E) 0)), (1, .int x1), (2, .int x2), (3, .int x3), (4, .int x4), (5, .int x5), (6, .int x6), (7, .int x7), (9, .int x9)]) hX dX10_balks_103 (jb rfl) rfl ?_
  refine j_aload_n (pc := 105) hX 1 dX10_balks_105 rfl rfl ?_
  refine j_sipush (pc := 106) (v := (704 : Int32)) hX dX10_balks_106 cs_704 ?_
  refine j_iload (pc := 109) hX 8 dX10_balks_109 rfl ?_
  refine j_iload (pc := 111) hX 9 dX10_balks_111 rfl ?_
  refine j_callS (pc := 113) hX [.int x7, .int x9] (mX10_has _ E hX.2.2.2.2.2.2.2.2.1 fu   x7 x9 M) qX10_has tw_1160 rfl ⟨rfl, rfl⟩ ⟨(Nat.le_of_ble_eq_true rfl), (Nat.le_of_ble_eq_true rfl)⟩ (Nat.le_of_ble_eq_true rfl) dX10_balks_113 (fun _ => rfl) rfl (fun r13 M12 => ?_)
  refine j_if_eq (pc := 116) hX 123 dX10_balks_116 (by decide) ?_ ?_
  · refine j_iconst (pc := 123) (v := (-1 : Int32)) hX dX10_balks_123 ci_m1 ?_
    exact j_sub [1, 2, 3, 4, 5, 6, 7, 8, 0, 9] rfl (wX10_balks_124 hX fu   x1 x2 x3 x4 x5 x6 x7 (s1 * s0) x9 (-1 : Int32) (704 : Int32) M12 c76 hc76)
  · refine j_iload_n (pc := 119) hX 2 dX10_balks_119 rfl rfl ?_
    refine j_goto (pc := 120) hX 124 dX10_balks_120 (by decide) ?_
    exact j_sub [1, 2, 3, 4, 5, 6, 7, 8, 0, 9] rfl (wX10_balks_124 hX fu   x1 x2 x3 x4 x5 x6 x7 (s1 * s0) x9 x1 (704 : Int32) M12 c76 hc76)
def pX10_balks_76b (fu : Nat) (x1 : Int32) (x2 : Int32) (x3 : Int32) (x4 : Int32) (x5 : Int32) (x6 : Int32) (x7 : Int32) (x8 : Int32) (x9 : Int32) (M : Mem) (c76 : Int32 → Int32 → Int32 → Int32 → Int32 → Int32 → Int32 → Int32 → Int32 → Mem → Res) (c133 : Int32 → Int32 → Int32 → Int32 → Int32 → Int32 → Int32 → Int32 → Mem → Res) : Res :=
  if x2 ≤ x9 then (
    c133 x1 x2 x3 x4 x5 x6 x7 x8 M)
  else
  bI (pX10_has fu x7 x9 M) fun r11 M10 =>
  if r11 = 0 then (
    pX10_balks_102 fu  x1 x2 x3 x4 x5 x6 x7 x9 ((10 : Int32) - x3) x8 M10 c76)
  else
  pX10_balks_102 fu  x1 x2 x3 x4 x5 x6 x7 x9 x3 x8 M10 c76
set_option maxRecDepth 100000 in
theorem wX10_balks_76b {E : jE} {X : jC} (hX : jOk X uX10_balks (gM E)) (fu : Nat)  (x1 : Int32) (x2 : Int32) (x3 : Int32) (x4 : Int32) (x5 : Int32) (x6 : Int32) (x7 : Int32) (x8 : Int32) (x9 : Int32) (M : Mem) (c76 : Int32 → Int32 → Int32 → Int32 → Int32 → Int32 → Int32 → Int32 → Int32 → Mem → Res) (c133 : Int32 → Int32 → Int32 → Int32 → Int32 → Int32 → Int32 → Int32 → Mem → Res) (hc76 : ∀ (x1 : Int32) (x2 : Int32) (x3 : Int32) (x4 : Int32) (x5 : Int32) (x6 : Int32) (x7 : Int32) (x8 : Int32) (x9 : Int32) (M : Mem), J X uX10_balks (gM E) 76 [(0, .ref (gad (gM E) 0)), (1, .int x1), (2, .int x2), (3, .int x3), (4, .int x4), (5, .int x5), (6, .int x6), (7, .int x7), (8, .int x8), (9, .int x9)] [] M (c76 x1 x2 x3 x4 x5 x6 x7 x8 x9 M)) (hc133 : ∀ (x1 : Int32) (x2 : Int32) (x3 : Int32) (x4 : Int32) (x5 : Int32) (x6 : Int32) (x7 : Int32) (x8 : Int32) (M : Mem), J X uX10_balks (gM E) 133 [(0, .ref (gad (gM E) 0)), (1, .int x1), (2, .int x2), (3, .int x3), (4, .int x4), (5, .int x5), (6, .int x6), (7, .int x7), (8, .int x8)] [] M (c133 x1 x2 x3 x4 x5 x6 x7 x8 M)) : J X uX10_balks (gM E) 76 [(0, .ref (gad (gM E) 0)), (1, .int x1), (2, .int x2), (3, .int x3), (4, .int x4), (5, .int x5), (6, .int x6), (7, .int x7), (8, .int x8), (9, .int x9)] [] M (pX10_balks_76b fu  x1 x2 x3 x4 x5 x6 x7 x8 x9 M c76 c133) := by
  unfold pX10_balks_76b
  refine j_iload (pc := 76) hX 9 dX10_balks_76 rfl ?_
  refine j_iload_n (pc := 78) hX 2 dX10_balks_78 rfl rfl ?_
  refine j_icmp_ge (pc := 79) hX 133 dX10_balks_79 (by decide) ?_ ?_
  · exact j_sub [0, 1, 2, 3, 4, 5, 6, 7, 8] rfl (hc133 x1 x2 x3 x4 x5 x6 x7 x8 M)
  · refine j_iload (pc := 82) hX 8 dX10_balks_82 rfl ?_
    refine j_iload (pc := 84) hX 7 dX10_balks_84 rfl ?_
    refine j_iload (pc := 86) hX 9 dX10_balks_86 rfl ?_
    refine j_callS (pc := 88) hX [.int x7, .int x9] (mX10_has _ E hX.2.2.2.2.2.2.2.2.1 fu   x7 x9 M) qX10_has tw_1160 rfl ⟨rfl, rfl⟩ ⟨(Nat.le_of_ble_eq_true rfl), (Nat.le_of_ble_eq_true rfl)⟩ (Nat.le_of_ble_eq_true rfl) dX10_balks_88 (fun _ => rfl) rfl (fun r11 M10 => ?_)
    refine j_if_eq (pc := 91) hX 98 dX10_balks_91 (by decide) ?_ ?_
    · refine j_bipush (pc := 98) (v := (10 : Int32)) hX dX10_balks_98 cb_10 ?_
      refine j_iload_n (pc := 100) hX 3 dX10_balks_100 rfl rfl ?_
      refine j_isub (pc := 101) hX dX10_balks_101 ?_
      exact j_sub [0, 1, 2, 3, 4, 5, 6, 7, 9] rfl (wX10_balks_102 hX fu   x1 x2 x3 x4 x5 x6 x7 x9 ((10 : Int32) - x3) x8 M10 c76 hc76)
    · refine j_iload_n (pc := 94) hX 3 dX10_balks_94 rfl rfl ?_
      refine j_goto (pc := 95) hX 102 dX10_balks_95 (by decide) ?_
      exact j_sub [0, 1, 2, 3, 4, 5, 6, 7, 9] rfl (wX10_balks_102 hX fu   x1 x2 x3 x4 x5 x6 x7 x9 x3 x8 M10 c76 hc76)
def pX10_balks_76 (fu : Nat) (c133 : Int32 → Int32 → Int32 → Int32 → Int32 → Int32 → Int32 → Int32 → Mem → Res) : Nat → Int32 → Int32 → Int32 → Int32 → Int32 → Int32 → Int32 → Int32 → Int32 → Mem → Res
  | 0, _, _, _, _, _, _, _, _, _, _ => none
  | n + 1, x1, x2, x3, x4, x5, x6, x7, x8, x9, M => pX10_balks_76b fu  x1 x2 x3 x4 x5 x6 x7 x8 x9 M (pX10_balks_76 fu  c133 n) c133
theorem wX10_balks_76 {E : jE} {X : jC} (hX : jOk X uX10_balks (gM E)) (fu : Nat)  (c133 : Int32 → Int32 → Int32 → Int32 → Int32 → Int32 → Int32 → Int32 → Mem → Res) (hc133 : ∀ (x1 : Int32) (x2 : Int32) (x3 : Int32) (x4 : Int32) (x5 : Int32) (x6 : Int32) (x7 : Int32) (x8 : Int32) (M : Mem), J X uX10_balks (gM E) 133 [(0, .ref (gad (gM E) 0)), (1, .int x1), (2, .int x2), (3, .int x3), (4, .int x4), (5, .int x5), (6, .int x6), (7, .int x7), (8, .int x8)] [] M (c133 x1 x2 x3 x4 x5 x6 x7 x8 M)) : ∀ (n : Nat) (x1 : Int32) (x2 : Int32) (x3 : Int32) (x4 : Int32) (x5 : Int32) (x6 : Int32) (x7 : Int32) (x8 : Int32) (x9 : Int32) (M : Mem), J X uX10_balks (gM E) 76 [(0, .ref (gad (gM E) 0)), (1, .int x1), (2, .int x2), (3, .int x3), (4, .int x4), (5, .int x5), (6, .int x6), (7, .int x7), (8, .int x8), (9, .int x9)] [] M (pX10_balks_76 fu  c133 n x1 x2 x3 x4 x5 x6 x7 x8 x9 M) := by
  intro n
  induction n with
  | zero => intro x1 x2 x3 x4 x5 x6 x7 x8 x9 M; exact j_none
  | succ n ih => intro x1 x2 x3 x4 x5 x6 x7 x8 x9 M; exact wX10_balks_76b hX fu   x1 x2 x3 x4 x5 x6 x7 x8 x9 M (pX10_balks_76 fu  c133 n) c133 ih hc133
def pX10_balks_162 (fu : Nat) (x1 : Int32) (x2 : Int32) (x3 : Int32) (x4 : Int32) (x6 : Int32) (x7 : Int32) (s0 : Int32) (s1 : Int32) (M : Mem) (c54 : Int32 → Int32 → Int32 → Int32 → Int32 → Int32 → Int32 → Mem → Res) : Res :=
  c54 x1 x2 x3 x4 (s1 + s0) x6 (x7 + (1 : Int32)) M
set_option maxRecDepth 100000 in
theorem wX10_balks_162 {E : jE} {X : jC} (hX : jOk X uX10_balks (gM E)) (fu : Nat)  (x1 : Int32) (x2 : Int32) (x3 : Int32) (x4 : Int32) (x6 : Int32) (x7 : Int32) (s0 : Int32) (s1 : Int32) (M : Mem) (c54 : Int32 → Int32 → Int32 → Int32 → Int32 → Int32 → Int32 → Mem → Res) (hc54 : ∀ (x1 : Int32) (x2 : Int32) (x3 : Int32) (x4 : Int32) (x5 : Int32) (x6 : Int32) (x7 : Int32) (M : Mem), J X uX10_balks (gM E) 54 [(0, .ref (gad (gM E) 0)), (1, .int x1), (2, .int x2), (3, .int x3), (4, .int x4), (5, .int x5), (6, .int x6), (7, .int x7)] [] M (c54 x1 x2 x3 x4 x5 x6 x7 M)) : J X uX10_balks (gM E) 162 [(0, .ref (gad (gM E) 0)), (1, .int x1), (2, .int x2), (3, .int x3), (4, .int x4), (6, .int x6), (7, .int x7)] [.int s0, .int s1] M (pX10_balks_162 fu  x1 x2 x3 x4 x6 x7 s0 s1 M c54) := by
  unfold pX10_balks_162
  refine j_iadd (pc := 162) hX dX10_balks_162 ?_
  refine j_istore (pc := 163) (lv' := [(5, .int (s1 + s0)), (0, .ref (gad (gM E) 0)), (1, .int x1), (2, .int x2), (3, .int x3), (4, .int x4), (6, .int x6), (7, .int x7)]) hX dX10_balks_163 (jb rfl) rfl ?_
  refine j_iinc (pc := 165) (v := (x7 + (1 : Int32))) (lv' := [(7, .int (x7 + (1 : Int32))), (5, .int (s1 + s0)), (0, .ref (gad (gM E) 0)), (1, .int x1), (2, .int x2), (3, .int x3), (4, .int x4), (6, .int x6)]) hX 7 dX10_balks_165 rfl (by rw [ci_1]) (jb rfl) rfl ?_
  refine j_goto (pc := 168) hX 54 dX10_balks_168 (by decide) ?_
  exact j_sub [2, 3, 4, 5, 6, 1, 7, 0] rfl (hc54 x1 x2 x3 x4 (s1 + s0) x6 (x7 + (1 : Int32)) M)
def pX10_balks_54b (fu : Nat) (x1 : Int32) (x2 : Int32) (x3 : Int32) (x4 : Int32) (x5 : Int32) (x6 : Int32) (x7 : Int32) (M : Mem) (c54 : Int32 → Int32 → Int32 → Int32 → Int32 → Int32 → Int32 → Mem → Res) (c171 : Int32 → Int32 → Int32 → Mem → Res) : Res :=
  if ((1 : Int32) <<< (x2 &&& 31)) ≤ x7 then (
    c171 x4 x5 x6 M)
  else
  bV (pX10_copies fu (0 : Int32) (704 : Int32) M) fun M9 =>
  pX10_balks_76 fu
    (fun y15 y16 y17 y18 y19 y20 y21 y22 M23 =>
      ld M23 12 768 ((704 : Int32) + y15) fun v24 =>
      if v24 = (2 : Int32) then (
        pX10_balks_162 fu  y15 y16 y17 y18 (y20 + y22) y21 y22 y19 M23 c54)
      else
      pX10_balks_162 fu  y15 y16 y17 y18 (y20 + y22) y21 (0 : Int32) y19 M23 c54)
    fu x1 x2 x3 x4 x5 x6 x7 (1 : Int32) (0 : Int32) M9
set_option maxRecDepth 100000 in
theorem wX10_balks_54b {E : jE} {X : jC} (hX : jOk X uX10_balks (gM E)) (fu : Nat)  (x1 : Int32) (x2 : Int32) (x3 : Int32) (x4 : Int32) (x5 : Int32) (x6 : Int32) (x7 : Int32) (M : Mem) (c54 : Int32 → Int32 → Int32 → Int32 → Int32 → Int32 → Int32 → Mem → Res) (c171 : Int32 → Int32 → Int32 → Mem → Res) (hc54 : ∀ (x1 : Int32) (x2 : Int32) (x3 : Int32) (x4 : Int32) (x5 : Int32) (x6 : Int32) (x7 : Int32) (M : Mem), J X uX10_balks (gM E) 54 [(0, .ref (gad (gM E) 0)), (1, .int x1), (2, .int x2), (3, .int x3), (4, .int x4), (5, .int x5), (6, .int x6), (7, .int x7)] [] M (c54 x1 x2 x3 x4 x5 x6 x7 M)) (hc171 : ∀ (x4 : Int32) (x5 : Int32) (x6 : Int32) (M : Mem), J X uX10_balks (gM E) 171 [(4, .int x4), (5, .int x5), (6, .int x6)] [] M (c171 x4 x5 x6 M)) : J X uX10_balks (gM E) 54 [(0, .ref (gad (gM E) 0)), (1, .int x1), (2, .int x2), (3, .int x3), (4, .int x4), (5, .int x5), (6, .int x6), (7, .int x7)] [] M (pX10_balks_54b fu  x1 x2 x3 x4 x5 x6 x7 M c54 c171) := by
  unfold pX10_balks_54b
  refine j_iload (pc := 54) hX 7 dX10_balks_54 rfl ?_
  refine j_iconst (pc := 56) (v := (1 : Int32)) hX dX10_balks_56 ci_1 ?_
  refine j_iload_n (pc := 57) hX 2 dX10_balks_57 rfl rfl ?_
  refine j_ishl (pc := 58) hX dX10_balks_58 ?_
  refine j_icmp_ge (pc := 59) hX 171 dX10_balks_59 (by decide) ?_ ?_
  · exact j_sub [4, 5, 6] rfl (hc171 x4 x5 x6 M)
  · refine j_aload_n (pc := 62) hX 0 dX10_balks_62 rfl rfl ?_
    refine j_iconst (pc := 63) (v := (0 : Int32)) hX dX10_balks_63 ci_0 ?_
    refine j_sipush (pc := 64) (v := (704 : Int32)) hX dX10_balks_64 cs_704 ?_
    refine j_callVv (pc := 67) hX [.int (0 : Int32), .int (704 : Int32)] (mX10_copies _ E hX.2.2.2.2.2.2.2.2.1 fu   (0 : Int32) (704 : Int32) M) qX10_copies tw_916 (jb rfl) rfl (ci := 9) (T := TX10) (N := 30) rfl (jb rfl) rfl ⟨rfl, rfl⟩ ⟨(Nat.le_of_ble_eq_true rfl), (Nat.le_of_ble_eq_true rfl)⟩ (Nat.le_of_ble_eq_true rfl) dX10_balks_67 rfl (fun M9 => ?_)
    refine j_iconst (pc := 70) (v := (1 : Int32)) hX dX10_balks_70 ci_1 ?_
    refine j_istore (pc := 71) (lv' := [(8, .int (1 : Int32)), (0, .ref (gad (gM E) 0)), (1, .int x1), (2, .int x2), (3, .int x3), (4, .int x4), (5, .int x5), (6, .int x6), (7, .int x7)]) hX dX10_balks_71 (jb rfl) rfl ?_
    refine j_iconst (pc := 73) (v := (0 : Int32)) hX dX10_balks_73 ci_0 ?_
    refine j_istore (pc := 74) (lv' := [(9, .int (0 : Int32)), (8, .int (1 : Int32)), (0, .ref (gad (gM E) 0)), (1, .int x1), (2, .int x2), (3, .int x3), (4, .int x4), (5, .int x5), (6, .int x6), (7, .int x7)]) hX dX10_balks_74 (jb rfl) rfl ?_
    refine j_sub [2, 3, 4, 5, 6, 7, 8, 9, 1, 0] rfl (wX10_balks_76 hX fu   _ ?_ fu x1 x2 x3 x4 x5 x6 x7 (1 : Int32) (0 : Int32) M9)
    · intro y15 y16 y17 y18 y19 y20 y21 y22 M23
      refine j_iload (pc := 133) hX 6 dX10_balks_133 rfl ?_
      refine j_iload (pc := 135) hX 8 dX10_balks_135 rfl ?_
      refine j_iadd (pc := 137) hX dX10_balks_137 ?_
      refine j_istore (pc := 138) (lv' := [(6, .int (y20 + y22)), (0, .ref (gad (gM E) 0)), (1, .int y15), (2, .int y16), (3, .int y17), (4, .int y18), (5, .int y19), (7, .int y21), (8, .int y22)]) hX dX10_balks_138 (jb rfl) rfl ?_
      refine j_iload (pc := 140) hX 6 dX10_balks_140 rfl ?_
      refine j_aload_n (pc := 142) hX 1 dX10_balks_142 rfl rfl ?_
      refine j_getR (pc := 143) (t := 12) hX (jb rfl) rfl (ci := 9) (C := RX10) (T := TX10) (N := 30) rfl (jb rfl) inX10 (j := 19) (jb rfl) rfl tw_939 dX10_balks_143 ?_
      refine j_sipush (pc := 146) (v := (704 : Int32)) hX dX10_balks_146 cs_704 ?_
      refine j_iload_n (pc := 149) hX 2 dX10_balks_149 rfl rfl ?_
      refine j_iadd (pc := 150) hX dX10_balks_150 ?_
      refine j_iald (pc := 151) hX (jb rfl) rfl rfl dX10_balks_151 (fun v24 => ?_)
      refine j_iconst (pc := 152) (v := (2 : Int32)) hX dX10_balks_152 ci_2 ?_
      refine j_icmp_ne (pc := 153) hX 161 dX10_balks_153 (by decide) ?_ ?_
      · refine j_iconst (pc := 161) (v := (0 : Int32)) hX dX10_balks_161 ci_0 ?_
        exact j_sub [1, 2, 3, 4, 5, 0, 7] rfl (wX10_balks_162 hX fu   y15 y16 y17 y18 (y20 + y22) y21 (0 : Int32) y19 M23 c54 hc54)
      · refine j_iload (pc := 156) hX 8 dX10_balks_156 rfl ?_
        refine j_goto (pc := 158) hX 162 dX10_balks_158 (by decide) ?_
        exact j_sub [1, 2, 3, 4, 5, 0, 7] rfl (wX10_balks_162 hX fu   y15 y16 y17 y18 (y20 + y22) y21 y22 y19 M23 c54 hc54)
def pX10_balks_54 (fu : Nat) (c171 : Int32 → Int32 → Int32 → Mem → Res) : Nat → Int32 → Int32 → Int32 → Int32 → Int32 → Int32 → Int32 → Mem → Res
  | 0, _, _, _, _, _, _, _, _ => none
  | n + 1, x1, x2, x3, x4, x5, x6, x7, M => pX10_balks_54b fu  x1 x2 x3 x4 x5 x6 x7 M (pX10_balks_54 fu  c171 n) c171
theorem wX10_balks_54 {E : jE} {X : jC} (hX : jOk X uX10_balks (gM E)) (fu : Nat)  (c171 : Int32 → Int32 → Int32 → Mem → Res) (hc171 : ∀ (x4 : Int32) (x5 : Int32) (x6 : Int32) (M : Mem), J X uX10_balks (gM E) 171 [(4, .int x4), (5, .int x5), (6, .int x6)] [] M (c171 x4 x5 x6 M)) : ∀ (n : Nat) (x1 : Int32) (x2 : Int32) (x3 : Int32) (x4 : Int32) (x5 : Int32) (x6 : Int32) (x7 : Int32) (M : Mem), J X uX10_balks (gM E) 54 [(0, .ref (gad (gM E) 0)), (1, .int x1), (2, .int x2), (3, .int x3), (4, .int x4), (5, .int x5), (6, .int x6), (7, .int x7)] [] M (pX10_balks_54 fu  c171 n x1 x2 x3 x4 x5 x6 x7 M) := by
  intro n
  induction n with
  | zero => intro x1 x2 x3 x4 x5 x6 x7 M; exact j_none
  | succ n ih => intro x1 x2 x3 x4 x5 x6 x7 M; exact wX10_balks_54b hX fu   x1 x2 x3 x4 x5 x6 x7 M (pX10_balks_54 fu  c171 n) c171 ih hc171
def pX10_balks_179b (fu : Nat) (x4 : Int32) (x5 : Int32) (x6 : Int32) (x7 : Int32) (x8 : Int32) (M : Mem) (c179 : Int32 → Int32 → Int32 → Int32 → Int32 → Mem → Res) (c202 : Int32 → Int32 → Int32 → Int32 → Mem → Res) : Res :=
  if x8 = 0 then (
    c202 x4 x5 x6 x7 M)
  else
  if x8 = 0 then none else
  c179 x4 x5 x6 x8 (irm x7 x8) M
set_option maxRecDepth 100000 in
theorem wX10_balks_179b {E : jE} {X : jC} (hX : jOk X uX10_balks (gM E)) (fu : Nat)  (x4 : Int32) (x5 : Int32) (x6 : Int32) (x7 : Int32) (x8 : Int32) (M : Mem) (c179 : Int32 → Int32 → Int32 → Int32 → Int32 → Mem → Res) (c202 : Int32 → Int32 → Int32 → Int32 → Mem → Res) (hc179 : ∀ (x4 : Int32) (x5 : Int32) (x6 : Int32) (x7 : Int32) (x8 : Int32) (M : Mem), J X uX10_balks (gM E) 179 [(4, .int x4), (5, .int x5), (6, .int x6), (7, .int x7), (8, .int x8)] [] M (c179 x4 x5 x6 x7 x8 M)) (hc202 : ∀ (x4 : Int32) (x5 : Int32) (x6 : Int32) (x7 : Int32) (M : Mem), J X uX10_balks (gM E) 202 [(4, .int x4), (5, .int x5), (6, .int x6), (7, .int x7)] [] M (c202 x4 x5 x6 x7 M)) : J X uX10_balks (gM E) 179 [(4, .int x4), (5, .int x5), (6, .int x6), (7, .int x7), (8, .int x8)] [] M (pX10_balks_179b fu  x4 x5 x6 x7 x8 M c179 c202) := by
  unfold pX10_balks_179b
  refine j_iload (pc := 179) hX 4 dX10_balks_179 rfl ?_
  refine j_if_eq (pc := 181) hX 202 dX10_balks_181 (by decide) ?_ ?_
  · exact j_sub [0, 1, 2, 3] rfl (hc202 x4 x5 x6 x7 M)
  · refine j_iload (pc := 184) hX 3 dX10_balks_184 rfl ?_
    refine j_iload (pc := 186) hX 4 dX10_balks_186 rfl ?_
    refine j_irem (pc := 188) hX dX10_balks_188 ?_
    refine j_istore (pc := 189) (lv' := [(9, .int (irm x7 x8)), (4, .int x4), (5, .int x5), (6, .int x6), (7, .int x7), (8, .int x8)]) hX dX10_balks_189 (jb rfl) rfl ?_
    refine j_iload (pc := 191) hX 5 dX10_balks_191 rfl ?_
    refine j_istore (pc := 193) (lv' := [(7, .int x8), (9, .int (irm x7 x8)), (4, .int x4), (5, .int x5), (6, .int x6), (8, .int x8)]) hX dX10_balks_193 (jb rfl) rfl ?_
    refine j_iload (pc := 195) hX 1 dX10_balks_195 rfl ?_
    refine j_istore (pc := 197) (lv' := [(8, .int (irm x7 x8)), (7, .int x8), (9, .int (irm x7 x8)), (4, .int x4), (5, .int x5), (6, .int x6)]) hX dX10_balks_197 (jb rfl) rfl ?_
    refine j_goto (pc := 199) hX 179 dX10_balks_199 (by decide) ?_
    exact j_sub [3, 4, 5, 1, 0] rfl (hc179 x4 x5 x6 x8 (irm x7 x8) M)
def pX10_balks_179 (fu : Nat) (c202 : Int32 → Int32 → Int32 → Int32 → Mem → Res) : Nat → Int32 → Int32 → Int32 → Int32 → Int32 → Mem → Res
  | 0, _, _, _, _, _, _ => none
  | n + 1, x4, x5, x6, x7, x8, M => pX10_balks_179b fu  x4 x5 x6 x7 x8 M (pX10_balks_179 fu  c202 n) c202
theorem wX10_balks_179 {E : jE} {X : jC} (hX : jOk X uX10_balks (gM E)) (fu : Nat)  (c202 : Int32 → Int32 → Int32 → Int32 → Mem → Res) (hc202 : ∀ (x4 : Int32) (x5 : Int32) (x6 : Int32) (x7 : Int32) (M : Mem), J X uX10_balks (gM E) 202 [(4, .int x4), (5, .int x5), (6, .int x6), (7, .int x7)] [] M (c202 x4 x5 x6 x7 M)) : ∀ (n : Nat) (x4 : Int32) (x5 : Int32) (x6 : Int32) (x7 : Int32) (x8 : Int32) (M : Mem), J X uX10_balks (gM E) 179 [(4, .int x4), (5, .int x5), (6, .int x6), (7, .int x7), (8, .int x8)] [] M (pX10_balks_179 fu  c202 n x4 x5 x6 x7 x8 M) := by
  intro n
  induction n with
  | zero => intro x4 x5 x6 x7 x8 M; exact j_none
  | succ n ih => intro x4 x5 x6 x7 x8 M; exact wX10_balks_179b hX fu   x4 x5 x6 x7 x8 M (pX10_balks_179 fu  c202 n) c202 ih hc202
def pX10_balks (fu : Nat) (x1 : Int32) (x2 : Int32) (x3 : Int32) (x4 : Int32) (M : Mem) : Res :=
  bI (pX10_isBeast fu x1 M) fun r2 M1 =>
  if r2 = 0 then (
    some ((-1 : Int32), M1))
  else
  bI (pX10_in fu (x2).toInt64 (0 : Int64) (8 : Int64) M1) fun r4 M3 =>
  if r4 = 0 then (
    some ((-1 : Int32), M3))
  else
  bI (pX10_in fu (x3).toInt64 (0 : Int64) (10 : Int64) M3) fun r6 M5 =>
  if r6 = 0 then (
    some ((-1 : Int32), M5))
  else
  bI (pX10_in fu (x4).toInt64 (0 : Int64) (1 : Int64) M5) fun r8 M7 =>
  if r8 = 0 then (
    some ((-1 : Int32), M7))
  else
  pX10_balks_54 fu
    (fun y25 y26 y27 M28 =>
      pX10_balks_179 fu
        (fun y29 y30 y31 y32 M33 =>
          if y29 = 0 then (
            if y32 = 0 then none else
            some ((y30 / y32), M33))
          else
          if y32 = 0 then none else
          some ((y31 / y32), M33))
        fu y25 y26 y27 y26 y27 M28)
    fu x1 x2 x3 x4 (0 : Int32) (0 : Int32) (0 : Int32) M7
set_option maxRecDepth 100000 in
theorem wX10_balks {E : jE} {X : jC} (hX : jOk X uX10_balks (gM E)) (fu : Nat)  (x1 : Int32) (x2 : Int32) (x3 : Int32) (x4 : Int32) (M : Mem) : J X uX10_balks (gM E) 0 [(0, .ref (gad (gM E) 0)), (1, .int x1), (2, .int x2), (3, .int x3), (4, .int x4)] [] M (pX10_balks fu  x1 x2 x3 x4 M) := by
  unfold pX10_balks
  refine j_aload_n (pc := 0) hX 0 dX10_balks_0 rfl rfl ?_
  refine j_iload_n (pc := 1) hX 1 dX10_balks_1 rfl rfl ?_
  refine j_callV (pc := 2) hX [.int x1] (mX10_isBeast _ E hX.2.2.2.2.2.2.2.2.1 fu   x1 M) qX10_isBeast tw_1095 (jb rfl) rfl (ci := 9) (T := TX10) (N := 30) rfl (jb rfl) rfl ⟨rfl, rfl⟩ ⟨(Nat.le_of_ble_eq_true rfl), (Nat.le_of_ble_eq_true rfl)⟩ (Nat.le_of_ble_eq_true rfl) dX10_balks_2 (fun _ => rfl) rfl (fun r2 M1 => ?_)
  refine j_if_eq (pc := 5) hX 43 dX10_balks_5 (by decide) ?_ ?_
  · refine j_iconst (pc := 43) (v := (-1 : Int32)) hX dX10_balks_43 ci_m1 ?_
    exact j_iret (pc := 44) hX rfl dX10_balks_44
  · refine j_iload_n (pc := 8) hX 2 dX10_balks_8 rfl rfl ?_
    refine j_i2l (pc := 9) hX dX10_balks_9 ?_
    refine j_lconst (pc := 10) (v := (0 : Int64)) hX dX10_balks_10 rfl ?_
    refine j_ldc2 (pc := 11) (v := (8 : Int64)) hX tw_1249 dX10_balks_11 ?_
    refine j_callS (pc := 14) hX [.long (x2).toInt64, .long (0 : Int64), .long (8 : Int64)] (mX10_in _ E hX.2.2.2.2.2.2.2.2.1 fu   (x2).toInt64 (0 : Int64) (8 : Int64) M1) qX10_in tw_1017 rfl ⟨rfl, rfl⟩ ⟨(Nat.le_of_ble_eq_true rfl), (Nat.le_of_ble_eq_true rfl)⟩ (Nat.le_of_ble_eq_true rfl) dX10_balks_14 (fun _ => rfl) rfl (fun r4 M3 => ?_)
    refine j_if_eq (pc := 17) hX 43 dX10_balks_17 (by decide) ?_ ?_
    · refine j_iconst (pc := 43) (v := (-1 : Int32)) hX dX10_balks_43 ci_m1 ?_
      exact j_iret (pc := 44) hX rfl dX10_balks_44
    · refine j_iload_n (pc := 20) hX 3 dX10_balks_20 rfl rfl ?_
      refine j_i2l (pc := 21) hX dX10_balks_21 ?_
      refine j_lconst (pc := 22) (v := (0 : Int64)) hX dX10_balks_22 rfl ?_
      refine j_ldc2 (pc := 23) (v := (10 : Int64)) hX tw_1250 dX10_balks_23 ?_
      refine j_callS (pc := 26) hX [.long (x3).toInt64, .long (0 : Int64), .long (10 : Int64)] (mX10_in _ E hX.2.2.2.2.2.2.2.2.1 fu   (x3).toInt64 (0 : Int64) (10 : Int64) M3) qX10_in tw_1017 rfl ⟨rfl, rfl⟩ ⟨(Nat.le_of_ble_eq_true rfl), (Nat.le_of_ble_eq_true rfl)⟩ (Nat.le_of_ble_eq_true rfl) dX10_balks_26 (fun _ => rfl) rfl (fun r6 M5 => ?_)
      refine j_if_eq (pc := 29) hX 43 dX10_balks_29 (by decide) ?_ ?_
      · refine j_iconst (pc := 43) (v := (-1 : Int32)) hX dX10_balks_43 ci_m1 ?_
        exact j_iret (pc := 44) hX rfl dX10_balks_44
      · refine j_iload (pc := 32) hX 4 dX10_balks_32 rfl ?_
        refine j_i2l (pc := 34) hX dX10_balks_34 ?_
        refine j_lconst (pc := 35) (v := (0 : Int64)) hX dX10_balks_35 rfl ?_
        refine j_lconst (pc := 36) (v := (1 : Int64)) hX dX10_balks_36 rfl ?_
        refine j_callS (pc := 37) hX [.long (x4).toInt64, .long (0 : Int64), .long (1 : Int64)] (mX10_in _ E hX.2.2.2.2.2.2.2.2.1 fu   (x4).toInt64 (0 : Int64) (1 : Int64) M5) qX10_in tw_1017 rfl ⟨rfl, rfl⟩ ⟨(Nat.le_of_ble_eq_true rfl), (Nat.le_of_ble_eq_true rfl)⟩ (Nat.le_of_ble_eq_true rfl) dX10_balks_37 (fun _ => rfl) rfl (fun r8 M7 => ?_)
        refine j_if_ne (pc := 40) hX 45 dX10_balks_40 (by decide) ?_ ?_
        · refine j_iconst (pc := 45) (v := (0 : Int32)) hX dX10_balks_45 ci_0 ?_
          refine j_istore (pc := 46) (lv' := [(5, .int (0 : Int32)), (0, .ref (gad (gM E) 0)), (1, .int x1), (2, .int x2), (3, .int x3), (4, .int x4)]) hX dX10_balks_46 (jb rfl) rfl ?_
          refine j_iconst (pc := 48) (v := (0 : Int32)) hX dX10_balks_48 ci_0 ?_
          refine j_istore (pc := 49) (lv' := [(6, .int (0 : Int32)), (5, .int (0 : Int32)), (0, .ref (gad (gM E) 0)), (1, .int x1), (2, .int x2), (3, .int x3), (4, .int x4)]) hX dX10_balks_49 (jb rfl) rfl ?_
          refine j_iconst (pc := 51) (v := (0 : Int32)) hX dX10_balks_51 ci_0 ?_
          refine j_istore (pc := 52) (lv' := [(7, .int (0 : Int32)), (6, .int (0 : Int32)), (5, .int (0 : Int32)), (0, .ref (gad (gM E) 0)), (1, .int x1), (2, .int x2), (3, .int x3), (4, .int x4)]) hX dX10_balks_52 (jb rfl) rfl ?_
          refine j_sub [3, 4, 5, 6, 7, 2, 1, 0] rfl (wX10_balks_54 hX fu   _ ?_ fu x1 x2 x3 x4 (0 : Int32) (0 : Int32) (0 : Int32) M7)
          · intro y25 y26 y27 M28
            refine j_iload (pc := 171) hX 1 dX10_balks_171 rfl ?_
            refine j_istore (pc := 173) (lv' := [(7, .int y26), (4, .int y25), (5, .int y26), (6, .int y27)]) hX dX10_balks_173 (jb rfl) rfl ?_
            refine j_iload (pc := 175) hX 3 dX10_balks_175 rfl ?_
            refine j_istore (pc := 177) (lv' := [(8, .int y27), (7, .int y26), (4, .int y25), (5, .int y26), (6, .int y27)]) hX dX10_balks_177 (jb rfl) rfl ?_
            refine j_sub [2, 3, 4, 1, 0] rfl (wX10_balks_179 hX fu   _ ?_ fu y25 y26 y27 y26 y27 M28)
            · intro y29 y30 y31 y32 M33
              refine j_iload (pc := 202) hX 0 dX10_balks_202 rfl ?_
              refine j_if_ne (pc := 204) hX 215 dX10_balks_204 (by decide) ?_ ?_
              · refine j_iload (pc := 215) hX 2 dX10_balks_215 rfl ?_
                refine j_iload (pc := 217) hX 3 dX10_balks_217 rfl ?_
                refine j_idiv (pc := 219) hX dX10_balks_219 ?_
                exact j_iret (pc := 220) hX rfl dX10_balks_220
              · refine j_iload (pc := 207) hX 1 dX10_balks_207 rfl ?_
                refine j_iload (pc := 209) hX 3 dX10_balks_209 rfl ?_
                refine j_idiv (pc := 211) hX dX10_balks_211 ?_
                refine j_goto (pc := 212) hX 220 dX10_balks_212 (by decide) ?_
                exact j_iret (pc := 220) hX rfl dX10_balks_220
        · refine j_iconst (pc := 43) (v := (-1 : Int32)) hX dX10_balks_43 ci_m1 ?_
          exact j_iret (pc := 44) hX rfl dX10_balks_44
theorem mX10_balks (l : Launch) (E : jE) (hI : jInj (gM E)) (fu : Nat)  (x1 : Int32) (x2 : Int32) (x3 : Int32) (x4 : Int32) (M : Mem) : jMet l (gM E) yX10_balks cX10_balks 10 (some .int) rX10_balks [.ref (gad (gM E) 0), .int x1, .int x2, .int x3, .int x4] M (pX10_balks fu  x1 x2 x3 x4 M) :=
  j_entry hI (by decide +kernel) (Nat.le_of_ble_eq_true rfl) rfl (fun X _ hX => wX10_balks hX fu   x1 x2 x3 x4 M)
theorem qX10_does : jYv yX10_does cX10_does 6 none 2 := ⟨tw_1262, tw_52, tw_72, tw_1263, ⟨by decide +kernel, by decide +kernel, by decide +kernel⟩⟩
abbrev rX10_does : Room := { frames := 1, cells := 0, slots := 0, locals := 24 }
def uX10_does : jM := (cX10_does, 6, RX10, none, rX10_does)
def pX10_does_90 (fu : Nat) (x1 : Int32) (x2 : Int32) (x4 : Int32) (M : Mem)  : Res :=
  if x4 = (4 : Int32) then (
    if (M 0 0) = 0 then none else
    sto M 12 768 ((x1 + (55 : Int32)) + (irm (x2 / (8 : Int32)) (M 0 0))) (irm (x2 / (64 : Int32)) (10 : Int32)) fun M1 =>
    some (0, M1))
  else
  some (0, M)
set_option maxRecDepth 100000 in
theorem wX10_does_90 {E : jE} {X : jC} (hX : jOk X uX10_does (gM E)) (fu : Nat)  (x1 : Int32) (x2 : Int32) (x4 : Int32) (M : Mem)   : J X uX10_does (gM E) 90 [(0, .ref (gad (gM E) 0)), (1, .int x1), (2, .int x2), (4, .int x4)] [] M (pX10_does_90 fu  x1 x2 x4 M ) := by
  unfold pX10_does_90
  refine j_iload (pc := 90) hX 3 dX10_does_90 rfl ?_
  refine j_iconst (pc := 92) (v := (4 : Int32)) hX dX10_does_92 ci_4 ?_
  refine j_icmp_ne (pc := 93) hX 122 dX10_does_93 (by decide) ?_ ?_
  · exact j_vret (pc := 122) hX rfl dX10_does_122
  · refine j_aload_n (pc := 96) hX 0 dX10_does_96 rfl rfl ?_
    refine j_getR (pc := 97) (t := 12) hX (jb rfl) rfl (ci := 9) (C := RX10) (T := TX10) (N := 30) rfl (jb rfl) inX10 (j := 19) (jb rfl) rfl tw_939 dX10_does_97 ?_
    refine j_iload_n (pc := 100) hX 1 dX10_does_100 rfl rfl ?_
    refine j_bipush (pc := 101) (v := (55 : Int32)) hX dX10_does_101 cb_55 ?_
    refine j_iadd (pc := 103) hX dX10_does_103 ?_
    refine j_iload_n (pc := 104) hX 2 dX10_does_104 rfl rfl ?_
    refine j_bipush (pc := 105) (v := (8 : Int32)) hX dX10_does_105 cb_8 ?_
    refine j_idivC (pc := 107) hX dX10_does_107 (by decide) ?_
    refine j_aload_n (pc := 108) hX 0 dX10_does_108 rfl rfl ?_
    refine j_getI (pc := 109) hX (jb rfl) rfl (ci := 9) (C := RX10) (T := TX10) (N := 30) rfl (jb rfl) inX10 (j := 0) (jb rfl) rfl tw_920 dX10_does_109 ?_
    refine j_irem (pc := 112) hX dX10_does_112 ?_
    refine j_iadd (pc := 113) hX dX10_does_113 ?_
    refine j_iload_n (pc := 114) hX 2 dX10_does_114 rfl rfl ?_
    refine j_bipush (pc := 115) (v := (64 : Int32)) hX dX10_does_115 cb_64 ?_
    refine j_idivC (pc := 117) hX dX10_does_117 (by decide) ?_
    refine j_bipush (pc := 118) (v := (10 : Int32)) hX dX10_does_118 cb_10 ?_
    refine j_iremC (pc := 120) hX dX10_does_120 (by decide) ?_
    refine j_iast (pc := 121) hX (jb rfl) rfl rfl dX10_does_121 (fun M1 => ?_)
    exact j_vret (pc := 122) hX rfl dX10_does_122
def pX10_does_63 (fu : Nat) (x1 : Int32) (x2 : Int32) (x3 : Int32) (x4 : Int32) (M : Mem)  : Res :=
  if x4 = (3 : Int32) then (
    ld M 12 768 (x1 + x3) fun v2 =>
    if v2 = (2 : Int32) then (
      bV (pX10_goesHome fu x1 x3 M) fun M3 =>
      some (0, M3))
    else
    pX10_does_90 fu  x1 x2 x4 M )
  else
  pX10_does_90 fu  x1 x2 x4 M 
set_option maxRecDepth 100000 in
theorem wX10_does_63 {E : jE} {X : jC} (hX : jOk X uX10_does (gM E)) (fu : Nat)  (x1 : Int32) (x2 : Int32) (x3 : Int32) (x4 : Int32) (M : Mem)   : J X uX10_does (gM E) 63 [(0, .ref (gad (gM E) 0)), (1, .int x1), (2, .int x2), (3, .int x3), (4, .int x4)] [] M (pX10_does_63 fu  x1 x2 x3 x4 M ) := by
  unfold pX10_does_63
  refine j_iload (pc := 63) hX 4 dX10_does_63 rfl ?_
  refine j_iconst (pc := 65) (v := (3 : Int32)) hX dX10_does_65 ci_3 ?_
  refine j_icmp_ne (pc := 66) hX 90 dX10_does_66 (by decide) ?_ ?_
  · exact j_sub [0, 1, 2, 4] rfl (wX10_does_90 hX fu   x1 x2 x4 M  )
  · refine j_aload_n (pc := 69) hX 0 dX10_does_69 rfl rfl ?_
    refine j_getR (pc := 70) (t := 12) hX (jb rfl) rfl (ci := 9) (C := RX10) (T := TX10) (N := 30) rfl (jb rfl) inX10 (j := 19) (jb rfl) rfl tw_939 dX10_does_70 ?_
    refine j_iload_n (pc := 73) hX 1 dX10_does_73 rfl rfl ?_
    refine j_iload_n (pc := 74) hX 3 dX10_does_74 rfl rfl ?_
    refine j_iadd (pc := 75) hX dX10_does_75 ?_
    refine j_iald (pc := 76) hX (jb rfl) rfl rfl dX10_does_76 (fun v2 => ?_)
    refine j_iconst (pc := 77) (v := (2 : Int32)) hX dX10_does_77 ci_2 ?_
    refine j_icmp_ne (pc := 78) hX 90 dX10_does_78 (by decide) ?_ ?_
    · exact j_sub [0, 1, 2, 4] rfl (wX10_does_90 hX fu   x1 x2 x4 M  )
    · refine j_aload_n (pc := 81) hX 0 dX10_does_81 rfl rfl ?_
      refine j_iload_n (pc := 82) hX 1 dX10_does_82 rfl rfl ?_
      refine j_iload_n (pc := 83) hX 3 dX10_does_83 rfl rfl ?_
      refine j_callVv (pc := 84) hX [.int x1, .int x3] (mX10_goesHome _ E hX.2.2.2.2.2.2.2.2.1 fu   x1 x3 M) qX10_goesHome tw_1171 (jb rfl) rfl (ci := 9) (T := TX10) (N := 30) rfl (jb rfl) rfl ⟨rfl, rfl⟩ ⟨(Nat.le_of_ble_eq_true rfl), (Nat.le_of_ble_eq_true rfl)⟩ (Nat.le_of_ble_eq_true rfl) dX10_does_84 rfl (fun M3 => ?_)
      refine j_goto (pc := 87) hX 122 dX10_does_87 (by decide) ?_
      exact j_vret (pc := 122) hX rfl dX10_does_122
def pX10_does (fu : Nat) (x1 : Int32) (x2 : Int32) (M : Mem) : Res :=
  if (M 0 7) = 0 then none else
  if (M 0 4) = 0 then none else
  if (3 : Int32) ≤ (irm x2 (8 : Int32)) then (
    pX10_does_63 fu  x1 x2 (irm (x2 / (8 : Int32)) (M 0 7)) (irm x2 (8 : Int32)) M )
  else
  bI (pX10_canSend fu x1 (irm (x2 / (8 : Int32)) (M 0 7)) (irm (x2 / (512 : Int32)) (M 0 4)) M) fun r5 M4 =>
  if r5 = 0 then (
    pX10_does_63 fu  x1 x2 (irm (x2 / (8 : Int32)) (M 0 7)) (irm x2 (8 : Int32)) M4 )
  else
  bV (pX10_sends fu x1 (irm (x2 / (8 : Int32)) (M 0 7)) (irm (x2 / (64 : Int32)) (8 : Int32)) (irm (x2 / (512 : Int32)) (M 0 4)) M4) fun M6 =>
  some (0, M6)
set_option maxRecDepth 100000 in
theorem wX10_does {E : jE} {X : jC} (hX : jOk X uX10_does (gM E)) (fu : Nat)  (x1 : Int32) (x2 : Int32) (M : Mem) : J X uX10_does (gM E) 0 [(0, .ref (gad (gM E) 0)), (1, .int x1), (2, .int x2)] [] M (pX10_does fu  x1 x2 M) := by
  unfold pX10_does
  refine j_iload_n (pc := 0) hX 2 dX10_does_0 rfl rfl ?_
  refine j_bipush (pc := 1) (v := (8 : Int32)) hX dX10_does_1 cb_8 ?_
  refine j_idivC (pc := 3) hX dX10_does_3 (by decide) ?_
  refine j_aload_n (pc := 4) hX 0 dX10_does_4 rfl rfl ?_
  refine j_getI (pc := 5) hX (jb rfl) rfl (ci := 9) (C := RX10) (T := TX10) (N := 30) rfl (jb rfl) inX10 (j := 7) (jb rfl) rfl tw_927 dX10_does_5 ?_
  refine j_irem (pc := 8) hX dX10_does_8 ?_
  refine j_istore_n (pc := 9) (lv' := [(3, .int (irm (x2 / (8 : Int32)) (M 0 7))), (0, .ref (gad (gM E) 0)), (1, .int x1), (2, .int x2)]) hX dX10_does_9 rfl (jb rfl) rfl ?_
  refine j_iload_n (pc := 10) hX 3 dX10_does_10 rfl rfl ?_
  refine j_bipush (pc := 11) (v := (8 : Int32)) hX dX10_does_11 cb_8 ?_
  refine j_iremC (pc := 13) hX dX10_does_13 (by decide) ?_
  refine j_istore (pc := 14) (lv' := [(4, .int (irm x2 (8 : Int32))), (3, .int (irm (x2 / (8 : Int32)) (M 0 7))), (0, .ref (gad (gM E) 0)), (1, .int x1), (2, .int x2)]) hX dX10_does_14 (jb rfl) rfl ?_
  refine j_iload_n (pc := 16) hX 4 dX10_does_16 rfl rfl ?_
  refine j_sipush (pc := 17) (v := (512 : Int32)) hX dX10_does_17 cs_512 ?_
  refine j_idivC (pc := 20) hX dX10_does_20 (by decide) ?_
  refine j_aload_n (pc := 21) hX 2 dX10_does_21 rfl rfl ?_
  refine j_getI (pc := 22) hX (jb rfl) rfl (ci := 9) (C := RX10) (T := TX10) (N := 30) rfl (jb rfl) inX10 (j := 4) (jb rfl) rfl tw_924 dX10_does_22 ?_
  refine j_irem (pc := 25) hX dX10_does_25 ?_
  refine j_istore (pc := 26) (lv' := [(5, .int (irm (x2 / (512 : Int32)) (M 0 4))), (4, .int (irm x2 (8 : Int32))), (3, .int (irm (x2 / (8 : Int32)) (M 0 7))), (0, .ref (gad (gM E) 0)), (1, .int x1), (2, .int x2)]) hX dX10_does_26 (jb rfl) rfl ?_
  refine j_iload (pc := 28) hX 1 dX10_does_28 rfl ?_
  refine j_iconst (pc := 30) (v := (3 : Int32)) hX dX10_does_30 ci_3 ?_
  refine j_icmp_ge (pc := 31) hX 63 dX10_does_31 (by decide) ?_ ?_
  · exact j_sub [3, 4, 5, 2, 1] rfl (wX10_does_63 hX fu   x1 x2 (irm (x2 / (8 : Int32)) (M 0 7)) (irm x2 (8 : Int32)) M  )
  · refine j_aload_n (pc := 34) hX 3 dX10_does_34 rfl rfl ?_
    refine j_iload_n (pc := 35) hX 4 dX10_does_35 rfl rfl ?_
    refine j_iload_n (pc := 36) hX 2 dX10_does_36 rfl rfl ?_
    refine j_iload (pc := 37) hX 0 dX10_does_37 rfl ?_
    refine j_callV (pc := 39) hX [.int x1, .int (irm (x2 / (8 : Int32)) (M 0 7)), .int (irm (x2 / (512 : Int32)) (M 0 4))] (mX10_canSend _ E hX.2.2.2.2.2.2.2.2.1 fu   x1 (irm (x2 / (8 : Int32)) (M 0 7)) (irm (x2 / (512 : Int32)) (M 0 4)) M) qX10_canSend tw_1119 (jb rfl) rfl (ci := 9) (T := TX10) (N := 30) rfl (jb rfl) rfl ⟨rfl, rfl⟩ ⟨(Nat.le_of_ble_eq_true rfl), (Nat.le_of_ble_eq_true rfl)⟩ (Nat.le_of_ble_eq_true rfl) dX10_does_39 (fun _ => rfl) rfl (fun r5 M4 => ?_)
    refine j_if_eq (pc := 42) hX 63 dX10_does_42 (by decide) ?_ ?_
    · exact j_sub [3, 4, 5, 2, 1] rfl (wX10_does_63 hX fu   x1 x2 (irm (x2 / (8 : Int32)) (M 0 7)) (irm x2 (8 : Int32)) M4  )
    · refine j_aload_n (pc := 45) hX 3 dX10_does_45 rfl rfl ?_
      refine j_iload_n (pc := 46) hX 4 dX10_does_46 rfl rfl ?_
      refine j_iload_n (pc := 47) hX 2 dX10_does_47 rfl rfl ?_
      refine j_iload_n (pc := 48) hX 5 dX10_does_48 rfl rfl ?_
      refine j_bipush (pc := 49) (v := (64 : Int32)) hX dX10_does_49 cb_64 ?_
      refine j_idivC (pc := 51) hX dX10_does_51 (by decide) ?_
      refine j_bipush (pc := 52) (v := (8 : Int32)) hX dX10_does_52 cb_8 ?_
      refine j_iremC (pc := 54) hX dX10_does_54 (by decide) ?_
      refine j_iload (pc := 55) hX 0 dX10_does_55 rfl ?_
      refine j_callVv (pc := 57) hX [.int x1, .int (irm (x2 / (8 : Int32)) (M 0 7)), .int (irm (x2 / (64 : Int32)) (8 : Int32)), .int (irm (x2 / (512 : Int32)) (M 0 4))] (mX10_sends _ E hX.2.2.2.2.2.2.2.2.1 fu   x1 (irm (x2 / (8 : Int32)) (M 0 7)) (irm (x2 / (64 : Int32)) (8 : Int32)) (irm (x2 / (512 : Int32)) (M 0 4)) M4) qX10_sends tw_1127 (jb rfl) rfl (ci := 9) (T := TX10) (N := 30) rfl (jb rfl) rfl ⟨rfl, rfl⟩ ⟨(Nat.le_of_ble_eq_true rfl), (Nat.le_of_ble_eq_true rfl)⟩ (Nat.le_of_ble_eq_true rfl) dX10_does_57 rfl (fun M6 => ?_)
      refine j_goto (pc := 60) hX 122 dX10_does_60 (by decide) ?_
      exact j_vret (pc := 122) hX rfl dX10_does_122
theorem mX10_does (l : Launch) (E : jE) (hI : jInj (gM E)) (fu : Nat)  (x1 : Int32) (x2 : Int32) (M : Mem) : jMet l (gM E) yX10_does cX10_does 6 none rX10_does [.ref (gad (gM E) 0), .int x1, .int x2] M (pX10_does fu  x1 x2 M) :=
  j_entry hI (by decide +kernel) (Nat.le_of_ble_eq_true rfl) rfl (fun X _ hX => wX10_does hX fu   x1 x2 M)
