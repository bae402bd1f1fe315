theorem dX10_sends_0 : decode cX10_sends 0 = .ok (.aload_n 0, 1) := by decide +kernel
theorem dX10_sends_1 : decode cX10_sends 1 = .ok (.getfield 43, 3) := by decide +kernel
theorem dX10_sends_4 : decode cX10_sends 4 = .ok (.iload_n 1, 1) := by decide +kernel
theorem dX10_sends_5 : decode cX10_sends 5 = .ok (.iload_n 2, 1) := by decide +kernel
theorem dX10_sends_6 : decode cX10_sends 6 = .ok (.iadd, 1) := by decide +kernel
theorem dX10_sends_7 : decode cX10_sends 7 = .ok (.iconst 1, 1) := by decide +kernel
theorem dX10_sends_8 : decode cX10_sends 8 = .ok (.iastore, 1) := by decide +kernel
theorem dX10_sends_9 : decode cX10_sends 9 = .ok (.aload_n 0, 1) := by decide +kernel
theorem dX10_sends_10 : decode cX10_sends 10 = .ok (.getfield 43, 3) := by decide +kernel
theorem dX10_sends_13 : decode cX10_sends 13 = .ok (.iload_n 1, 1) := by decide +kernel
theorem dX10_sends_14 : decode cX10_sends 14 = .ok (.bipush 25, 2) := by decide +kernel
theorem dX10_sends_16 : decode cX10_sends 16 = .ok (.iadd, 1) := by decide +kernel
theorem dX10_sends_17 : decode cX10_sends 17 = .ok (.iload_n 2, 1) := by decide +kernel
theorem dX10_sends_18 : decode cX10_sends 18 = .ok (.iadd, 1) := by decide +kernel
theorem dX10_sends_19 : decode cX10_sends 19 = .ok (.iload 4, 2) := by decide +kernel
theorem dX10_sends_21 : decode cX10_sends 21 = .ok (.iastore, 1) := by decide +kernel
theorem dX10_sends_22 : decode cX10_sends 22 = .ok (.aload_n 0, 1) := by decide +kernel
theorem dX10_sends_23 : decode cX10_sends 23 = .ok (.getfield 43, 3) := by decide +kernel
theorem dX10_sends_26 : decode cX10_sends 26 = .ok (.iload_n 1, 1) := by decide +kernel
theorem dX10_sends_27 : decode cX10_sends 27 = .ok (.bipush 30, 2) := by decide +kernel
theorem dX10_sends_29 : decode cX10_sends 29 = .ok (.iadd, 1) := by decide +kernel
theorem dX10_sends_30 : decode cX10_sends 30 = .ok (.iload_n 2, 1) := by decide +kernel
theorem dX10_sends_31 : decode cX10_sends 31 = .ok (.iadd, 1) := by decide +kernel
theorem dX10_sends_32 : decode cX10_sends 32 = .ok (.iload_n 3, 1) := by decide +kernel
theorem dX10_sends_33 : decode cX10_sends 33 = .ok (.iastore, 1) := by decide +kernel
theorem dX10_sends_34 : decode cX10_sends 34 = .ok (.aload_n 0, 1) := by decide +kernel
theorem dX10_sends_35 : decode cX10_sends 35 = .ok (.getfield 43, 3) := by decide +kernel
theorem dX10_sends_38 : decode cX10_sends 38 = .ok (.iload_n 1, 1) := by decide +kernel
theorem dX10_sends_39 : decode cX10_sends 39 = .ok (.bipush 35, 2) := by decide +kernel
theorem dX10_sends_41 : decode cX10_sends 41 = .ok (.iadd, 1) := by decide +kernel
theorem dX10_sends_42 : decode cX10_sends 42 = .ok (.iload_n 2, 1) := by decide +kernel
theorem dX10_sends_43 : decode cX10_sends 43 = .ok (.iadd, 1) := by decide +kernel
theorem dX10_sends_44 : decode cX10_sends 44 = .ok (.aload_n 0, 1) := by decide +kernel
theorem dX10_sends_45 : decode cX10_sends 45 = .ok (.getfield 43, 3) := by decide +kernel
theorem dX10_sends_48 : decode cX10_sends 48 = .ok (.iload_n 1, 1) := by decide +kernel
theorem dX10_sends_49 : decode cX10_sends 49 = .ok (.bipush 40, 2) := by decide +kernel
theorem dX10_sends_51 : decode cX10_sends 51 = .ok (.iadd, 1) := by decide +kernel
theorem dX10_sends_52 : decode cX10_sends 52 = .ok (.iload_n 2, 1) := by decide +kernel
theorem dX10_sends_53 : decode cX10_sends 53 = .ok (.iadd, 1) := by decide +kernel
theorem dX10_sends_54 : decode cX10_sends 54 = .ok (.iaload, 1) := by decide +kernel
theorem dX10_sends_55 : decode cX10_sends 55 = .ok (.iastore, 1) := by decide +kernel
theorem dX10_sends_56 : decode cX10_sends 56 = .ok (.aload_n 0, 1) := by decide +kernel
theorem dX10_sends_57 : decode cX10_sends 57 = .ok (.getfield 43, 3) := by decide +kernel
theorem dX10_sends_60 : decode cX10_sends 60 = .ok (.iload_n 1, 1) := by decide +kernel
theorem dX10_sends_61 : decode cX10_sends 61 = .ok (.bipush 40, 2) := by decide +kernel
theorem dX10_sends_63 : decode cX10_sends 63 = .ok (.iadd, 1) := by decide +kernel
theorem dX10_sends_64 : decode cX10_sends 64 = .ok (.iload_n 2, 1) := by decide +kernel
theorem dX10_sends_65 : decode cX10_sends 65 = .ok (.iadd, 1) := by decide +kernel
theorem dX10_sends_66 : decode cX10_sends 66 = .ok (.aload_n 0, 1) := by decide +kernel
theorem dX10_sends_67 : decode cX10_sends 67 = .ok (.getfield 43, 3) := by decide +kernel
theorem dX10_sends_70 : decode cX10_sends 70 = .ok (.iload_n 1, 1) := by decide +kernel
theorem dX10_sends_71 : decode cX10_sends 71 = .ok (.bipush 40, 2) := by decide +kernel
theorem dX10_sends_73 : decode cX10_sends 73 = .ok (.iadd, 1) := by decide +kernel
theorem dX10_sends_74 : decode cX10_sends 74 = .ok (.iload_n 2, 1) := by decide +kernel
theorem dX10_sends_75 : decode cX10_sends 75 = .ok (.iadd, 1) := by decide +kernel
theorem dX10_sends_76 : decode cX10_sends 76 = .ok (.iaload, 1) := by decide +kernel
theorem dX10_sends_77 : decode cX10_sends 77 = .ok (.iconst 1, 1) := by decide +kernel
theorem dX10_sends_78 : decode cX10_sends 78 = .ok (.iadd, 1) := by decide +kernel
theorem dX10_sends_79 : decode cX10_sends 79 = .ok (.bipush 10, 2) := by decide +kernel
theorem dX10_sends_81 : decode cX10_sends 81 = .ok (.irem, 1) := by decide +kernel
theorem dX10_sends_82 : decode cX10_sends 82 = .ok (.iastore, 1) := by decide +kernel
theorem dX10_sends_83 : decode cX10_sends 83 = .ok (.aload_n 0, 1) := by decide +kernel
theorem dX10_sends_84 : decode cX10_sends 84 = .ok (.getfield 43, 3) := by decide +kernel
theorem dX10_sends_87 : decode cX10_sends 87 = .ok (.iload_n 1, 1) := by decide +kernel
theorem dX10_sends_88 : decode cX10_sends 88 = .ok (.bipush 45, 2) := by decide +kernel
theorem dX10_sends_90 : decode cX10_sends 90 = .ok (.iadd, 1) := by decide +kernel
theorem dX10_sends_91 : decode cX10_sends 91 = .ok (.iload_n 2, 1) := by decide +kernel
theorem dX10_sends_92 : decode cX10_sends 92 = .ok (.iadd, 1) := by decide +kernel
theorem dX10_sends_93 : decode cX10_sends 93 = .ok (.iconst 0, 1) := by decide +kernel
theorem dX10_sends_94 : decode cX10_sends 94 = .ok (.iastore, 1) := by decide +kernel
theorem dX10_sends_95 : decode cX10_sends 95 = .ok (.aload_n 0, 1) := by decide +kernel
theorem dX10_sends_96 : decode cX10_sends 96 = .ok (.getfield 43, 3) := by decide +kernel
theorem dX10_sends_99 : decode cX10_sends 99 = .ok (.iload_n 1, 1) := by decide +kernel
theorem dX10_sends_100 : decode cX10_sends 100 = .ok (.bipush 50, 2) := by decide +kernel
theorem dX10_sends_102 : decode cX10_sends 102 = .ok (.iadd, 1) := by decide +kernel
theorem dX10_sends_103 : decode cX10_sends 103 = .ok (.iload_n 2, 1) := by decide +kernel
theorem dX10_sends_104 : decode cX10_sends 104 = .ok (.iadd, 1) := by decide +kernel
theorem dX10_sends_105 : decode cX10_sends 105 = .ok (.iconst 0, 1) := by decide +kernel
theorem dX10_sends_106 : decode cX10_sends 106 = .ok (.iastore, 1) := by decide +kernel
theorem dX10_sends_107 : decode cX10_sends 107 = .ok (.aload_n 0, 1) := by decide +kernel
theorem dX10_sends_108 : decode cX10_sends 108 = .ok (.getfield 43, 3) := by decide +kernel
theorem dX10_sends_111 : decode cX10_sends 111 = .ok (.iload_n 1, 1) := by decide +kernel
theorem dX10_sends_112 : decode cX10_sends 112 = .ok (.bipush 20, 2) := by decide +kernel
theorem dX10_sends_114 : decode cX10_sends 114 = .ok (.iadd, 1) := by decide +kernel
theorem dX10_sends_115 : decode cX10_sends 115 = .ok (.iload_n 2, 1) := by decide +kernel
theorem dX10_sends_116 : decode cX10_sends 116 = .ok (.iadd, 1) := by decide +kernel
theorem dX10_sends_117 : decode cX10_sends 117 = .ok (.iconst 0, 1) := by decide +kernel
theorem dX10_sends_118 : decode cX10_sends 118 = .ok (.iastore, 1) := by decide +kernel
theorem dX10_sends_119 : decode cX10_sends 119 = .ok (.return_, 1) := by decide +kernel
theorem dX10_goal_0 : decode cX10_goal 0 = .ok (.aload_n 0, 1) := by decide +kernel
theorem dX10_goal_1 : decode cX10_goal 1 = .ok (.getfield 43, 3) := by decide +kernel
theorem dX10_goal_4 : decode cX10_goal 4 = .ok (.iload_n 1, 1) := by decide +kernel
theorem dX10_goal_5 : decode cX10_goal 5 = .ok (.iload_n 2, 1) := by decide +kernel
theorem dX10_goal_6 : decode cX10_goal 6 = .ok (.iadd, 1) := by decide +kernel
theorem dX10_goal_7 : decode cX10_goal 7 = .ok (.iaload, 1) := by decide +kernel
theorem dX10_goal_8 : decode cX10_goal 8 = .ok (.iconst 3, 1) := by decide +kernel
theorem dX10_goal_9 : decode cX10_goal 9 = .ok (.if_icmp .ne 7, 3) := by decide +kernel
theorem dX10_goal_12 : decode cX10_goal 12 = .ok (.iconst 0, 1) := by decide +kernel
theorem dX10_goal_13 : decode cX10_goal 13 = .ok (.goto 19, 3) := by decide +kernel
theorem dX10_goal_16 : decode cX10_goal 16 = .ok (.aload_n 0, 1) := by decide +kernel
theorem dX10_goal_17 : decode cX10_goal 17 = .ok (.getfield 19, 3) := by decide +kernel
theorem dX10_goal_20 : decode cX10_goal 20 = .ok (.aload_n 0, 1) := by decide +kernel
theorem dX10_goal_21 : decode cX10_goal 21 = .ok (.getfield 43, 3) := by decide +kernel
theorem dX10_goal_24 : decode cX10_goal 24 = .ok (.iload_n 1, 1) := by decide +kernel
theorem dX10_goal_25 : decode cX10_goal 25 = .ok (.bipush 25, 2) := by decide +kernel
theorem dX10_goal_27 : decode cX10_goal 27 = .ok (.iadd, 1) := by decide +kernel
theorem dX10_goal_28 : decode cX10_goal 28 = .ok (.iload_n 2, 1) := by decide +kernel
theorem dX10_goal_29 : decode cX10_goal 29 = .ok (.iadd, 1) := by decide +kernel
theorem dX10_goal_30 : decode cX10_goal 30 = .ok (.iaload, 1) := by decide +kernel
theorem dX10_goal_31 : decode cX10_goal 31 = .ok (.iaload, 1) := by decide +kernel
theorem dX10_goal_32 : decode cX10_goal 32 = .ok (.ireturn, 1) := by decide +kernel
theorem dX10_nextOn_0 : decode cX10_nextOn 0 = .ok (.iconst 0, 1) := by decide +kernel
theorem dX10_nextOn_1 : decode cX10_nextOn 1 = .ok (.istore_n 3, 1) := by decide +kernel
theorem dX10_nextOn_2 : decode cX10_nextOn 2 = .ok (.iload_n 3, 1) := by decide +kernel
theorem dX10_nextOn_3 : decode cX10_nextOn 3 = .ok (.aload_n 0, 1) := by decide +kernel
theorem dX10_nextOn_4 : decode cX10_nextOn 4 = .ok (.getfield 89, 3) := by decide +kernel
theorem dX10_nextOn_7 : decode cX10_nextOn 7 = .ok (.if_icmp .ge 84, 3) := by decide +kernel
theorem dX10_nextOn_10 : decode cX10_nextOn 10 = .ok (.iload_n 1, 1) := by decide +kernel
theorem dX10_nextOn_11 : decode cX10_nextOn 11 = .ok (.iload_n 2, 1) := by decide +kernel
theorem dX10_nextOn_12 : decode cX10_nextOn 12 = .ok (.if_icmp .eq 73, 3) := by decide +kernel
theorem dX10_nextOn_15 : decode cX10_nextOn 15 = .ok (.aload_n 0, 1) := by decide +kernel
theorem dX10_nextOn_16 : decode cX10_nextOn 16 = .ok (.getfield 7, 3) := by decide +kernel
theorem dX10_nextOn_19 : decode cX10_nextOn 19 = .ok (.bipush 8, 2) := by decide +kernel
theorem dX10_nextOn_21 : decode cX10_nextOn 21 = .ok (.iload_n 1, 1) := by decide +kernel
theorem dX10_nextOn_22 : decode cX10_nextOn 22 = .ok (.imul, 1) := by decide +kernel
theorem dX10_nextOn_23 : decode cX10_nextOn 23 = .ok (.iload_n 3, 1) := by decide +kernel
theorem dX10_nextOn_24 : decode cX10_nextOn 24 = .ok (.iadd, 1) := by decide +kernel
theorem dX10_nextOn_25 : decode cX10_nextOn 25 = .ok (.iaload, 1) := by decide +kernel
theorem dX10_nextOn_26 : decode cX10_nextOn 26 = .ok (.ifCond .le 59, 3) := by decide +kernel
theorem dX10_nextOn_29 : decode cX10_nextOn 29 = .ok (.aload_n 0, 1) := by decide +kernel
theorem dX10_nextOn_30 : decode cX10_nextOn 30 = .ok (.getfield 13, 3) := by decide +kernel
theorem dX10_nextOn_33 : decode cX10_nextOn 33 = .ok (.bipush 8, 2) := by decide +kernel
theorem dX10_nextOn_35 : decode cX10_nextOn 35 = .ok (.iload_n 1, 1) := by decide +kernel
theorem dX10_nextOn_36 : decode cX10_nextOn 36 = .ok (.imul, 1) := by decide +kernel
theorem dX10_nextOn_37 : decode cX10_nextOn 37 = .ok (.iload_n 2, 1) := by decide +kernel
theorem dX10_nextOn_38 : decode cX10_nextOn 38 = .ok (.iadd, 1) := by decide +kernel
theorem dX10_nextOn_39 : decode cX10_nextOn 39 = .ok (.iaload, 1) := by decide +kernel
theorem dX10_nextOn_40 : decode cX10_nextOn 40 = .ok (.sipush 9999, 3) := by decide +kernel
theorem dX10_nextOn_43 : decode cX10_nextOn 43 = .ok (.if_icmp .ge 42, 3) := by decide +kernel
theorem dX10_nextOn_46 : decode cX10_nextOn 46 = .ok (.aload_n 0, 1) := by decide +kernel
theorem dX10_nextOn_47 : decode cX10_nextOn 47 = .ok (.getfield 7, 3) := by decide +kernel
theorem dX10_nextOn_50 : decode cX10_nextOn 50 = .ok (.bipush 8, 2) := by decide +kernel
theorem dX10_nextOn_52 : decode cX10_nextOn 52 = .ok (.iload_n 1, 1) := by decide +kernel
theorem dX10_nextOn_53 : decode cX10_nextOn 53 = .ok (.imul, 1) := by decide +kernel
theorem dX10_nextOn_54 : decode cX10_nextOn 54 = .ok (.iload_n 3, 1) := by decide +kernel
theorem dX10_nextOn_55 : decode cX10_nextOn 55 = .ok (.iadd, 1) := by decide +kernel
theorem dX10_nextOn_56 : decode cX10_nextOn 56 = .ok (.iaload, 1) := by decide +kernel
theorem dX10_nextOn_57 : decode cX10_nextOn 57 = .ok (.aload_n 0, 1) := by decide +kernel
theorem dX10_nextOn_58 : decode cX10_nextOn 58 = .ok (.getfield 13, 3) := by decide +kernel
theorem dX10_nextOn_61 : decode cX10_nextOn 61 = .ok (.bipush 8, 2) := by decide +kernel
theorem dX10_nextOn_63 : decode cX10_nextOn 63 = .ok (.iload_n 3, 1) := by decide +kernel
theorem dX10_nextOn_64 : decode cX10_nextOn 64 = .ok (.imul, 1) := by decide +kernel
theorem dX10_nextOn_65 : decode cX10_nextOn 65 = .ok (.iload_n 2, 1) := by decide +kernel
theorem dX10_nextOn_66 : decode cX10_nextOn 66 = .ok (.iadd, 1) := by decide +kernel
theorem dX10_nextOn_67 : decode cX10_nextOn 67 = .ok (.iaload, 1) := by decide +kernel
theorem dX10_nextOn_68 : decode cX10_nextOn 68 = .ok (.iadd, 1) := by decide +kernel
theorem dX10_nextOn_69 : decode cX10_nextOn 69 = .ok (.aload_n 0, 1) := by decide +kernel
theorem dX10_nextOn_70 : decode cX10_nextOn 70 = .ok (.getfield 13, 3) := by decide +kernel
theorem dX10_nextOn_73 : decode cX10_nextOn 73 = .ok (.bipush 8, 2) := by decide +kernel
theorem dX10_nextOn_75 : decode cX10_nextOn 75 = .ok (.iload_n 1, 1) := by decide +kernel
theorem dX10_nextOn_76 : decode cX10_nextOn 76 = .ok (.imul, 1) := by decide +kernel
theorem dX10_nextOn_77 : decode cX10_nextOn 77 = .ok (.iload_n 2, 1) := by decide +kernel
theorem dX10_nextOn_78 : decode cX10_nextOn 78 = .ok (.iadd, 1) := by decide +kernel
theorem dX10_nextOn_79 : decode cX10_nextOn 79 = .ok (.iaload, 1) := by decide +kernel
theorem dX10_nextOn_80 : decode cX10_nextOn 80 = .ok (.if_icmp .ne 5, 3) := by decide +kernel
theorem dX10_nextOn_83 : decode cX10_nextOn 83 = .ok (.iload_n 3, 1) := by decide +kernel
theorem dX10_nextOn_84 : decode cX10_nextOn 84 = .ok (.ireturn, 1) := by decide +kernel
theorem dX10_nextOn_85 : decode cX10_nextOn 85 = .ok (.iinc 3 1, 3) := by decide +kernel
theorem dX10_nextOn_88 : decode cX10_nextOn 88 = .ok (.goto (-86), 3) := by decide +kernel
theorem dX10_nextOn_91 : decode cX10_nextOn 91 = .ok (.bipush (-4), 2) := by decide +kernel
theorem dX10_nextOn_93 : decode cX10_nextOn 93 = .ok (.ireturn, 1) := by decide +kernel
theorem dX10_settlesAt_0 : decode cX10_settlesAt 0 = .ok (.aload_n 0, 1) := by decide +kernel
theorem dX10_settlesAt_1 : decode cX10_settlesAt 1 = .ok (.getfield 43, 3) := by decide +kernel
theorem dX10_settlesAt_4 : decode cX10_settlesAt 4 = .ok (.iload_n 1, 1) := by decide +kernel
theorem dX10_settlesAt_5 : decode cX10_settlesAt 5 = .ok (.bipush 10, 2) := by decide +kernel
theorem dX10_settlesAt_7 : decode cX10_settlesAt 7 = .ok (.iadd, 1) := by decide +kernel
theorem dX10_settlesAt_8 : decode cX10_settlesAt 8 = .ok (.iload_n 2, 1) := by decide +kernel
theorem dX10_settlesAt_9 : decode cX10_settlesAt 9 = .ok (.iadd, 1) := by decide +kernel
theorem dX10_settlesAt_10 : decode cX10_settlesAt 10 = .ok (.bipush (-4), 2) := by decide +kernel
theorem dX10_settlesAt_12 : decode cX10_settlesAt 12 = .ok (.iastore, 1) := by decide +kernel
theorem dX10_settlesAt_13 : decode cX10_settlesAt 13 = .ok (.aload_n 0, 1) := by decide +kernel
theorem dX10_settlesAt_14 : decode cX10_settlesAt 14 = .ok (.getfield 43, 3) := by decide +kernel
theorem dX10_settlesAt_17 : decode cX10_settlesAt 17 = .ok (.iload_n 1, 1) := by decide +kernel
theorem dX10_settlesAt_18 : decode cX10_settlesAt 18 = .ok (.bipush 15, 2) := by decide +kernel
theorem dX10_settlesAt_20 : decode cX10_settlesAt 20 = .ok (.iadd, 1) := by decide +kernel
theorem dX10_settlesAt_21 : decode cX10_settlesAt 21 = .ok (.iload_n 2, 1) := by decide +kernel
theorem dX10_settlesAt_22 : decode cX10_settlesAt 22 = .ok (.iadd, 1) := by decide +kernel
theorem dX10_settlesAt_23 : decode cX10_settlesAt 23 = .ok (.iconst 0, 1) := by decide +kernel
theorem dX10_settlesAt_24 : decode cX10_settlesAt 24 = .ok (.iastore, 1) := by decide +kernel
theorem dX10_settlesAt_25 : decode cX10_settlesAt 25 = .ok (.aload_n 0, 1) := by decide +kernel
theorem dX10_settlesAt_26 : decode cX10_settlesAt 26 = .ok (.getfield 43, 3) := by decide +kernel
theorem dX10_settlesAt_29 : decode cX10_settlesAt 29 = .ok (.iload_n 1, 1) := by decide +kernel
theorem dX10_settlesAt_30 : decode cX10_settlesAt 30 = .ok (.bipush 20, 2) := by decide +kernel
theorem dX10_settlesAt_32 : decode cX10_settlesAt 32 = .ok (.iadd, 1) := by decide +kernel
theorem dX10_settlesAt_33 : decode cX10_settlesAt 33 = .ok (.iload_n 2, 1) := by decide +kernel
theorem dX10_settlesAt_34 : decode cX10_settlesAt 34 = .ok (.iadd, 1) := by decide +kernel
theorem dX10_settlesAt_35 : decode cX10_settlesAt 35 = .ok (.iconst 0, 1) := by decide +kernel
theorem dX10_settlesAt_36 : decode cX10_settlesAt 36 = .ok (.iastore, 1) := by decide +kernel
theorem dX10_settlesAt_37 : decode cX10_settlesAt 37 = .ok (.aload_n 0, 1) := by decide +kernel
theorem dX10_settlesAt_38 : decode cX10_settlesAt 38 = .ok (.getfield 43, 3) := by decide +kernel
theorem dX10_settlesAt_41 : decode cX10_settlesAt 41 = .ok (.iload_n 1, 1) := by decide +kernel
theorem dX10_settlesAt_42 : decode cX10_settlesAt 42 = .ok (.iload_n 2, 1) := by decide +kernel
theorem dX10_settlesAt_43 : decode cX10_settlesAt 43 = .ok (.iadd, 1) := by decide +kernel
theorem dX10_settlesAt_44 : decode cX10_settlesAt 44 = .ok (.aload_n 0, 1) := by decide +kernel
theorem dX10_settlesAt_45 : decode cX10_settlesAt 45 = .ok (.getfield 43, 3) := by decide +kernel
theorem dX10_settlesAt_48 : decode cX10_settlesAt 48 = .ok (.iload_n 1, 1) := by decide +kernel
theorem dX10_settlesAt_49 : decode cX10_settlesAt 49 = .ok (.iload_n 2, 1) := by decide +kernel
theorem dX10_settlesAt_50 : decode cX10_settlesAt 50 = .ok (.iadd, 1) := by decide +kernel
theorem dX10_settlesAt_51 : decode cX10_settlesAt 51 = .ok (.iaload, 1) := by decide +kernel
theorem dX10_settlesAt_52 : decode cX10_settlesAt 52 = .ok (.iconst 3, 1) := by decide +kernel
theorem dX10_settlesAt_53 : decode cX10_settlesAt 53 = .ok (.if_icmp .ne 7, 3) := by decide +kernel
theorem dX10_settlesAt_56 : decode cX10_settlesAt 56 = .ok (.iconst 0, 1) := by decide +kernel
theorem dX10_settlesAt_57 : decode cX10_settlesAt 57 = .ok (.goto 4, 3) := by decide +kernel
theorem dX10_settlesAt_60 : decode cX10_settlesAt 60 = .ok (.iconst 2, 1) := by decide +kernel
theorem dX10_settlesAt_61 : decode cX10_settlesAt 61 = .ok (.iastore, 1) := by decide +kernel
theorem dX10_settlesAt_62 : decode cX10_settlesAt 62 = .ok (.return_, 1) := by decide +kernel
theorem dX10_arrivesIn_0 : decode cX10_arrivesIn 0 = .ok (.aload_n 0, 1) := by decide +kernel
theorem dX10_arrivesIn_1 : decode cX10_arrivesIn 1 = .ok (.getfield 43, 3) := by decide +kernel
theorem dX10_arrivesIn_4 : decode cX10_arrivesIn 4 = .ok (.iload_n 1, 1) := by decide +kernel
theorem dX10_arrivesIn_5 : decode cX10_arrivesIn 5 = .ok (.bipush 10, 2) := by decide +kernel
theorem dX10_arrivesIn_7 : decode cX10_arrivesIn 7 = .ok (.iadd, 1) := by decide +kernel
theorem dX10_arrivesIn_8 : decode cX10_arrivesIn 8 = .ok (.iload_n 2, 1) := by decide +kernel
theorem dX10_arrivesIn_9 : decode cX10_arrivesIn 9 = .ok (.iadd, 1) := by decide +kernel
theorem dX10_arrivesIn_10 : decode cX10_arrivesIn 10 = .ok (.iaload, 1) := by decide +kernel
theorem dX10_arrivesIn_11 : decode cX10_arrivesIn 11 = .ok (.istore_n 3, 1) := by decide +kernel
theorem dX10_arrivesIn_12 : decode cX10_arrivesIn 12 = .ok (.aload_n 0, 1) := by decide +kernel
theorem dX10_arrivesIn_13 : decode cX10_arrivesIn 13 = .ok (.getfield 43, 3) := by decide +kernel
theorem dX10_arrivesIn_16 : decode cX10_arrivesIn 16 = .ok (.iload_n 1, 1) := by decide +kernel
theorem dX10_arrivesIn_17 : decode cX10_arrivesIn 17 = .ok (.iconst 5, 1) := by decide +kernel
theorem dX10_arrivesIn_18 : decode cX10_arrivesIn 18 = .ok (.iadd, 1) := by decide +kernel
theorem dX10_arrivesIn_19 : decode cX10_arrivesIn 19 = .ok (.iload_n 2, 1) := by decide +kernel
theorem dX10_arrivesIn_20 : decode cX10_arrivesIn 20 = .ok (.iadd, 1) := by decide +kernel
theorem dX10_arrivesIn_21 : decode cX10_arrivesIn 21 = .ok (.iload_n 3, 1) := by decide +kernel
theorem dX10_arrivesIn_22 : decode cX10_arrivesIn 22 = .ok (.iastore, 1) := by decide +kernel
theorem dX10_arrivesIn_23 : decode cX10_arrivesIn 23 = .ok (.aload_n 0, 1) := by decide +kernel
theorem dX10_arrivesIn_24 : decode cX10_arrivesIn 24 = .ok (.getfield 43, 3) := by decide +kernel
theorem dX10_arrivesIn_27 : decode cX10_arrivesIn 27 = .ok (.iload_n 1, 1) := by decide +kernel
theorem dX10_arrivesIn_28 : decode cX10_arrivesIn 28 = .ok (.bipush 10, 2) := by decide +kernel
theorem dX10_arrivesIn_30 : decode cX10_arrivesIn 30 = .ok (.iadd, 1) := by decide +kernel
theorem dX10_arrivesIn_31 : decode cX10_arrivesIn 31 = .ok (.iload_n 2, 1) := by decide +kernel
theorem dX10_arrivesIn_32 : decode cX10_arrivesIn 32 = .ok (.iadd, 1) := by decide +kernel
theorem dX10_arrivesIn_33 : decode cX10_arrivesIn 33 = .ok (.bipush (-4), 2) := by decide +kernel
theorem dX10_arrivesIn_35 : decode cX10_arrivesIn 35 = .ok (.iastore, 1) := by decide +kernel
theorem dX10_arrivesIn_36 : decode cX10_arrivesIn 36 = .ok (.iconst 0, 1) := by decide +kernel
theorem dX10_arrivesIn_37 : decode cX10_arrivesIn 37 = .ok (.istore 4, 2) := by decide +kernel
theorem dX10_arrivesIn_39 : decode cX10_arrivesIn 39 = .ok (.aload_n 0, 1) := by decide +kernel
theorem dX10_arrivesIn_40 : decode cX10_arrivesIn 40 = .ok (.getfield 43, 3) := by decide +kernel
theorem dX10_arrivesIn_43 : decode cX10_arrivesIn 43 = .ok (.iload_n 1, 1) := by decide +kernel
theorem dX10_arrivesIn_44 : decode cX10_arrivesIn 44 = .ok (.bipush 55, 2) := by decide +kernel
theorem dX10_arrivesIn_46 : decode cX10_arrivesIn 46 = .ok (.iadd, 1) := by decide +kernel
theorem dX10_arrivesIn_47 : decode cX10_arrivesIn 47 = .ok (.iload_n 3, 1) := by decide +kernel
theorem dX10_arrivesIn_48 : decode cX10_arrivesIn 48 = .ok (.iadd, 1) := by decide +kernel
theorem dX10_arrivesIn_49 : decode cX10_arrivesIn 49 = .ok (.iaload, 1) := by decide +kernel
theorem dX10_arrivesIn_50 : decode cX10_arrivesIn 50 = .ok (.ifCond .le 46, 3) := by decide +kernel
theorem dX10_arrivesIn_53 : decode cX10_arrivesIn 53 = .ok (.aload_n 0, 1) := by decide +kernel
theorem dX10_arrivesIn_54 : decode cX10_arrivesIn 54 = .ok (.getfield 22, 3) := by decide +kernel
theorem dX10_arrivesIn_57 : decode cX10_arrivesIn 57 = .ok (.iload_n 2, 1) := by decide +kernel
theorem dX10_arrivesIn_58 : decode cX10_arrivesIn 58 = .ok (.iaload, 1) := by decide +kernel
theorem dX10_arrivesIn_59 : decode cX10_arrivesIn 59 = .ok (.iconst 3, 1) := by decide +kernel
theorem dX10_arrivesIn_60 : decode cX10_arrivesIn 60 = .ok (.if_icmp .eq 36, 3) := by decide +kernel
theorem dX10_arrivesIn_63 : decode cX10_arrivesIn 63 = .ok (.aload_n 0, 1) := by decide +kernel
theorem dX10_arrivesIn_64 : decode cX10_arrivesIn 64 = .ok (.getfield 43, 3) := by decide +kernel
theorem dX10_arrivesIn_67 : decode cX10_arrivesIn 67 = .ok (.iload_n 1, 1) := by decide +kernel
theorem dX10_arrivesIn_68 : decode cX10_arrivesIn 68 = .ok (.bipush 55, 2) := by decide +kernel
theorem dX10_arrivesIn_70 : decode cX10_arrivesIn 70 = .ok (.iadd, 1) := by decide +kernel
theorem dX10_arrivesIn_71 : decode cX10_arrivesIn 71 = .ok (.iload_n 3, 1) := by decide +kernel
theorem dX10_arrivesIn_72 : decode cX10_arrivesIn 72 = .ok (.iadd, 1) := by decide +kernel
theorem dX10_arrivesIn_73 : decode cX10_arrivesIn 73 = .ok (.dup2, 1) := by decide +kernel
theorem dX10_arrivesIn_74 : decode cX10_arrivesIn 74 = .ok (.iaload, 1) := by decide +kernel
theorem dX10_arrivesIn_75 : decode cX10_arrivesIn 75 = .ok (.iconst 1, 1) := by decide +kernel
theorem dX10_arrivesIn_76 : decode cX10_arrivesIn 76 = .ok (.isub, 1) := by decide +kernel
theorem dX10_arrivesIn_77 : decode cX10_arrivesIn 77 = .ok (.iastore, 1) := by decide +kernel
theorem dX10_arrivesIn_78 : decode cX10_arrivesIn 78 = .ok (.aload_n 0, 1) := by decide +kernel
theorem dX10_arrivesIn_79 : decode cX10_arrivesIn 79 = .ok (.getfield 43, 3) := by decide +kernel
theorem dX10_arrivesIn_82 : decode cX10_arrivesIn 82 = .ok (.iload_n 1, 1) := by decide +kernel
theorem dX10_arrivesIn_83 : decode cX10_arrivesIn 83 = .ok (.bipush 45, 2) := by decide +kernel
theorem dX10_arrivesIn_85 : decode cX10_arrivesIn 85 = .ok (.iadd, 1) := by decide +kernel
theorem dX10_arrivesIn_86 : decode cX10_arrivesIn 86 = .ok (.iload_n 2, 1) := by decide +kernel
theorem dX10_arrivesIn_87 : decode cX10_arrivesIn 87 = .ok (.iadd, 1) := by decide +kernel
theorem dX10_arrivesIn_88 : decode cX10_arrivesIn 88 = .ok (.dup2, 1) := by decide +kernel
theorem dX10_arrivesIn_89 : decode cX10_arrivesIn 89 = .ok (.iaload, 1) := by decide +kernel
theorem dX10_arrivesIn_90 : decode cX10_arrivesIn 90 = .ok (.iconst 1, 1) := by decide +kernel
theorem dX10_arrivesIn_91 : decode cX10_arrivesIn 91 = .ok (.iadd, 1) := by decide +kernel
theorem dX10_arrivesIn_92 : decode cX10_arrivesIn 92 = .ok (.iastore, 1) := by decide +kernel
theorem dX10_arrivesIn_93 : decode cX10_arrivesIn 93 = .ok (.iinc 4 1, 3) := by decide +kernel
theorem dX10_arrivesIn_96 : decode cX10_arrivesIn 96 = .ok (.aload_n 0, 1) := by decide +kernel
theorem dX10_arrivesIn_97 : decode cX10_arrivesIn 97 = .ok (.getfield 92, 3) := by decide +kernel
theorem dX10_arrivesIn_100 : decode cX10_arrivesIn 100 = .ok (.iload_n 3, 1) := by decide +kernel
theorem dX10_arrivesIn_101 : decode cX10_arrivesIn 101 = .ok (.invokestatic 193, 3) := by decide +kernel
theorem dX10_arrivesIn_104 : decode cX10_arrivesIn 104 = .ok (.ifCond .eq 40, 3) := by decide +kernel
theorem dX10_arrivesIn_107 : decode cX10_arrivesIn 107 = .ok (.aload_n 0, 1) := by decide +kernel
theorem dX10_arrivesIn_108 : decode cX10_arrivesIn 108 = .ok (.getfield 22, 3) := by decide +kernel
theorem dX10_arrivesIn_111 : decode cX10_arrivesIn 111 = .ok (.iload_n 2, 1) := by decide +kernel
theorem dX10_arrivesIn_112 : decode cX10_arrivesIn 112 = .ok (.iaload, 1) := by decide +kernel
theorem dX10_arrivesIn_113 : decode cX10_arrivesIn 113 = .ok (.ifCond .eq 13, 3) := by decide +kernel
theorem dX10_arrivesIn_116 : decode cX10_arrivesIn 116 = .ok (.aload_n 0, 1) := by decide +kernel
theorem dX10_arrivesIn_117 : decode cX10_arrivesIn 117 = .ok (.getfield 22, 3) := by decide +kernel
theorem dX10_arrivesIn_120 : decode cX10_arrivesIn 120 = .ok (.iload_n 2, 1) := by decide +kernel
theorem dX10_arrivesIn_121 : decode cX10_arrivesIn 121 = .ok (.iaload, 1) := by decide +kernel
theorem dX10_arrivesIn_122 : decode cX10_arrivesIn 122 = .ok (.iconst 2, 1) := by decide +kernel
theorem dX10_arrivesIn_123 : decode cX10_arrivesIn 123 = .ok (.if_icmp .ne 21, 3) := by decide +kernel
theorem dX10_arrivesIn_126 : decode cX10_arrivesIn 126 = .ok (.aload_n 0, 1) := by decide +kernel
theorem dX10_arrivesIn_127 : decode cX10_arrivesIn 127 = .ok (.getfield 43, 3) := by decide +kernel
theorem dX10_arrivesIn_130 : decode cX10_arrivesIn 130 = .ok (.iload_n 1, 1) := by decide +kernel
theorem dX10_arrivesIn_131 : decode cX10_arrivesIn 131 = .ok (.bipush 50, 2) := by decide +kernel
theorem dX10_arrivesIn_133 : decode cX10_arrivesIn 133 = .ok (.iadd, 1) := by decide +kernel
theorem dX10_arrivesIn_134 : decode cX10_arrivesIn 134 = .ok (.iload_n 2, 1) := by decide +kernel
theorem dX10_arrivesIn_135 : decode cX10_arrivesIn 135 = .ok (.iadd, 1) := by decide +kernel
theorem dX10_arrivesIn_136 : decode cX10_arrivesIn 136 = .ok (.dup2, 1) := by decide +kernel
theorem dX10_arrivesIn_137 : decode cX10_arrivesIn 137 = .ok (.iaload, 1) := by decide +kernel
theorem dX10_arrivesIn_138 : decode cX10_arrivesIn 138 = .ok (.iconst 1, 1) := by decide +kernel
theorem dX10_arrivesIn_139 : decode cX10_arrivesIn 139 = .ok (.iadd, 1) := by decide +kernel
theorem dX10_arrivesIn_140 : decode cX10_arrivesIn 140 = .ok (.iastore, 1) := by decide +kernel
theorem dX10_arrivesIn_141 : decode cX10_arrivesIn 141 = .ok (.iinc 4 2, 3) := by decide +kernel
theorem dX10_arrivesIn_144 : decode cX10_arrivesIn 144 = .ok (.aload_n 0, 1) := by decide +kernel
theorem dX10_arrivesIn_145 : decode cX10_arrivesIn 145 = .ok (.getfield 43, 3) := by decide +kernel
theorem dX10_arrivesIn_148 : decode cX10_arrivesIn 148 = .ok (.iload_n 1, 1) := by decide +kernel
theorem dX10_arrivesIn_149 : decode cX10_arrivesIn 149 = .ok (.bipush 20, 2) := by decide +kernel
theorem dX10_arrivesIn_151 : decode cX10_arrivesIn 151 = .ok (.iadd, 1) := by decide +kernel
theorem dX10_arrivesIn_152 : decode cX10_arrivesIn 152 = .ok (.iload_n 2, 1) := by decide +kernel
theorem dX10_arrivesIn_153 : decode cX10_arrivesIn 153 = .ok (.iadd, 1) := by decide +kernel
theorem dX10_arrivesIn_154 : decode cX10_arrivesIn 154 = .ok (.iload 4, 2) := by decide +kernel
theorem dX10_arrivesIn_156 : decode cX10_arrivesIn 156 = .ok (.iastore, 1) := by decide +kernel
theorem dX10_arrivesIn_157 : decode cX10_arrivesIn 157 = .ok (.iload_n 3, 1) := by decide +kernel
theorem dX10_arrivesIn_158 : decode cX10_arrivesIn 158 = .ok (.aload_n 0, 1) := by decide +kernel
theorem dX10_arrivesIn_159 : decode cX10_arrivesIn 159 = .ok (.iload_n 1, 1) := by decide +kernel
theorem dX10_arrivesIn_160 : decode cX10_arrivesIn 160 = .ok (.iload_n 2, 1) := by decide +kernel
theorem dX10_arrivesIn_161 : decode cX10_arrivesIn 161 = .ok (.invokevirtual 197, 3) := by decide +kernel
theorem dX10_arrivesIn_164 : decode cX10_arrivesIn 164 = .ok (.if_icmp .ne 9, 3) := by decide +kernel
theorem dX10_arrivesIn_167 : decode cX10_arrivesIn 167 = .ok (.aload_n 0, 1) := by decide +kernel
theorem dX10_arrivesIn_168 : decode cX10_arrivesIn 168 = .ok (.iload_n 1, 1) := by decide +kernel
theorem dX10_arrivesIn_169 : decode cX10_arrivesIn 169 = .ok (.iload_n 2, 1) := by decide +kernel
theorem dX10_arrivesIn_170 : decode cX10_arrivesIn 170 = .ok (.invokevirtual 200, 3) := by decide +kernel
theorem dX10_arrivesIn_173 : decode cX10_arrivesIn 173 = .ok (.return_, 1) := by decide +kernel
theorem dX10_goesOn_0 : decode cX10_goesOn 0 = .ok (.aload_n 0, 1) := by decide +kernel
theorem dX10_goesOn_1 : decode cX10_goesOn 1 = .ok (.getfield 43, 3) := by decide +kernel
theorem dX10_goesOn_4 : decode cX10_goesOn 4 = .ok (.iload_n 1, 1) := by decide +kernel
theorem dX10_goesOn_5 : decode cX10_goesOn 5 = .ok (.bipush 20, 2) := by decide +kernel
theorem dX10_goesOn_7 : decode cX10_goesOn 7 = .ok (.iadd, 1) := by decide +kernel
theorem dX10_goesOn_8 : decode cX10_goesOn 8 = .ok (.iload_n 2, 1) := by decide +kernel
theorem dX10_goesOn_9 : decode cX10_goesOn 9 = .ok (.iadd, 1) := by decide +kernel
theorem dX10_goesOn_10 : decode cX10_goesOn 10 = .ok (.iaload, 1) := by decide +kernel
theorem dX10_goesOn_11 : decode cX10_goesOn 11 = .ok (.ifCond .le 19, 3) := by decide +kernel
theorem dX10_goesOn_14 : decode cX10_goesOn 14 = .ok (.aload_n 0, 1) := by decide +kernel
theorem dX10_goesOn_15 : decode cX10_goesOn 15 = .ok (.getfield 43, 3) := by decide +kernel
theorem dX10_goesOn_18 : decode cX10_goesOn 18 = .ok (.iload_n 1, 1) := by decide +kernel
theorem dX10_goesOn_19 : decode cX10_goesOn 19 = .ok (.bipush 20, 2) := by decide +kernel
theorem dX10_goesOn_21 : decode cX10_goesOn 21 = .ok (.iadd, 1) := by decide +kernel
theorem dX10_goesOn_22 : decode cX10_goesOn 22 = .ok (.iload_n 2, 1) := by decide +kernel
theorem dX10_goesOn_23 : decode cX10_goesOn 23 = .ok (.iadd, 1) := by decide +kernel
theorem dX10_goesOn_24 : decode cX10_goesOn 24 = .ok (.dup2, 1) := by decide +kernel
theorem dX10_goesOn_25 : decode cX10_goesOn 25 = .ok (.iaload, 1) := by decide +kernel
theorem dX10_goesOn_26 : decode cX10_goesOn 26 = .ok (.iconst 1, 1) := by decide +kernel
theorem dX10_goesOn_27 : decode cX10_goesOn 27 = .ok (.isub, 1) := by decide +kernel
theorem dX10_goesOn_28 : decode cX10_goesOn 28 = .ok (.iastore, 1) := by decide +kernel
theorem dX10_goesOn_29 : decode cX10_goesOn 29 = .ok (.return_, 1) := by decide +kernel
theorem dX10_goesOn_30 : decode cX10_goesOn 30 = .ok (.aload_n 0, 1) := by decide +kernel
theorem dX10_goesOn_31 : decode cX10_goesOn 31 = .ok (.getfield 43, 3) := by decide +kernel
theorem dX10_goesOn_34 : decode cX10_goesOn 34 = .ok (.iload_n 1, 1) := by decide +kernel
theorem dX10_goesOn_35 : decode cX10_goesOn 35 = .ok (.bipush 10, 2) := by decide +kernel
theorem dX10_goesOn_37 : decode cX10_goesOn 37 = .ok (.iadd, 1) := by decide +kernel
theorem dX10_goesOn_38 : decode cX10_goesOn 38 = .ok (.iload_n 2, 1) := by decide +kernel
theorem dX10_goesOn_39 : decode cX10_goesOn 39 = .ok (.iadd, 1) := by decide +kernel
theorem dX10_goesOn_40 : decode cX10_goesOn 40 = .ok (.iaload, 1) := by decide +kernel
theorem dX10_goesOn_41 : decode cX10_goesOn 41 = .ok (.bipush (-4), 2) := by decide +kernel
theorem dX10_goesOn_43 : decode cX10_goesOn 43 = .ok (.if_icmp .ne 87, 3) := by decide +kernel
theorem dX10_goesOn_46 : decode cX10_goesOn 46 = .ok (.aload_n 0, 1) := by decide +kernel
theorem dX10_goesOn_47 : decode cX10_goesOn 47 = .ok (.getfield 43, 3) := by decide +kernel
theorem dX10_goesOn_50 : decode cX10_goesOn 50 = .ok (.iload_n 1, 1) := by decide +kernel
theorem dX10_goesOn_51 : decode cX10_goesOn 51 = .ok (.iconst 5, 1) := by decide +kernel
theorem dX10_goesOn_52 : decode cX10_goesOn 52 = .ok (.iadd, 1) := by decide +kernel
theorem dX10_goesOn_53 : decode cX10_goesOn 53 = .ok (.iload_n 2, 1) := by decide +kernel
theorem dX10_goesOn_54 : decode cX10_goesOn 54 = .ok (.iadd, 1) := by decide +kernel
theorem dX10_goesOn_55 : decode cX10_goesOn 55 = .ok (.iaload, 1) := by decide +kernel
theorem dX10_goesOn_56 : decode cX10_goesOn 56 = .ok (.istore_n 3, 1) := by decide +kernel
theorem dX10_goesOn_57 : decode cX10_goesOn 57 = .ok (.iload_n 3, 1) := by decide +kernel
theorem dX10_goesOn_58 : decode cX10_goesOn 58 = .ok (.aload_n 0, 1) := by decide +kernel
theorem dX10_goesOn_59 : decode cX10_goesOn 59 = .ok (.iload_n 1, 1) := by decide +kernel
theorem dX10_goesOn_60 : decode cX10_goesOn 60 = .ok (.iload_n 2, 1) := by decide +kernel
theorem dX10_goesOn_61 : decode cX10_goesOn 61 = .ok (.invokevirtual 197, 3) := by decide +kernel
theorem dX10_goesOn_64 : decode cX10_goesOn 64 = .ok (.if_icmp .ne 10, 3) := by decide +kernel
theorem dX10_goesOn_67 : decode cX10_goesOn 67 = .ok (.aload_n 0, 1) := by decide +kernel
theorem dX10_goesOn_68 : decode cX10_goesOn 68 = .ok (.iload_n 1, 1) := by decide +kernel
theorem dX10_goesOn_69 : decode cX10_goesOn 69 = .ok (.iload_n 2, 1) := by decide +kernel
theorem dX10_goesOn_70 : decode cX10_goesOn 70 = .ok (.invokevirtual 200, 3) := by decide +kernel
theorem dX10_goesOn_73 : decode cX10_goesOn 73 = .ok (.return_, 1) := by decide +kernel
theorem dX10_goesOn_74 : decode cX10_goesOn 74 = .ok (.aload_n 0, 1) := by decide +kernel
theorem dX10_goesOn_75 : decode cX10_goesOn 75 = .ok (.iload_n 3, 1) := by decide +kernel
theorem dX10_goesOn_76 : decode cX10_goesOn 76 = .ok (.aload_n 0, 1) := by decide +kernel
theorem dX10_goesOn_77 : decode cX10_goesOn 77 = .ok (.iload_n 1, 1) := by decide +kernel
theorem dX10_goesOn_78 : decode cX10_goesOn 78 = .ok (.iload_n 2, 1) := by decide +kernel
theorem dX10_goesOn_79 : decode cX10_goesOn 79 = .ok (.invokevirtual 197, 3) := by decide +kernel
theorem dX10_goesOn_82 : decode cX10_goesOn 82 = .ok (.invokevirtual 203, 3) := by decide +kernel
theorem dX10_goesOn_85 : decode cX10_goesOn 85 = .ok (.istore 4, 2) := by decide +kernel
theorem dX10_goesOn_87 : decode cX10_goesOn 87 = .ok (.aload_n 0, 1) := by decide +kernel
theorem dX10_goesOn_88 : decode cX10_goesOn 88 = .ok (.getfield 43, 3) := by decide +kernel
theorem dX10_goesOn_91 : decode cX10_goesOn 91 = .ok (.iload_n 1, 1) := by decide +kernel
theorem dX10_goesOn_92 : decode cX10_goesOn 92 = .ok (.bipush 10, 2) := by decide +kernel
theorem dX10_goesOn_94 : decode cX10_goesOn 94 = .ok (.iadd, 1) := by decide +kernel
theorem dX10_goesOn_95 : decode cX10_goesOn 95 = .ok (.iload_n 2, 1) := by decide +kernel
theorem dX10_goesOn_96 : decode cX10_goesOn 96 = .ok (.iadd, 1) := by decide +kernel
theorem dX10_goesOn_97 : decode cX10_goesOn 97 = .ok (.iload 4, 2) := by decide +kernel
theorem dX10_goesOn_99 : decode cX10_goesOn 99 = .ok (.iastore, 1) := by decide +kernel
theorem dX10_goesOn_100 : decode cX10_goesOn 100 = .ok (.aload_n 0, 1) := by decide +kernel
theorem dX10_goesOn_101 : decode cX10_goesOn 101 = .ok (.getfield 43, 3) := by decide +kernel
theorem dX10_goesOn_104 : decode cX10_goesOn 104 = .ok (.iload_n 1, 1) := by decide +kernel
theorem dX10_goesOn_105 : decode cX10_goesOn 105 = .ok (.bipush 15, 2) := by decide +kernel
theorem dX10_goesOn_107 : decode cX10_goesOn 107 = .ok (.iadd, 1) := by decide +kernel
theorem dX10_goesOn_108 : decode cX10_goesOn 108 = .ok (.iload_n 2, 1) := by decide +kernel
theorem dX10_goesOn_109 : decode cX10_goesOn 109 = .ok (.iadd, 1) := by decide +kernel
theorem dX10_goesOn_110 : decode cX10_goesOn 110 = .ok (.aload_n 0, 1) := by decide +kernel
theorem dX10_goesOn_111 : decode cX10_goesOn 111 = .ok (.getfield 7, 3) := by decide +kernel
theorem dX10_goesOn_114 : decode cX10_goesOn 114 = .ok (.bipush 8, 2) := by decide +kernel
theorem dX10_goesOn_116 : decode cX10_goesOn 116 = .ok (.iload_n 3, 1) := by decide +kernel
theorem dX10_goesOn_117 : decode cX10_goesOn 117 = .ok (.imul, 1) := by decide +kernel
theorem dX10_goesOn_118 : decode cX10_goesOn 118 = .ok (.iload 4, 2) := by decide +kernel
theorem dX10_goesOn_120 : decode cX10_goesOn 120 = .ok (.iadd, 1) := by decide +kernel
theorem dX10_goesOn_121 : decode cX10_goesOn 121 = .ok (.iaload, 1) := by decide +kernel
theorem dX10_goesOn_122 : decode cX10_goesOn 122 = .ok (.aload_n 0, 1) := by decide +kernel
theorem dX10_goesOn_123 : decode cX10_goesOn 123 = .ok (.getfield 25, 3) := by decide +kernel
theorem dX10_goesOn_126 : decode cX10_goesOn 126 = .ok (.iload_n 2, 1) := by decide +kernel
theorem dX10_goesOn_127 : decode cX10_goesOn 127 = .ok (.iaload, 1) := by decide +kernel
theorem dX10_goesOn_128 : decode cX10_goesOn 128 = .ok (.imul, 1) := by decide +kernel
theorem dX10_goesOn_129 : decode cX10_goesOn 129 = .ok (.iastore, 1) := by decide +kernel
theorem dX10_goesOn_130 : decode cX10_goesOn 130 = .ok (.aload_n 0, 1) := by decide +kernel
theorem dX10_goesOn_131 : decode cX10_goesOn 131 = .ok (.getfield 43, 3) := by decide +kernel
theorem dX10_goesOn_134 : decode cX10_goesOn 134 = .ok (.iload_n 1, 1) := by decide +kernel
theorem dX10_goesOn_135 : decode cX10_goesOn 135 = .ok (.bipush 15, 2) := by decide +kernel
theorem dX10_goesOn_137 : decode cX10_goesOn 137 = .ok (.iadd, 1) := by decide +kernel
theorem dX10_goesOn_138 : decode cX10_goesOn 138 = .ok (.iload_n 2, 1) := by decide +kernel
theorem dX10_goesOn_139 : decode cX10_goesOn 139 = .ok (.iadd, 1) := by decide +kernel
theorem dX10_goesOn_140 : decode cX10_goesOn 140 = .ok (.dup2, 1) := by decide +kernel
theorem dX10_goesOn_141 : decode cX10_goesOn 141 = .ok (.iaload, 1) := by decide +kernel
theorem dX10_goesOn_142 : decode cX10_goesOn 142 = .ok (.iconst 1, 1) := by decide +kernel
theorem dX10_goesOn_143 : decode cX10_goesOn 143 = .ok (.isub, 1) := by decide +kernel
theorem dX10_goesOn_144 : decode cX10_goesOn 144 = .ok (.iastore, 1) := by decide +kernel
theorem dX10_goesOn_145 : decode cX10_goesOn 145 = .ok (.aload_n 0, 1) := by decide +kernel
theorem dX10_goesOn_146 : decode cX10_goesOn 146 = .ok (.getfield 43, 3) := by decide +kernel
theorem dX10_goesOn_149 : decode cX10_goesOn 149 = .ok (.iload_n 1, 1) := by decide +kernel
theorem dX10_goesOn_150 : decode cX10_goesOn 150 = .ok (.bipush 15, 2) := by decide +kernel
theorem dX10_goesOn_152 : decode cX10_goesOn 152 = .ok (.iadd, 1) := by decide +kernel
theorem dX10_goesOn_153 : decode cX10_goesOn 153 = .ok (.iload_n 2, 1) := by decide +kernel
theorem dX10_goesOn_154 : decode cX10_goesOn 154 = .ok (.iadd, 1) := by decide +kernel
theorem dX10_goesOn_155 : decode cX10_goesOn 155 = .ok (.iaload, 1) := by decide +kernel
theorem dX10_goesOn_156 : decode cX10_goesOn 156 = .ok (.ifCond .ne 9, 3) := by decide +kernel
theorem dX10_goesOn_159 : decode cX10_goesOn 159 = .ok (.aload_n 0, 1) := by decide +kernel
theorem dX10_goesOn_160 : decode cX10_goesOn 160 = .ok (.iload_n 1, 1) := by decide +kernel
theorem dX10_goesOn_161 : decode cX10_goesOn 161 = .ok (.iload_n 2, 1) := by decide +kernel
theorem dX10_goesOn_162 : decode cX10_goesOn 162 = .ok (.invokevirtual 206, 3) := by decide +kernel
theorem dX10_goesOn_165 : decode cX10_goesOn 165 = .ok (.return_, 1) := by decide +kernel
theorem qX10_sends : jYv yX10_sends cX10_sends 5 none 4 := ⟨tw_1129, tw_39, tw_72, tw_1130, ⟨by decide +kernel, by decide +kernel, by decide +kernel⟩⟩
abbrev rX10_sends : Room := { frames := 0, cells := 0, slots := 0, locals := 0 }
def uX10_sends : jM := (cX10_sends, 5, RX10, none, rX10_sends)
def pX10_sends (fu : Nat) (x1 : Int32) (x2 : Int32) (x3 : Int32) (x4 : Int32) (M : Mem) : Res :=
  sto M 12 768 (x1 + x2) (1 : Int32) fun M1 =>
  sto M1 12 768 ((x1 + (25 : Int32)) + x2) x4 fun M2 =>
  sto M2 12 768 ((x1 + (30 : Int32)) + x2) x3 fun M3 =>
  ld M3 12 768 ((x1 + (40 : Int32)) + x2) fun v4 =>
  sto M3 12 768 ((x1 + (35 : Int32)) + x2) v4 fun M5 =>
  ld M5 12 768 ((x1 + (40 : Int32)) + x2) fun v6 =>
  sto M5 12 768 ((x1 + (40 : Int32)) + x2) (irm (v6 + (1 : Int32)) (10 : Int32)) fun M7 =>
  sto M7 12 768 ((x1 + (45 : Int32)) + x2) (0 : Int32) fun M8 =>
  sto M8 12 768 ((x1 + (50 : Int32)) + x2) (0 : Int32) fun M9 =>
  sto M9 12 768 ((x1 + (20 : Int32)) + x2) (0 : Int32) fun M10 =>
  some (0, M10)
set_option maxRecDepth 100000 in
theorem wX10_sends {E : jE} {X : jC} (hX : jOk X uX10_sends (gM E)) (fu : Nat)  (x1 : Int32) (x2 : Int32) (x3 : Int32) (x4 : Int32) (M : Mem) : J X uX10_sends (gM E) 0 [(0, .ref (gad (gM E) 0)), (1, .int x1), (2, .int x2), (3, .int x3), (4, .int x4)] [] M (pX10_sends fu  x1 x2 x3 x4 M) := by
  unfold pX10_sends
  refine j_aload_n (pc := 0) hX 0 dX10_sends_0 rfl rfl ?_
  refine j_getR (pc := 1) (t := 12) hX (jb rfl) rfl (ci := 9) (C := RX10) (T := TX10) (N := 30) rfl (jb rfl) inX10 (j := 19) (jb rfl) rfl tw_939 dX10_sends_1 ?_
  refine j_iload_n (pc := 4) hX 1 dX10_sends_4 rfl rfl ?_
  refine j_iload_n (pc := 5) hX 2 dX10_sends_5 rfl rfl ?_
  refine j_iadd (pc := 6) hX dX10_sends_6 ?_
  refine j_iconst (pc := 7) (v := (1 : Int32)) hX dX10_sends_7 ci_1 ?_
  refine j_iast (pc := 8) hX (jb rfl) rfl rfl dX10_sends_8 (fun M1 => ?_)
  refine j_aload_n (pc := 9) hX 0 dX10_sends_9 rfl rfl ?_
  refine j_getR (pc := 10) (t := 12) hX (jb rfl) rfl (ci := 9) (C := RX10) (T := TX10) (N := 30) rfl (jb rfl) inX10 (j := 19) (jb rfl) rfl tw_939 dX10_sends_10 ?_
  refine j_iload_n (pc := 13) hX 1 dX10_sends_13 rfl rfl ?_
  refine j_bipush (pc := 14) (v := (25 : Int32)) hX dX10_sends_14 cb_25 ?_
  refine j_iadd (pc := 16) hX dX10_sends_16 ?_
  refine j_iload_n (pc := 17) hX 2 dX10_sends_17 rfl rfl ?_
  refine j_iadd (pc := 18) hX dX10_sends_18 ?_
  refine j_iload (pc := 19) hX 4 dX10_sends_19 rfl ?_
  refine j_iast (pc := 21) hX (jb rfl) rfl rfl dX10_sends_21 (fun M2 => ?_)
  refine j_aload_n (pc := 22) hX 0 dX10_sends_22 rfl rfl ?_
  refine j_getR (pc := 23) (t := 12) hX (jb rfl) rfl (ci := 9) (C := RX10) (T := TX10) (N := 30) rfl (jb rfl) inX10 (j := 19) (jb rfl) rfl tw_939 dX10_sends_23 ?_
  refine j_iload_n (pc := 26) hX 1 dX10_sends_26 rfl rfl ?_
  refine j_bipush (pc := 27) (v := (30 : Int32)) hX dX10_sends_27 cb_30 ?_
  refine j_iadd (pc := 29) hX dX10_sends_29 ?_
  refine j_iload_n (pc := 30) hX 2 dX10_sends_30 rfl rfl ?_
  refine j_iadd (pc := 31) hX dX10_sends_31 ?_
  refine j_iload_n (pc := 32) hX 3 dX10_sends_32 rfl rfl ?_
  refine j_iast (pc := 33) hX (jb rfl) rfl rfl dX10_sends_33 (fun M3 => ?_)
  refine j_aload_n (pc := 34) hX 0 dX10_sends_34 rfl rfl ?_
  refine j_getR (pc := 35) (t := 12) hX (jb rfl) rfl (ci := 9) (C := RX10) (T := TX10) (N := 30) rfl (jb rfl) inX10 (j := 19) (jb rfl) rfl tw_939 dX10_sends_35 ?_
  refine j_iload_n (pc := 38) hX 1 dX10_sends_38 rfl rfl ?_
  refine j_bipush (pc := 39) (v := (35 : Int32)) hX dX10_sends_39 cb_35 ?_
  refine j_iadd (pc := 41) hX dX10_sends_41 ?_
  refine j_iload_n (pc := 42) hX 2 dX10_sends_42 rfl rfl ?_
  refine j_iadd (pc := 43) hX dX10_sends_43 ?_
  refine j_aload_n (pc := 44) hX 0 dX10_sends_44 rfl rfl ?_
  refine j_getR (pc := 45) (t := 12) hX (jb rfl) rfl (ci := 9) (C := RX10) (T := TX10) (N := 30) rfl (jb rfl) inX10 (j := 19) (jb rfl) rfl tw_939 dX10_sends_45 ?_
  refine j_iload_n (pc := 48) hX 1 dX10_sends_48 rfl rfl ?_
  refine j_bipush (pc := 49) (v := (40 : Int32)) hX dX10_sends_49 cb_40 ?_
  refine j_iadd (pc := 51) hX dX10_sends_51 ?_
  refine j_iload_n (pc := 52) hX 2 dX10_sends_52 rfl rfl ?_
  refine j_iadd (pc := 53) hX dX10_sends_53 ?_
  refine j_iald (pc := 54) hX (jb rfl) rfl rfl dX10_sends_54 (fun v4 => ?_)
  refine j_iast (pc := 55) hX (jb rfl) rfl rfl dX10_sends_55 (fun M5 => ?_)
  refine j_aload_n (pc := 56) hX 0 dX10_sends_56 rfl rfl ?_
  refine j_getR (pc := 57) (t := 12) hX (jb rfl) rfl (ci := 9) (C := RX10) (T := TX10) (N := 30) rfl (jb rfl) inX10 (j := 19) (jb rfl) rfl tw_939 dX10_sends_57 ?_
  refine j_iload_n (pc := 60) hX 1 dX10_sends_60 rfl rfl ?_
  refine j_bipush (pc := 61) (v := (40 : Int32)) hX dX10_sends_61 cb_40 ?_
  refine j_iadd (pc := 63) hX dX10_sends_63 ?_
  refine j_iload_n (pc := 64) hX 2 dX10_sends_64 rfl rfl ?_
  refine j_iadd (pc := 65) hX dX10_sends_65 ?_
  refine j_aload_n (pc := 66) hX 0 dX10_sends_66 rfl rfl ?_
  refine j_getR (pc := 67) (t := 12) hX (jb rfl) rfl (ci := 9) (C := RX10) (T := TX10) (N := 30) rfl (jb rfl) inX10 (j := 19) (jb rfl) rfl tw_939 dX10_sends_67 ?_
  refine j_iload_n (pc := 70) hX 1 dX10_sends_70 rfl rfl ?_
  refine j_bipush (pc := 71) (v := (40 : Int32)) hX dX10_sends_71 cb_40 ?_
  refine j_iadd (pc := 73) hX dX10_sends_73 ?_
  refine j_iload_n (pc := 74) hX 2 dX10_sends_74 rfl rfl ?_
  refine j_iadd (pc := 75) hX dX10_sends_75 ?_
  refine j_iald (pc := 76) hX (jb rfl) rfl rfl dX10_sends_76 (fun v6 => ?_)
  refine j_iconst (pc := 77) (v := (1 : Int32)) hX dX10_sends_77 ci_1 ?_
  refine j_iadd (pc := 78) hX dX10_sends_78 ?_
  refine j_bipush (pc := 79) (v := (10 : Int32)) hX dX10_sends_79 cb_10 ?_
  refine j_iremC (pc := 81) hX dX10_sends_81 (by decide) ?_
  refine j_iast (pc := 82) hX (jb rfl) rfl rfl dX10_sends_82 (fun M7 => ?_)
  refine j_aload_n (pc := 83) hX 0 dX10_sends_83 rfl rfl ?_
  refine j_getR (pc := 84) (t := 12) hX (jb rfl) rfl (ci := 9) (C := RX10) (T := TX10) (N := 30) rfl (jb rfl) inX10 (j := 19) (jb rfl) rfl tw_939 dX10_sends_84 ?_
  refine j_iload_n (pc := 87) hX 1 dX10_sends_87 rfl rfl ?_
  refine j_bipush (pc := 88) (v := (45 : Int32)) hX dX10_sends_88 cb_45 ?_
  refine j_iadd (pc := 90) hX dX10_sends_90 ?_
  refine j_iload_n (pc := 91) hX 2 dX10_sends_91 rfl rfl ?_
  refine j_iadd (pc := 92) hX dX10_sends_92 ?_
  refine j_iconst (pc := 93) (v := (0 : Int32)) hX dX10_sends_93 ci_0 ?_
  refine j_iast (pc := 94) hX (jb rfl) rfl rfl dX10_sends_94 (fun M8 => ?_)
  refine j_aload_n (pc := 95) hX 0 dX10_sends_95 rfl rfl ?_
  refine j_getR (pc := 96) (t := 12) hX (jb rfl) rfl (ci := 9) (C := RX10) (T := TX10) (N := 30) rfl (jb rfl) inX10 (j := 19) (jb rfl) rfl tw_939 dX10_sends_96 ?_
  refine j_iload_n (pc := 99) hX 1 dX10_sends_99 rfl rfl ?_
  refine j_bipush (pc := 100) (v := (50 : Int32)) hX dX10_sends_100 cb_50 ?_
  refine j_iadd (pc := 102) hX dX10_sends_102 ?_
  refine j_iload_n (pc := 103) hX 2 dX10_sends_103 rfl rfl ?_
  refine j_iadd (pc := 104) hX dX10_sends_104 ?_
  refine j_iconst (pc := 105) (v := (0 : Int32)) hX dX10_sends_105 ci_0 ?_
  refine j_iast (pc := 106) hX (jb rfl) rfl rfl dX10_sends_106 (fun M9 => ?_)
  refine j_aload_n (pc := 107) hX 0 dX10_sends_107 rfl rfl ?_
  refine j_getR (pc := 108) (t := 12) hX (jb rfl) rfl (ci := 9) (C := RX10) (T := TX10) (N := 30) rfl (jb rfl) inX10 (j := 19) (jb rfl) rfl tw_939 dX10_sends_108 ?_
  refine j_iload_n (pc := 111) hX 1 dX10_sends_111 rfl rfl ?_
  refine j_bipush (pc := 112) (v := (20 : Int32)) hX dX10_sends_112 cb_20 ?_
  refine j_iadd (pc := 114) hX dX10_sends_114 ?_
  refine j_iload_n (pc := 115) hX 2 dX10_sends_115 rfl rfl ?_
  refine j_iadd (pc := 116) hX dX10_sends_116 ?_
  refine j_iconst (pc := 117) (v := (0 : Int32)) hX dX10_sends_117 ci_0 ?_
  refine j_iast (pc := 118) hX (jb rfl) rfl rfl dX10_sends_118 (fun M10 => ?_)
  exact j_vret (pc := 119) hX rfl dX10_sends_119
theorem mX10_sends (l : Launch) (E : jE) (hI : jInj (gM E)) (fu : Nat)  (x1 : Int32) (x2 : Int32) (x3 : Int32) (x4 : Int32) (M : Mem) : jMet l (gM E) yX10_sends cX10_sends 5 none rX10_sends [.ref (gad (gM E) 0), .int x1, .int x2, .int x3, .int x4] M (pX10_sends fu  x1 x2 x3 x4 M) :=
  j_entry hI (by decide +kernel) (Nat.le_of_ble_eq_true rfl) rfl (fun X _ hX => wX10_sends hX fu   x1 x2 x3 x4 M)
theorem qX10_goal : jYv yX10_goal cX10_goal 3 (some .int) 2 := ⟨tw_1146, tw_42, tw_72, tw_1147, ⟨by decide +kernel, by decide +kernel, by decide +kernel⟩⟩
abbrev rX10_goal : Room := { frames := 0, cells := 0, slots := 0, locals := 0 }
def uX10_goal : jM := (cX10_goal, 3, RX10, (some .int), rX10_goal)
def pX10_goal (fu : Nat) (x1 : Int32) (x2 : Int32) (M : Mem) : Res :=
  ld M 12 768 (x1 + x2) fun v1 =>
  if v1 = (3 : Int32) then (
    some ((0 : Int32), M))
  else
  ld M 12 768 ((x1 + (25 : Int32)) + x2) fun v2 =>
  ld M 4 4 v2 fun v3 =>
  some (v3, M)
set_option maxRecDepth 100000 in
theorem wX10_goal {E : jE} {X : jC} (hX : jOk X uX10_goal (gM E)) (fu : Nat)  (x1 : Int32) (x2 : Int32) (M : Mem) : J X uX10_goal (gM E) 0 [(0, .ref (gad (gM E) 0)), (1, .int x1), (2, .int x2)] [] M (pX10_goal fu  x1 x2 M) := by
  unfold pX10_goal
  refine j_aload_n (pc := 0) hX 0 dX10_goal_0 rfl rfl ?_
  refine j_getR (pc := 1) (t := 12) hX (jb rfl) rfl (ci := 9) (C := RX10) (T := TX10) (N := 30) rfl (jb rfl) inX10 (j := 19) (jb rfl) rfl tw_939 dX10_goal_1 ?_
  refine j_iload_n (pc := 4) hX 1 dX10_goal_4 rfl rfl ?_
  refine j_iload_n (pc := 5) hX 2 dX10_goal_5 rfl rfl ?_
  refine j_iadd (pc := 6) hX dX10_goal_6 ?_
  refine j_iald (pc := 7) hX (jb rfl) rfl rfl dX10_goal_7 (fun v1 => ?_)
  refine j_iconst (pc := 8) (v := (3 : Int32)) hX dX10_goal_8 ci_3 ?_
  refine j_icmp_ne (pc := 9) hX 16 dX10_goal_9 (by decide) ?_ ?_
  · refine j_aload_n (pc := 16) hX 0 dX10_goal_16 rfl rfl ?_
    refine j_getR (pc := 17) (t := 4) hX (jb rfl) rfl (ci := 9) (C := RX10) (T := TX10) (N := 30) rfl (jb rfl) inX10 (j := 6) (jb rfl) rfl tw_926 dX10_goal_17 ?_
    refine j_aload_n (pc := 20) hX 0 dX10_goal_20 rfl rfl ?_
    refine j_getR (pc := 21) (t := 12) hX (jb rfl) rfl (ci := 9) (C := RX10) (T := TX10) (N := 30) rfl (jb rfl) inX10 (j := 19) (jb rfl) rfl tw_939 dX10_goal_21 ?_
    refine j_iload_n (pc := 24) hX 1 dX10_goal_24 rfl rfl ?_
    refine j_bipush (pc := 25) (v := (25 : Int32)) hX dX10_goal_25 cb_25 ?_
    refine j_iadd (pc := 27) hX dX10_goal_27 ?_
    refine j_iload_n (pc := 28) hX 2 dX10_goal_28 rfl rfl ?_
    refine j_iadd (pc := 29) hX dX10_goal_29 ?_
    refine j_iald (pc := 30) hX (jb rfl) rfl rfl dX10_goal_30 (fun v2 => ?_)
    refine j_iald (pc := 31) hX (jb rfl) rfl rfl dX10_goal_31 (fun v3 => ?_)
    exact j_iret (pc := 32) hX rfl dX10_goal_32
  · refine j_iconst (pc := 12) (v := (0 : Int32)) hX dX10_goal_12 ci_0 ?_
    refine j_goto (pc := 13) hX 32 dX10_goal_13 (by decide) ?_
    exact j_iret (pc := 32) hX rfl dX10_goal_32
theorem mX10_goal (l : Launch) (E : jE) (hI : jInj (gM E)) (fu : Nat)  (x1 : Int32) (x2 : Int32) (M : Mem) : jMet l (gM E) yX10_goal cX10_goal 3 (some .int) rX10_goal [.ref (gad (gM E) 0), .int x1, .int x2] M (pX10_goal fu  x1 x2 M) :=
  j_entry hI (by decide +kernel) (Nat.le_of_ble_eq_true rfl) rfl (fun X _ hX => wX10_goal hX fu   x1 x2 M)
theorem qX10_nextOn : jYv yX10_nextOn cX10_nextOn 4 (some .int) 2 := ⟨tw_1154, tw_44, tw_72, tw_1155, ⟨by decide +kernel, by decide +kernel, by decide +kernel⟩⟩
abbrev rX10_nextOn : Room := { frames := 0, cells := 0, slots := 0, locals := 0 }
def uX10_nextOn : jM := (cX10_nextOn, 4, RX10, (some .int), rX10_nextOn)
def pX10_nextOn_85 (fu : Nat) (x1 : Int32) (x2 : Int32) (x3 : Int32) (M : Mem) (c2 : Int32 → Int32 → Int32 → Mem → Res) : Res :=
  c2 x1 x2 (x3 + (1 : Int32)) M
set_option maxRecDepth 100000 in
theorem wX10_nextOn_85 {E : jE} {X : jC} (hX : jOk X uX10_nextOn (gM E)) (fu : Nat)  (x1 : Int32) (x2 : Int32) (x3 : Int32) (M : Mem) (c2 : Int32 → Int32 → Int32 → Mem → Res) (hc2 : ∀ (x1 : Int32) (x2 : Int32) (x3 : Int32) (M : Mem), J X uX10_nextOn (gM E) 2 [(0, .ref (gad (gM E) 0)), (1, .int x1), (2, .int x2), (3, .int x3)] [] M (c2 x1 x2 x3 M)) : J X uX10_nextOn (gM E) 85 [(0, .ref (gad (gM E) 0)), (1, .int x1), (2, .int x2), (3, .int x3)] [] M (pX10_nextOn_85 fu  x1 x2 x3 M c2) := by
  unfold pX10_nextOn_85
  refine j_iinc (pc := 85) (v := (x3 + (1 : Int32))) (lv' := [(3, .int (x3 + (1 : Int32))), (0, .ref (gad (gM E) 0)), (1, .int x1), (2, .int x2)]) hX 3 dX10_nextOn_85 rfl (by rw [ci_1]) (jb rfl) rfl ?_
  refine j_goto (pc := 88) hX 2 dX10_nextOn_88 (by decide) ?_
  exact j_sub [1, 2, 3, 0] rfl (hc2 x1 x2 (x3 + (1 : Int32)) M)
def pX10_nextOn_2b (fu : Nat) (x1 : Int32) (x2 : Int32) (x3 : Int32) (M : Mem) (c2 : Int32 → Int32 → Int32 → Mem → Res) : Res :=
  if (M 0 0) ≤ x3 then (
    some ((-4 : Int32), M))
  else
  if x1 = x2 then (
    pX10_nextOn_85 fu  x1 x2 x3 M c2)
  else
  ld M 1 64 (((8 : Int32) * x1) + x3) fun v1 =>
  if v1 ≤ 0 then (
    pX10_nextOn_85 fu  x1 x2 x3 M c2)
  else
  ld M 2 64 (((8 : Int32) * x1) + x2) fun v2 =>
  if (9999 : Int32) ≤ v2 then (
    pX10_nextOn_85 fu  x1 x2 x3 M c2)
  else
  ld M 1 64 (((8 : Int32) * x1) + x3) fun v3 =>
  ld M 2 64 (((8 : Int32) * x3) + x2) fun v4 =>
  ld M 2 64 (((8 : Int32) * x1) + x2) fun v5 =>
  if (v3 + v4) = v5 then (
    some (x3, M))
  else
  pX10_nextOn_85 fu  x1 x2 x3 M c2
set_option maxRecDepth 100000 in
theorem wX10_nextOn_2b {E : jE} {X : jC} (hX : jOk X uX10_nextOn (gM E)) (fu : Nat)  (x1 : Int32) (x2 : Int32) (x3 : Int32) (M : Mem) (c2 : Int32 → Int32 → Int32 → Mem → Res) (hc2 : ∀ (x1 : Int32) (x2 : Int32) (x3 : Int32) (M : Mem), J X uX10_nextOn (gM E) 2 [(0, .ref (gad (gM E) 0)), (1, .int x1), (2, .int x2), (3, .int x3)] [] M (c2 x1 x2 x3 M)) : J X uX10_nextOn (gM E) 2 [(0, .ref (gad (gM E) 0)), (1, .int x1), (2, .int x2), (3, .int x3)] [] M (pX10_nextOn_2b fu  x1 x2 x3 M c2) := by
  unfold pX10_nextOn_2b
  refine j_iload_n (pc := 2) hX 3 dX10_nextOn_2 rfl rfl ?_
  refine j_aload_n (pc := 3) hX 0 dX10_nextOn_3 rfl rfl ?_
  refine j_getI (pc := 4) hX (jb rfl) rfl (ci := 9) (C := RX10) (T := TX10) (N := 30) rfl (jb rfl) inX10 (j := 0) (jb rfl) rfl tw_920 dX10_nextOn_4 ?_
  refine j_icmp_ge (pc := 7) hX 91 dX10_nextOn_7 (by decide) ?_ ?_
  · refine j_bipush (pc := 91) (v := (-4 : Int32)) hX dX10_nextOn_91 cb_m4 ?_
    exact j_iret (pc := 93) hX rfl dX10_nextOn_93
  · refine j_iload_n (pc := 10) hX 1 dX10_nextOn_10 rfl rfl ?_
    refine j_iload_n (pc := 11) hX 2 dX10_nextOn_11 rfl rfl ?_
    refine j_icmp_eq (pc := 12) hX 85 dX10_nextOn_12 (by decide) ?_ ?_
    · exact j_sub [0, 1, 2, 3] rfl (wX10_nextOn_85 hX fu   x1 x2 x3 M c2 hc2)
    · refine j_aload_n (pc := 15) hX 0 dX10_nextOn_15 rfl rfl ?_
      refine j_getR (pc := 16) (t := 1) hX (jb rfl) rfl (ci := 9) (C := RX10) (T := TX10) (N := 30) rfl (jb rfl) inX10 (j := 1) (jb rfl) rfl tw_921 dX10_nextOn_16 ?_
      refine j_bipush (pc := 19) (v := (8 : Int32)) hX dX10_nextOn_19 cb_8 ?_
      refine j_iload_n (pc := 21) hX 1 dX10_nextOn_21 rfl rfl ?_
      refine j_imul (pc := 22) hX dX10_nextOn_22 ?_
      refine j_iload_n (pc := 23) hX 3 dX10_nextOn_23 rfl rfl ?_
      refine j_iadd (pc := 24) hX dX10_nextOn_24 ?_
      refine j_iald (pc := 25) hX (jb rfl) rfl rfl dX10_nextOn_25 (fun v1 => ?_)
      refine j_if_le (pc := 26) hX 85 dX10_nextOn_26 (by decide) ?_ ?_
      · exact j_sub [0, 1, 2, 3] rfl (wX10_nextOn_85 hX fu   x1 x2 x3 M c2 hc2)
      · refine j_aload_n (pc := 29) hX 0 dX10_nextOn_29 rfl rfl ?_
        refine j_getR (pc := 30) (t := 2) hX (jb rfl) rfl (ci := 9) (C := RX10) (T := TX10) (N := 30) rfl (jb rfl) inX10 (j := 2) (jb rfl) rfl tw_922 dX10_nextOn_30 ?_
        refine j_bipush (pc := 33) (v := (8 : Int32)) hX dX10_nextOn_33 cb_8 ?_
        refine j_iload_n (pc := 35) hX 1 dX10_nextOn_35 rfl rfl ?_
        refine j_imul (pc := 36) hX dX10_nextOn_36 ?_
        refine j_iload_n (pc := 37) hX 2 dX10_nextOn_37 rfl rfl ?_
        refine j_iadd (pc := 38) hX dX10_nextOn_38 ?_
        refine j_iald (pc := 39) hX (jb rfl) rfl rfl dX10_nextOn_39 (fun v2 => ?_)
        refine j_sipush (pc := 40) (v := (9999 : Int32)) hX dX10_nextOn_40 cs_9999 ?_
        refine j_icmp_ge (pc := 43) hX 85 dX10_nextOn_43 (by decide) ?_ ?_
        · exact j_sub [0, 1, 2, 3] rfl (wX10_nextOn_85 hX fu   x1 x2 x3 M c2 hc2)
        · refine j_aload_n (pc := 46) hX 0 dX10_nextOn_46 rfl rfl ?_
          refine j_getR (pc := 47) (t := 1) hX (jb rfl) rfl (ci := 9) (C := RX10) (T := TX10) (N := 30) rfl (jb rfl) inX10 (j := 1) (jb rfl) rfl tw_921 dX10_nextOn_47 ?_
          refine j_bipush (pc := 50) (v := (8 : Int32)) hX dX10_nextOn_50 cb_8 ?_
          refine j_iload_n (pc := 52) hX 1 dX10_nextOn_52 rfl rfl ?_
          refine j_imul (pc := 53) hX dX10_nextOn_53 ?_
          refine j_iload_n (pc := 54) hX 3 dX10_nextOn_54 rfl rfl ?_
          refine j_iadd (pc := 55) hX dX10_nextOn_55 ?_
          refine j_iald (pc := 56) hX (jb rfl) rfl rfl dX10_nextOn_56 (fun v3 => ?_)
          refine j_aload_n (pc := 57) hX 0 dX10_nextOn_57 rfl rfl ?_
          refine j_getR (pc := 58) (t := 2) hX (jb rfl) rfl (ci := 9) (C := RX10) (T := TX10) (N := 30) rfl (jb rfl) inX10 (j := 2) (jb rfl) rfl tw_922 dX10_nextOn_58 ?_
          refine j_bipush (pc := 61) (v := (8 : Int32)) hX dX10_nextOn_61 cb_8 ?_
          refine j_iload_n (pc := 63) hX 3 dX10_nextOn_63 rfl rfl ?_
          refine j_imul (pc := 64) hX dX10_nextOn_64 ?_
          refine j_iload_n (pc := 65) hX 2 dX10_nextOn_65 rfl rfl ?_
          refine j_iadd (pc := 66) hX dX10_nextOn_66 ?_
          refine j_iald (pc := 67) hX (jb rfl) rfl rfl dX10_nextOn_67 (fun v4 => ?_)
          refine j_iadd (pc := 68) hX dX10_nextOn_68 ?_
          refine j_aload_n (pc := 69) hX 0 dX10_nextOn_69 rfl rfl ?_
          refine j_getR (pc := 70) (t := 2) hX (jb rfl) rfl (ci := 9) (C := RX10) (T := TX10) (N := 30) rfl (jb rfl) inX10 (j := 2) (jb rfl) rfl tw_922 dX10_nextOn_70 ?_
          refine j_bipush (pc := 73) (v := (8 : Int32)) hX dX10_nextOn_73 cb_8 ?_
          refine j_iload_n (pc := 75) hX 1 dX10_nextOn_75 rfl rfl ?_
          refine j_imul (pc := 76) hX dX10_nextOn_76 ?_
          refine j_iload_n (pc := 77) hX 2 dX10_nextOn_77 rfl rfl ?_
          refine j_iadd (pc := 78) hX dX10_nextOn_78 ?_
          refine j_iald (pc := 79) hX (jb rfl) rfl rfl dX10_nextOn_79 (fun v5 => ?_)
          refine j_icmp_ne (pc := 80) hX 85 dX10_nextOn_80 (by decide) ?_ ?_
          · exact j_sub [0, 1, 2, 3] rfl (wX10_nextOn_85 hX fu   x1 x2 x3 M c2 hc2)
          · refine j_iload_n (pc := 83) hX 3 dX10_nextOn_83 rfl rfl ?_
            exact j_iret (pc := 84) hX rfl dX10_nextOn_84
def pX10_nextOn_2 (fu : Nat)  : Nat → Int32 → Int32 → Int32 → Mem → Res
  | 0, _, _, _, _ => none
  | n + 1, x1, x2, x3, M => pX10_nextOn_2b fu  x1 x2 x3 M (pX10_nextOn_2 fu   n)
theorem wX10_nextOn_2 {E : jE} {X : jC} (hX : jOk X uX10_nextOn (gM E)) (fu : Nat)    : ∀ (n : Nat) (x1 : Int32) (x2 : Int32) (x3 : Int32) (M : Mem), J X uX10_nextOn (gM E) 2 [(0, .ref (gad (gM E) 0)), (1, .int x1), (2, .int x2), (3, .int x3)] [] M (pX10_nextOn_2 fu   n x1 x2 x3 M) := by
  intro n
  induction n with
  | zero => intro x1 x2 x3 M; exact j_none
  | succ n ih => intro x1 x2 x3 M; exact wX10_nextOn_2b hX fu   x1 x2 x3 M (pX10_nextOn_2 fu   n) ih
def pX10_nextOn (fu : Nat) (x1 : Int32) (x2 : Int32) (M : Mem) : Res :=
  pX10_nextOn_2 fu
    fu x1 x2 (0 : Int32) M
set_option maxRecDepth 100000 in
theorem wX10_nextOn {E : jE} {X : jC} (hX : jOk X uX10_nextOn (gM E)) (fu : Nat)  (x1 : Int32) (x2 : Int32) (M : Mem) : J X uX10_nextOn (gM E) 0 [(0, .ref (gad (gM E) 0)), (1, .int x1), (2, .int x2)] [] M (pX10_nextOn fu  x1 x2 M) := by
  unfold pX10_nextOn
  refine j_iconst (pc := 0) (v := (0 : Int32)) hX dX10_nextOn_0 ci_0 ?_
  refine j_istore_n (pc := 1) (lv' := [(3, .int (0 : Int32)), (0, .ref (gad (gM E) 0)), (1, .int x1), (2, .int x2)]) hX dX10_nextOn_1 rfl (jb rfl) rfl ?_
  refine j_sub [1, 2, 3, 0] rfl (wX10_nextOn_2 hX fu     fu x1 x2 (0 : Int32) M)
theorem mX10_nextOn (l : Launch) (E : jE) (hI : jInj (gM E)) (fu : Nat)  (x1 : Int32) (x2 : Int32) (M : Mem) : jMet l (gM E) yX10_nextOn cX10_nextOn 4 (some .int) rX10_nextOn [.ref (gad (gM E) 0), .int x1, .int x2] M (pX10_nextOn fu  x1 x2 M) :=
  j_entry hI (by decide +kernel) (Nat.le_of_ble_eq_true rfl) rfl (fun X _ hX => wX10_nextOn hX fu   x1 x2 M)
theorem qX10_settlesAt : jYv yX10_settlesAt cX10_settlesAt 3 none 2 := ⟨tw_1150, tw_43, tw_72, tw_1151, ⟨by decide +kernel, by decide +kernel, by decide +kernel⟩⟩
abbrev rX10_settlesAt : Room := { frames := 0, cells := 0, slots := 0, locals := 0 }
def uX10_settlesAt : jM := (cX10_settlesAt, 3, RX10, none, rX10_settlesAt)
def pX10_settlesAt_61 (fu : Nat) (s0 : Int32) (s1 : Int32) (M : Mem)  : Res :=
  sto M 12 768 s1 s0 fun M5 =>
  some (0, M5)
set_option maxRecDepth 100000 in
theorem wX10_settlesAt_61 {E : jE} {X : jC} (hX : jOk X uX10_settlesAt (gM E)) (fu : Nat)  (s0 : Int32) (s1 : Int32) (M : Mem)   : J X uX10_settlesAt (gM E) 61 [] [.int s0, .int s1, .ref (gad (gM E) 12)] M (pX10_settlesAt_61 fu  s0 s1 M ) := by
  unfold pX10_settlesAt_61
  refine j_iast (pc := 61) hX (jb rfl) rfl rfl dX10_settlesAt_61 (fun M5 => ?_)
  exact j_vret (pc := 62) hX rfl dX10_settlesAt_62
def pX10_settlesAt (fu : Nat) (x1 : Int32) (x2 : Int32) (M : Mem) : Res :=
  sto M 12 768 ((x1 + (10 : Int32)) + x2) (-4 : Int32) fun M1 =>
  sto M1 12 768 ((x1 + (15 : Int32)) + x2) (0 : Int32) fun M2 =>
  sto M2 12 768 ((x1 + (20 : Int32)) + x2) (0 : Int32) fun M3 =>
  ld M3 12 768 (x1 + x2) fun v4 =>
  if v4 = (3 : Int32) then (
    pX10_settlesAt_61 fu  (0 : Int32) (x1 + x2) M3 )
  else
  pX10_settlesAt_61 fu  (2 : Int32) (x1 + x2) M3 
set_option maxRecDepth 100000 in
theorem wX10_settlesAt {E : jE} {X : jC} (hX : jOk X uX10_settlesAt (gM E)) (fu : Nat)  (x1 : Int32) (x2 : Int32) (M : Mem) : J X uX10_settlesAt (gM E) 0 [(0, .ref (gad (gM E) 0)), (1, .int x1), (2, .int x2)] [] M (pX10_settlesAt fu  x1 x2 M) := by
  unfold pX10_settlesAt
  refine j_aload_n (pc := 0) hX 0 dX10_settlesAt_0 rfl rfl ?_
  refine j_getR (pc := 1) (t := 12) hX (jb rfl) rfl (ci := 9) (C := RX10) (T := TX10) (N := 30) rfl (jb rfl) inX10 (j := 19) (jb rfl) rfl tw_939 dX10_settlesAt_1 ?_
  refine j_iload_n (pc := 4) hX 1 dX10_settlesAt_4 rfl rfl ?_
  refine j_bipush (pc := 5) (v := (10 : Int32)) hX dX10_settlesAt_5 cb_10 ?_
  refine j_iadd (pc := 7) hX dX10_settlesAt_7 ?_
  refine j_iload_n (pc := 8) hX 2 dX10_settlesAt_8 rfl rfl ?_
  refine j_iadd (pc := 9) hX dX10_settlesAt_9 ?_
  refine j_bipush (pc := 10) (v := (-4 : Int32)) hX dX10_settlesAt_10 cb_m4 ?_
  refine j_iast (pc := 12) hX (jb rfl) rfl rfl dX10_settlesAt_12 (fun M1 => ?_)
  refine j_aload_n (pc := 13) hX 0 dX10_settlesAt_13 rfl rfl ?_
  refine j_getR (pc := 14) (t := 12) hX (jb rfl) rfl (ci := 9) (C := RX10) (T := TX10) (N := 30) rfl (jb rfl) inX10 (j := 19) (jb rfl) rfl tw_939 dX10_settlesAt_14 ?_
  refine j_iload_n (pc := 17) hX 1 dX10_settlesAt_17 rfl rfl ?_
  refine j_bipush (pc := 18) (v := (15 : Int32)) hX dX10_settlesAt_18 cb_15 ?_
  refine j_iadd (pc := 20) hX dX10_settlesAt_20 ?_
  refine j_iload_n (pc := 21) hX 2 dX10_settlesAt_21 rfl rfl ?_
  refine j_iadd (pc := 22) hX dX10_settlesAt_22 ?_
  refine j_iconst (pc := 23) (v := (0 : Int32)) hX dX10_settlesAt_23 ci_0 ?_
  refine j_iast (pc := 24) hX (jb rfl) rfl rfl dX10_settlesAt_24 (fun M2 => ?_)
  refine j_aload_n (pc := 25) hX 0 dX10_settlesAt_25 rfl rfl ?_
  refine j_getR (pc := 26) (t := 12) hX (jb rfl) rfl (ci := 9) (C := RX10) (T := TX10) (N := 30) rfl (jb rfl) inX10 (j := 19) (jb rfl) rfl tw_939 dX10_settlesAt_26 ?_
  refine j_iload_n (pc := 29) hX 1 dX10_settlesAt_29 rfl rfl ?_
  refine j_bipush (pc := 30) (v := (20 : Int32)) hX dX10_settlesAt_30 cb_20 ?_
  refine j_iadd (pc := 32) hX dX10_settlesAt_32 ?_
  refine j_iload_n (pc := 33) hX 2 dX10_settlesAt_33 rfl rfl ?_
  refine j_iadd (pc := 34) hX dX10_settlesAt_34 ?_
  refine j_iconst (pc := 35) (v := (0 : Int32)) hX dX10_settlesAt_35 ci_0 ?_
  refine j_iast (pc := 36) hX (jb rfl) rfl rfl dX10_settlesAt_36 (fun M3 => ?_)
  refine j_aload_n (pc := 37) hX 0 dX10_settlesAt_37 rfl rfl ?_
  refine j_getR (pc := 38) (t := 12) hX (jb rfl) rfl (ci := 9) (C := RX10) (T := TX10) (N := 30) rfl (jb rfl) inX10 (j := 19) (jb rfl) rfl tw_939 dX10_settlesAt_38 ?_
  refine j_iload_n (pc := 41) hX 1 dX10_settlesAt_41 rfl rfl ?_
  refine j_iload_n (pc := 42) hX 2 dX10_settlesAt_42 rfl rfl ?_
  refine j_iadd (pc := 43) hX dX10_settlesAt_43 ?_
  refine j_aload_n (pc := 44) hX 0 dX10_settlesAt_44 rfl rfl ?_
  refine j_getR (pc := 45) (t := 12) hX (jb rfl) rfl (ci := 9) (C := RX10) (T := TX10) (N := 30) rfl (jb rfl) inX10 (j := 19) (jb rfl) rfl tw_939 dX10_settlesAt_45 ?_
  refine j_iload_n (pc := 48) hX 1 dX10_settlesAt_48 rfl rfl ?_
  refine j_iload_n (pc := 49) hX 2 dX10_settlesAt_49 rfl rfl ?_
  refine j_iadd (pc := 50) hX dX10_settlesAt_50 ?_
  refine j_iald (pc := 51) hX (jb rfl) rfl rfl dX10_settlesAt_51 (fun v4 => ?_)
  refine j_iconst (pc := 52) (v := (3 : Int32)) hX dX10_settlesAt_52 ci_3 ?_
  refine j_icmp_ne (pc := 53) hX 60 dX10_settlesAt_53 (by decide) ?_ ?_
  · refine j_iconst (pc := 60) (v := (2 : Int32)) hX dX10_settlesAt_60 ci_2 ?_
    exact j_sub [] rfl (wX10_settlesAt_61 hX fu   (2 : Int32) (x1 + x2) M3  )
  · refine j_iconst (pc := 56) (v := (0 : Int32)) hX dX10_settlesAt_56 ci_0 ?_
    refine j_goto (pc := 57) hX 61 dX10_settlesAt_57 (by decide) ?_
    exact j_sub [] rfl (wX10_settlesAt_61 hX fu   (0 : Int32) (x1 + x2) M3  )
theorem mX10_settlesAt (l : Launch) (E : jE) (hI : jInj (gM E)) (fu : Nat)  (x1 : Int32) (x2 : Int32) (M : Mem) : jMet l (gM E) yX10_settlesAt cX10_settlesAt 3 none rX10_settlesAt [.ref (gad (gM E) 0), .int x1, .int x2] M (pX10_settlesAt fu  x1 x2 M) :=
  j_entry hI (by decide +kernel) (Nat.le_of_ble_eq_true rfl) rfl (fun X _ hX => wX10_settlesAt hX fu   x1 x2 M)
theorem qX10_arrivesIn : jYv yX10_arrivesIn cX10_arrivesIn 5 none 2 := ⟨tw_1158, tw_45, tw_72, tw_1159, ⟨by decide +kernel, by decide +kernel, by decide +kernel⟩⟩
abbrev rX10_arrivesIn : Room := { frames := 1, cells := 0, slots := 0, locals := 22 }
def uX10_arrivesIn : jM := (cX10_arrivesIn, 5, RX10, none, rX10_arrivesIn)
def pX10_arrivesIn_144 (fu : Nat) (x1 : Int32) (x2 : Int32) (x3 : Int32) (x4 : Int32) (M : Mem)  : Res :=
  sto M 12 768 ((x1 + (20 : Int32)) + x2) x4 fun M7 =>
  bI (pX10_goal fu x1 x2 M7) fun r9 M8 =>
  if x3 = r9 then (
    bV (pX10_settlesAt fu x1 x2 M8) fun M10 =>
    some (0, M10))
  else
  some (0, M8)
set_option maxRecDepth 100000 in
theorem wX10_arrivesIn_144 {E : jE} {X : jC} (hX : jOk X uX10_arrivesIn (gM E)) (fu : Nat)  (x1 : Int32) (x2 : Int32) (x3 : Int32) (x4 : Int32) (M : Mem)   : J X uX10_arrivesIn (gM E) 144 [(0, .ref (gad (gM E) 0)), (1, .int x1), (2, .int x2), (3, .int x3), (4, .int x4)] [] M (pX10_arrivesIn_144 fu  x1 x2 x3 x4 M ) := by
  unfold pX10_arrivesIn_144
  refine j_aload_n (pc := 144) hX 0 dX10_arrivesIn_144 rfl rfl ?_
  refine j_getR (pc := 145) (t := 12) hX (jb rfl) rfl (ci := 9) (C := RX10) (T := TX10) (N := 30) rfl (jb rfl) inX10 (j := 19) (jb rfl) rfl tw_939 dX10_arrivesIn_145 ?_
  refine j_iload_n (pc := 148) hX 1 dX10_arrivesIn_148 rfl rfl ?_
  refine j_bipush (pc := 149) (v := (20 : Int32)) hX dX10_arrivesIn_149 cb_20 ?_
  refine j_iadd (pc := 151) hX dX10_arrivesIn_151 ?_
  refine j_iload_n (pc := 152) hX 2 dX10_arrivesIn_152 rfl rfl ?_
  refine j_iadd (pc := 153) hX dX10_arrivesIn_153 ?_
  refine j_iload (pc := 154) hX 4 dX10_arrivesIn_154 rfl ?_
  refine j_iast (pc := 156) hX (jb rfl) rfl rfl dX10_arrivesIn_156 (fun M7 => ?_)
  refine j_iload_n (pc := 157) hX 3 dX10_arrivesIn_157 rfl rfl ?_
  refine j_aload_n (pc := 158) hX 0 dX10_arrivesIn_158 rfl rfl ?_
  refine j_iload_n (pc := 159) hX 1 dX10_arrivesIn_159 rfl rfl ?_
  refine j_iload_n (pc := 160) hX 2 dX10_arrivesIn_160 rfl rfl ?_
  refine j_callV (pc := 161) hX [.int x1, .int x2] (mX10_goal _ E hX.2.2.2.2.2.2.2.2.1 fu   x1 x2 M7) qX10_goal tw_1144 (jb rfl) rfl (ci := 9) (T := TX10) (N := 30) rfl (jb rfl) rfl ⟨rfl, rfl⟩ ⟨(Nat.le_of_ble_eq_true rfl), (Nat.le_of_ble_eq_true rfl)⟩ (Nat.le_of_ble_eq_true rfl) dX10_arrivesIn_161 (fun _ => rfl) rfl (fun r9 M8 => ?_)
  refine j_icmp_ne (pc := 164) hX 173 dX10_arrivesIn_164 (by decide) ?_ ?_
  · exact j_vret (pc := 173) hX rfl dX10_arrivesIn_173
  · refine j_aload_n (pc := 167) hX 0 dX10_arrivesIn_167 rfl rfl ?_
    refine j_iload_n (pc := 168) hX 1 dX10_arrivesIn_168 rfl rfl ?_
    refine j_iload_n (pc := 169) hX 2 dX10_arrivesIn_169 rfl rfl ?_
    refine j_callVv (pc := 170) hX [.int x1, .int x2] (mX10_settlesAt _ E hX.2.2.2.2.2.2.2.2.1 fu   x1 x2 M8) qX10_settlesAt tw_1148 (jb rfl) rfl (ci := 9) (T := TX10) (N := 30) rfl (jb rfl) rfl ⟨rfl, rfl⟩ ⟨(Nat.le_of_ble_eq_true rfl), (Nat.le_of_ble_eq_true rfl)⟩ (Nat.le_of_ble_eq_true rfl) dX10_arrivesIn_170 rfl (fun M10 => ?_)
    exact j_vret (pc := 173) hX rfl dX10_arrivesIn_173
def pX10_arrivesIn_126 (fu : Nat) (x1 : Int32) (x2 : Int32) (x3 : Int32) (x4 : Int32) (M : Mem)  : Res :=
  ld M 12 768 ((x1 + (50 : Int32)) + x2) fun v12 =>
  sto M 12 768 ((x1 + (50 : Int32)) + x2) (v12 + (1 : Int32)) fun M13 =>
  pX10_arrivesIn_144 fu  x1 x2 x3 (x4 + (2 : Int32)) M13 
set_option maxRecDepth 100000 in
theorem wX10_arrivesIn_126 {E : jE} {X : jC} (hX : jOk X uX10_arrivesIn (gM E)) (fu : Nat)  (x1 : Int32) (x2 : Int32) (x3 : Int32) (x4 : Int32) (M : Mem)   : J X uX10_arrivesIn (gM E) 126 [(0, .ref (gad (gM E) 0)), (1, .int x1), (2, .int x2), (3, .int x3), (4, .int x4)] [] M (pX10_arrivesIn_126 fu  x1 x2 x3 x4 M ) := by
  unfold pX10_arrivesIn_126
  refine j_aload_n (pc := 126) hX 0 dX10_arrivesIn_126 rfl rfl ?_
  refine j_getR (pc := 127) (t := 12) hX (jb rfl) rfl (ci := 9) (C := RX10) (T := TX10) (N := 30) rfl (jb rfl) inX10 (j := 19) (jb rfl) rfl tw_939 dX10_arrivesIn_127 ?_
  refine j_iload_n (pc := 130) hX 1 dX10_arrivesIn_130 rfl rfl ?_
  refine j_bipush (pc := 131) (v := (50 : Int32)) hX dX10_arrivesIn_131 cb_50 ?_
  refine j_iadd (pc := 133) hX dX10_arrivesIn_133 ?_
  refine j_iload_n (pc := 134) hX 2 dX10_arrivesIn_134 rfl rfl ?_
  refine j_iadd (pc := 135) hX dX10_arrivesIn_135 ?_
  refine j_dup2 (pc := 136) hX dX10_arrivesIn_136 rfl rfl ?_
  refine j_iald (pc := 137) hX (jb rfl) rfl rfl dX10_arrivesIn_137 (fun v12 => ?_)
  refine j_iconst (pc := 138) (v := (1 : Int32)) hX dX10_arrivesIn_138 ci_1 ?_
  refine j_iadd (pc := 139) hX dX10_arrivesIn_139 ?_
  refine j_iast (pc := 140) hX (jb rfl) rfl rfl dX10_arrivesIn_140 (fun M13 => ?_)
  refine j_iinc (pc := 141) (v := (x4 + (2 : Int32))) (lv' := [(4, .int (x4 + (2 : Int32))), (0, .ref (gad (gM E) 0)), (1, .int x1), (2, .int x2), (3, .int x3)]) hX 4 dX10_arrivesIn_141 rfl (by rw [ci_2]) (jb rfl) rfl ?_
  exact j_sub [1, 2, 3, 4, 0] rfl (wX10_arrivesIn_144 hX fu   x1 x2 x3 (x4 + (2 : Int32)) M13  )
def pX10_arrivesIn_96 (fu : Nat) (x1 : Int32) (x2 : Int32) (x3 : Int32) (x4 : Int32) (M : Mem)  : Res :=
  bI (pX10_has fu (M 0 3) x3 M) fun r6 M5 =>
  if r6 = 0 then (
    pX10_arrivesIn_144 fu  x1 x2 x3 x4 M5 )
  else
  ld M5 5 5 x2 fun v11 =>
  if v11 = 0 then (
    pX10_arrivesIn_126 fu  x1 x2 x3 x4 M5 )
  else
  ld M5 5 5 x2 fun v14 =>
  if v14 = (2 : Int32) then (
    pX10_arrivesIn_126 fu  x1 x2 x3 x4 M5 )
  else
  pX10_arrivesIn_144 fu  x1 x2 x3 x4 M5 
set_option maxRecDepth 100000 in
theorem wX10_arrivesIn_96 {E : jE} {X : jC} (hX : jOk X uX10_arrivesIn (gM E)) (fu : Nat)  (x1 : Int32) (x2 : Int32) (x3 : Int32) (x4 : Int32) (M : Mem)   : J X uX10_arrivesIn (gM E) 96 [(0, .ref (gad (gM E) 0)), (1, .int x1), (2, .int x2), (3, .int x3), (4, .int x4)] [] M (pX10_arrivesIn_96 fu  x1 x2 x3 x4 M ) := by
  unfold pX10_arrivesIn_96
  refine j_aload_n (pc := 96) hX 0 dX10_arrivesIn_96 rfl rfl ?_
  refine j_getI (pc := 97) hX (jb rfl) rfl (ci := 9) (C := RX10) (T := TX10) (N := 30) rfl (jb rfl) inX10 (j := 3) (jb rfl) rfl tw_923 dX10_arrivesIn_97 ?_
  refine j_iload_n (pc := 100) hX 3 dX10_arrivesIn_100 rfl rfl ?_
  refine j_callS (pc := 101) hX [.int (M 0 3), .int x3] (mX10_has _ E hX.2.2.2.2.2.2.2.2.1 fu   (M 0 3) x3 M) qX10_has tw_1160 rfl ⟨rfl, rfl⟩ ⟨(Nat.le_of_ble_eq_true rfl), (Nat.le_of_ble_eq_true rfl)⟩ (Nat.le_of_ble_eq_true rfl) dX10_arrivesIn_101 (fun _ => rfl) rfl (fun r6 M5 => ?_)
  refine j_if_eq (pc := 104) hX 144 dX10_arrivesIn_104 (by decide) ?_ ?_
  · exact j_sub [0, 1, 2, 3, 4] rfl (wX10_arrivesIn_144 hX fu   x1 x2 x3 x4 M5  )
  · refine j_aload_n (pc := 107) hX 0 dX10_arrivesIn_107 rfl rfl ?_
    refine j_getR (pc := 108) (t := 5) hX (jb rfl) rfl (ci := 9) (C := RX10) (T := TX10) (N := 30) rfl (jb rfl) inX10 (j := 8) (jb rfl) rfl tw_928 dX10_arrivesIn_108 ?_
    refine j_iload_n (pc := 111) hX 2 dX10_arrivesIn_111 rfl rfl ?_
    refine j_iald (pc := 112) hX (jb rfl) rfl rfl dX10_arrivesIn_112 (fun v11 => ?_)
    refine j_if_eq (pc := 113) hX 126 dX10_arrivesIn_113 (by decide) ?_ ?_
    · exact j_sub [0, 1, 2, 3, 4] rfl (wX10_arrivesIn_126 hX fu   x1 x2 x3 x4 M5  )
    · refine j_aload_n (pc := 116) hX 0 dX10_arrivesIn_116 rfl rfl ?_
      refine j_getR (pc := 117) (t := 5) hX (jb rfl) rfl (ci := 9) (C := RX10) (T := TX10) (N := 30) rfl (jb rfl) inX10 (j := 8) (jb rfl) rfl tw_928 dX10_arrivesIn_117 ?_
      refine j_iload_n (pc := 120) hX 2 dX10_arrivesIn_120 rfl rfl ?_
      refine j_iald (pc := 121) hX (jb rfl) rfl rfl dX10_arrivesIn_121 (fun v14 => ?_)
      refine j_iconst (pc := 122) (v := (2 : Int32)) hX dX10_arrivesIn_122 ci_2 ?_
      refine j_icmp_ne (pc := 123) hX 144 dX10_arrivesIn_123 (by decide) ?_ ?_
      · exact j_sub [0, 1, 2, 3, 4] rfl (wX10_arrivesIn_144 hX fu   x1 x2 x3 x4 M5  )
      · exact j_sub [0, 1, 2, 3, 4] rfl (wX10_arrivesIn_126 hX fu   x1 x2 x3 x4 M5  )
def pX10_arrivesIn (fu : Nat) (x1 : Int32) (x2 : Int32) (M : Mem) : Res :=
  ld M 12 768 ((x1 + (10 : Int32)) + x2) fun v1 =>
  sto M 12 768 ((x1 + (5 : Int32)) + x2) v1 fun M2 =>
  sto M2 12 768 ((x1 + (10 : Int32)) + x2) (-4 : Int32) fun M3 =>
  ld M3 12 768 ((x1 + (55 : Int32)) + v1) fun v4 =>
  if v4 ≤ 0 then (
    pX10_arrivesIn_96 fu  x1 x2 v1 (0 : Int32) M3 )
  else
  ld M3 5 5 x2 fun v15 =>
  if v15 = (3 : Int32) then (
    pX10_arrivesIn_96 fu  x1 x2 v1 (0 : Int32) M3 )
  else
  ld M3 12 768 ((x1 + (55 : Int32)) + v1) fun v16 =>
  sto M3 12 768 ((x1 + (55 : Int32)) + v1) (v16 - (1 : Int32)) fun M17 =>
  ld M17 12 768 ((x1 + (45 : Int32)) + x2) fun v18 =>
  sto M17 12 768 ((x1 + (45 : Int32)) + x2) (v18 + (1 : Int32)) fun M19 =>
  pX10_arrivesIn_96 fu  x1 x2 v1 ((0 : Int32) + (1 : Int32)) M19 
set_option maxRecDepth 100000 in
theorem wX10_arrivesIn {E : jE} {X : jC} (hX : jOk X uX10_arrivesIn (gM E)) (fu : Nat)  (x1 : Int32) (x2 : Int32) (M : Mem) : J X uX10_arrivesIn (gM E) 0 [(0, .ref (gad (gM E) 0)), (1, .int x1), (2, .int x2)] [] M (pX10_arrivesIn fu  x1 x2 M) := by
  unfold pX10_arrivesIn
  refine j_aload_n (pc := 0) hX 0 dX10_arrivesIn_0 rfl rfl ?_
  refine j_getR (pc := 1) (t := 12) hX (jb rfl) rfl (ci := 9) (C := RX10) (T := TX10) (N := 30) rfl (jb rfl) inX10 (j := 19) (jb rfl) rfl tw_939 dX10_arrivesIn_1 ?_
  refine j_iload_n (pc := 4) hX 1 dX10_arrivesIn_4 rfl rfl ?_
  refine j_bipush (pc := 5) (v := (10 : Int32)) hX dX10_arrivesIn_5 cb_10 ?_
  refine j_iadd (pc := 7) hX dX10_arrivesIn_7 ?_
  refine j_iload_n (pc := 8) hX 2 dX10_arrivesIn_8 rfl rfl ?_
  refine j_iadd (pc := 9) hX dX10_arrivesIn_9 ?_
  refine j_iald (pc := 10) hX (jb rfl) rfl rfl dX10_arrivesIn_10 (fun v1 => ?_)
  refine j_istore_n (pc := 11) (lv' := [(3, .int v1), (0, .ref (gad (gM E) 0)), (1, .int x1), (2, .int x2)]) hX dX10_arrivesIn_11 rfl (jb rfl) rfl ?_
  refine j_aload_n (pc := 12) hX 1 dX10_arrivesIn_12 rfl rfl ?_
  refine j_getR (pc := 13) (t := 12) hX (jb rfl) rfl (ci := 9) (C := RX10) (T := TX10) (N := 30) rfl (jb rfl) inX10 (j := 19) (jb rfl) rfl tw_939 dX10_arrivesIn_13 ?_
  refine j_iload_n (pc := 16) hX 2 dX10_arrivesIn_16 rfl rfl ?_
  refine j_iconst (pc := 17) (v := (5 : Int32)) hX dX10_arrivesIn_17 ci_5 ?_
  refine j_iadd (pc := 18) hX dX10_arrivesIn_18 ?_
  refine j_iload_n (pc := 19) hX 3 dX10_arrivesIn_19 rfl rfl ?_
  refine j_iadd (pc := 20) hX dX10_arrivesIn_20 ?_
  refine j_iload_n (pc := 21) hX 0 dX10_arrivesIn_21 rfl rfl ?_
  refine j_iast (pc := 22) hX (jb rfl) rfl rfl dX10_arrivesIn_22 (fun M2 => ?_)
  refine j_aload_n (pc := 23) hX 1 dX10_arrivesIn_23 rfl rfl ?_
  refine j_getR (pc := 24) (t := 12) hX (jb rfl) rfl (ci := 9) (C := RX10) (T := TX10) (N := 30) rfl (jb rfl) inX10 (j := 19) (jb rfl) rfl tw_939 dX10_arrivesIn_24 ?_
  refine j_iload_n (pc := 27) hX 2 dX10_arrivesIn_27 rfl rfl ?_
  refine j_bipush (pc := 28) (v := (10 : Int32)) hX dX10_arrivesIn_28 cb_10 ?_
  refine j_iadd (pc := 30) hX dX10_arrivesIn_30 ?_
  refine j_iload_n (pc := 31) hX 3 dX10_arrivesIn_31 rfl rfl ?_
  refine j_iadd (pc := 32) hX dX10_arrivesIn_32 ?_
  refine j_bipush (pc := 33) (v := (-4 : Int32)) hX dX10_arrivesIn_33 cb_m4 ?_
  refine j_iast (pc := 35) hX (jb rfl) rfl rfl dX10_arrivesIn_35 (fun M3 => ?_)
  refine j_iconst (pc := 36) (v := (0 : Int32)) hX dX10_arrivesIn_36 ci_0 ?_
  refine j_istore (pc := 37) (lv' := [(4, .int (0 : Int32)), (3, .int v1), (0, .ref (gad (gM E) 0)), (1, .int x1), (2, .int x2)]) hX dX10_arrivesIn_37 (jb rfl) rfl ?_
  refine j_aload_n (pc := 39) hX 2 dX10_arrivesIn_39 rfl rfl ?_
  refine j_getR (pc := 40) (t := 12) hX (jb rfl) rfl (ci := 9) (C := RX10) (T := TX10) (N := 30) rfl (jb rfl) inX10 (j := 19) (jb rfl) rfl tw_939 dX10_arrivesIn_40 ?_
  refine j_iload_n (pc := 43) hX 3 dX10_arrivesIn_43 rfl rfl ?_
  refine j_bipush (pc := 44) (v := (55 : Int32)) hX dX10_arrivesIn_44 cb_55 ?_
  refine j_iadd (pc := 46) hX dX10_arrivesIn_46 ?_
  refine j_iload_n (pc := 47) hX 1 dX10_arrivesIn_47 rfl rfl ?_
  refine j_iadd (pc := 48) hX dX10_arrivesIn_48 ?_
  refine j_iald (pc := 49) hX (jb rfl) rfl rfl dX10_arrivesIn_49 (fun v4 => ?_)
  refine j_if_le (pc := 50) hX 96 dX10_arrivesIn_50 (by decide) ?_ ?_
  · exact j_sub [2, 3, 4, 1, 0] rfl (wX10_arrivesIn_96 hX fu   x1 x2 v1 (0 : Int32) M3  )
  · refine j_aload_n (pc := 53) hX 2 dX10_arrivesIn_53 rfl rfl ?_
    refine j_getR (pc := 54) (t := 5) hX (jb rfl) rfl (ci := 9) (C := RX10) (T := TX10) (N := 30) rfl (jb rfl) inX10 (j := 8) (jb rfl) rfl tw_928 dX10_arrivesIn_54 ?_
    refine j_iload_n (pc := 57) hX 4 dX10_arrivesIn_57 rfl rfl ?_
    refine j_iald (pc := 58) hX (jb rfl) rfl rfl dX10_arrivesIn_58 (fun v15 => ?_)
    refine j_iconst (pc := 59) (v := (3 : Int32)) hX dX10_arrivesIn_59 ci_3 ?_
    refine j_icmp_eq (pc := 60) hX 96 dX10_arrivesIn_60 (by decide) ?_ ?_
    · exact j_sub [2, 3, 4, 1, 0] rfl (wX10_arrivesIn_96 hX fu   x1 x2 v1 (0 : Int32) M3  )
    · refine j_aload_n (pc := 63) hX 2 dX10_arrivesIn_63 rfl rfl ?_
      refine j_getR (pc := 64) (t := 12) hX (jb rfl) rfl (ci := 9) (C := RX10) (T := TX10) (N := 30) rfl (jb rfl) inX10 (j := 19) (jb rfl) rfl tw_939 dX10_arrivesIn_64 ?_
      refine j_iload_n (pc := 67) hX 3 dX10_arrivesIn_67 rfl rfl ?_
      refine j_bipush (pc := 68) (v := (55 : Int32)) hX dX10_arrivesIn_68 cb_55 ?_
      refine j_iadd (pc := 70) hX dX10_arrivesIn_70 ?_
      refine j_iload_n (pc := 71) hX 1 dX10_arrivesIn_71 rfl rfl ?_
      refine j_iadd (pc := 72) hX dX10_arrivesIn_72 ?_
      refine j_dup2 (pc := 73) hX dX10_arrivesIn_73 rfl rfl ?_
      refine j_iald (pc := 74) hX (jb rfl) rfl rfl dX10_arrivesIn_74 (fun v16 => ?_)
      refine j_iconst (pc := 75) (v := (1 : Int32)) hX dX10_arrivesIn_75 ci_1 ?_
      refine j_isub (pc := 76) hX dX10_arrivesIn_76 ?_
      refine j_iast (pc := 77) hX (jb rfl) rfl rfl dX10_arrivesIn_77 (fun M17 => ?_)
      refine j_aload_n (pc := 78) hX 2 dX10_arrivesIn_78 rfl rfl ?_
      refine j_getR (pc := 79) (t := 12) hX (jb rfl) rfl (ci := 9) (C := RX10) (T := TX10) (N := 30) rfl (jb rfl) inX10 (j := 19) (jb rfl) rfl tw_939 dX10_arrivesIn_79 ?_
      refine j_iload_n (pc := 82) hX 3 dX10_arrivesIn_82 rfl rfl ?_
      refine j_bipush (pc := 83) (v := (45 : Int32)) hX dX10_arrivesIn_83 cb_45 ?_
      refine j_iadd (pc := 85) hX dX10_arrivesIn_85 ?_
      refine j_iload_n (pc := 86) hX 4 dX10_arrivesIn_86 rfl rfl ?_
      refine j_iadd (pc := 87) hX dX10_arrivesIn_87 ?_
      refine j_dup2 (pc := 88) hX dX10_arrivesIn_88 rfl rfl ?_
      refine j_iald (pc := 89) hX (jb rfl) rfl rfl dX10_arrivesIn_89 (fun v18 => ?_)
      refine j_iconst (pc := 90) (v := (1 : Int32)) hX dX10_arrivesIn_90 ci_1 ?_
      refine j_iadd (pc := 91) hX dX10_arrivesIn_91 ?_
      refine j_iast (pc := 92) hX (jb rfl) rfl rfl dX10_arrivesIn_92 (fun M19 => ?_)
      refine j_iinc (pc := 93) (v := ((0 : Int32) + (1 : Int32))) (lv' := [(4, .int ((0 : Int32) + (1 : Int32))), (3, .int v1), (0, .ref (gad (gM E) 0)), (1, .int x1), (2, .int x2)]) hX 0 dX10_arrivesIn_93 rfl (by rw [ci_1]) (jb rfl) rfl ?_
      exact j_sub [2, 3, 4, 1, 0] rfl (wX10_arrivesIn_96 hX fu   x1 x2 v1 ((0 : Int32) + (1 : Int32)) M19  )
theorem mX10_arrivesIn (l : Launch) (E : jE) (hI : jInj (gM E)) (fu : Nat)  (x1 : Int32) (x2 : Int32) (M : Mem) : jMet l (gM E) yX10_arrivesIn cX10_arrivesIn 5 none rX10_arrivesIn [.ref (gad (gM E) 0), .int x1, .int x2] M (pX10_arrivesIn fu  x1 x2 M) :=
  j_entry hI (by decide +kernel) (Nat.le_of_ble_eq_true rfl) rfl (fun X _ hX => wX10_arrivesIn hX fu   x1 x2 M)
theorem qX10_goesOn : jYv yX10_goesOn cX10_goesOn 5 none 2 := ⟨tw_1142, tw_41, tw_72, tw_1143, ⟨by decide +kernel, by decide +kernel, by decide +kernel⟩⟩
abbrev rX10_goesOn : Room := { frames := 2, cells := 0, slots := 0, locals := 46 }
def uX10_goesOn : jM := (cX10_goesOn, 5, RX10, none, rX10_goesOn)
def pX10_goesOn_130 (fu : Nat) (x1 : Int32) (x2 : Int32) (M : Mem)  : Res :=
  ld M 12 768 ((x1 + (15 : Int32)) + x2) fun v3 =>
  sto M 12 768 ((x1 + (15 : Int32)) + x2) (v3 - (1 : Int32)) fun M4 =>
  ld M4 12 768 ((x1 + (15 : Int32)) + x2) fun v5 =>
  if v5 = 0 then (
    bV (pX10_arrivesIn fu x1 x2 M4) fun M6 =>
    some (0, M6))
  else
  some (0, M4)
set_option maxRecDepth 100000 in
theorem wX10_goesOn_130 {E : jE} {X : jC} (hX : jOk X uX10_goesOn (gM E)) (fu : Nat)  (x1 : Int32) (x2 : Int32) (M : Mem)   : J X uX10_goesOn (gM E) 130 [(0, .ref (gad (gM E) 0)), (1, .int x1), (2, .int x2)] [] M (pX10_goesOn_130 fu  x1 x2 M ) := by
  unfold pX10_goesOn_130
  refine j_aload_n (pc := 130) hX 0 dX10_goesOn_130 rfl rfl ?_
  refine j_getR (pc := 131) (t := 12) hX (jb rfl) rfl (ci := 9) (C := RX10) (T := TX10) (N := 30) rfl (jb rfl) inX10 (j := 19) (jb rfl) rfl tw_939 dX10_goesOn_131 ?_
  refine j_iload_n (pc := 134) hX 1 dX10_goesOn_134 rfl rfl ?_
  refine j_bipush (pc := 135) (v := (15 : Int32)) hX dX10_goesOn_135 cb_15 ?_
  refine j_iadd (pc := 137) hX dX10_goesOn_137 ?_
  refine j_iload_n (pc := 138) hX 2 dX10_goesOn_138 rfl rfl ?_
  refine j_iadd (pc := 139) hX dX10_goesOn_139 ?_
  refine j_dup2 (pc := 140) hX dX10_goesOn_140 rfl rfl ?_
  refine j_iald (pc := 141) hX (jb rfl) rfl rfl dX10_goesOn_141 (fun v3 => ?_)
  refine j_iconst (pc := 142) (v := (1 : Int32)) hX dX10_goesOn_142 ci_1 ?_
  refine j_isub (pc := 143) hX dX10_goesOn_143 ?_
  refine j_iast (pc := 144) hX (jb rfl) rfl rfl dX10_goesOn_144 (fun M4 => ?_)
  refine j_aload_n (pc := 145) hX 0 dX10_goesOn_145 rfl rfl ?_
  refine j_getR (pc := 146) (t := 12) hX (jb rfl) rfl (ci := 9) (C := RX10) (T := TX10) (N := 30) rfl (jb rfl) inX10 (j := 19) (jb rfl) rfl tw_939 dX10_goesOn_146 ?_
  refine j_iload_n (pc := 149) hX 1 dX10_goesOn_149 rfl rfl ?_
  refine j_bipush (pc := 150) (v := (15 : Int32)) hX dX10_goesOn_150 cb_15 ?_
  refine j_iadd (pc := 152) hX dX10_goesOn_152 ?_
  refine j_iload_n (pc := 153) hX 2 dX10_goesOn_153 rfl rfl ?_
  refine j_iadd (pc := 154) hX dX10_goesOn_154 ?_
  refine j_iald (pc := 155) hX (jb rfl) rfl rfl dX10_goesOn_155 (fun v5 => ?_)
  refine j_if_ne (pc := 156) hX 165 dX10_goesOn_156 (by decide) ?_ ?_
  · exact j_vret (pc := 165) hX rfl dX10_goesOn_165
  · refine j_aload_n (pc := 159) hX 0 dX10_goesOn_159 rfl rfl ?_
    refine j_iload_n (pc := 160) hX 1 dX10_goesOn_160 rfl rfl ?_
    refine j_iload_n (pc := 161) hX 2 dX10_goesOn_161 rfl rfl ?_
    refine j_callVv (pc := 162) hX [.int x1, .int x2] (mX10_arrivesIn _ E hX.2.2.2.2.2.2.2.2.1 fu   x1 x2 M4) qX10_arrivesIn tw_1156 (jb rfl) rfl (ci := 9) (T := TX10) (N := 30) rfl (jb rfl) rfl ⟨rfl, rfl⟩ ⟨(Nat.le_of_ble_eq_true rfl), (Nat.le_of_ble_eq_true rfl)⟩ (Nat.le_of_ble_eq_true rfl) dX10_goesOn_162 rfl (fun M6 => ?_)
    exact j_vret (pc := 165) hX rfl dX10_goesOn_165
def pX10_goesOn (fu : Nat) (x1 : Int32) (x2 : Int32) (M : Mem) : Res :=
  ld M 12 768 ((x1 + (20 : Int32)) + x2) fun v1 =>
  if v1 ≤ 0 then (
    ld M 12 768 ((x1 + (10 : Int32)) + x2) fun v2 =>
    if v2 = (-4 : Int32) then (
      ld M 12 768 ((x1 + (5 : Int32)) + x2) fun v7 =>
      bI (pX10_goal fu x1 x2 M) fun r9 M8 =>
      if v7 = r9 then (
        bV (pX10_settlesAt fu x1 x2 M8) fun M18 =>
        some (0, M18))
      else
      bI (pX10_goal fu x1 x2 M8) fun r11 M10 =>
      bI (pX10_nextOn fu v7 r11 M10) fun r13 M12 =>
      sto M12 12 768 ((x1 + (10 : Int32)) + x2) r13 fun M14 =>
      ld M14 1 64 (((8 : Int32) * v7) + r13) fun v15 =>
      ld M14 6 5 x2 fun v16 =>
      sto M14 12 768 ((x1 + (15 : Int32)) + x2) (v15 * v16) fun M17 =>
      pX10_goesOn_130 fu  x1 x2 M17 )
    else
    pX10_goesOn_130 fu  x1 x2 M )
  else
  ld M 12 768 ((x1 + (20 : Int32)) + x2) fun v19 =>
  sto M 12 768 ((x1 + (20 : Int32)) + x2) (v19 - (1 : Int32)) fun M20 =>
  some (0, M20)
set_option maxRecDepth 100000 in
theorem wX10_goesOn {E : jE} {X : jC} (hX : jOk X uX10_goesOn (gM E)) (fu : Nat)  (x1 : Int32) (x2 : Int32) (M : Mem) : J X uX10_goesOn (gM E) 0 [(0, .ref (gad (gM E) 0)), (1, .int x1), (2, .int x2)] [] M (pX10_goesOn fu  x1 x2 M) := by
  unfold pX10_goesOn
  refine j_aload_n (pc := 0) hX 0 dX10_goesOn_0 rfl rfl ?_
  refine j_getR (pc := 1) (t := 12) hX (jb rfl) rfl (ci := 9) (C := RX10) (T := TX10) (N := 30) rfl (jb rfl) inX10 (j := 19) (jb rfl) rfl tw_939 dX10_goesOn_1 ?_
  refine j_iload_n (pc := 4) hX 1 dX10_goesOn_4 rfl rfl ?_
  refine j_bipush (pc := 5) (v := (20 : Int32)) hX dX10_goesOn_5 cb_20 ?_
  refine j_iadd (pc := 7) hX dX10_goesOn_7 ?_
  refine j_iload_n (pc := 8) hX 2 dX10_goesOn_8 rfl rfl ?_
  refine j_iadd (pc := 9) hX dX10_goesOn_9 ?_
  refine j_iald (pc := 10) hX (jb rfl) rfl rfl dX10_goesOn_10 (fun v1 => ?_)
  refine j_if_le (pc := 11) hX 30 dX10_goesOn_11 (by decide) ?_ ?_
  · refine j_aload_n (pc := 30) hX 0 dX10_goesOn_30 rfl rfl ?_
    refine j_getR (pc := 31) (t := 12) hX (jb rfl) rfl (ci := 9) (C := RX10) (T := TX10) (N := 30) rfl (jb rfl) inX10 (j := 19) (jb rfl) rfl tw_939 dX10_goesOn_31 ?_
    refine j_iload_n (pc := 34) hX 1 dX10_goesOn_34 rfl rfl ?_
    refine j_bipush (pc := 35) (v := (10 : Int32)) hX dX10_goesOn_35 cb_10 ?_
    refine j_iadd (pc := 37) hX dX10_goesOn_37 ?_
    refine j_iload_n (pc := 38) hX 2 dX10_goesOn_38 rfl rfl ?_
    refine j_iadd (pc := 39) hX dX10_goesOn_39 ?_
    refine j_iald (pc := 40) hX (jb rfl) rfl rfl dX10_goesOn_40 (fun v2 => ?_)
    refine j_bipush (pc := 41) (v := (-4 : Int32)) hX dX10_goesOn_41 cb_m4 ?_
    refine j_icmp_ne (pc := 43) hX 130 dX10_goesOn_43 (by decide) ?_ ?_
    · exact j_sub [0, 1, 2] rfl (wX10_goesOn_130 hX fu   x1 x2 M  )
    · refine j_aload_n (pc := 46) hX 0 dX10_goesOn_46 rfl rfl ?_
      refine j_getR (pc := 47) (t := 12) hX (jb rfl) rfl (ci := 9) (C := RX10) (T := TX10) (N := 30) rfl (jb rfl) inX10 (j := 19) (jb rfl) rfl tw_939 dX10_goesOn_47 ?_
      refine j_iload_n (pc := 50) hX 1 dX10_goesOn_50 rfl rfl ?_
      refine j_iconst (pc := 51) (v := (5 : Int32)) hX dX10_goesOn_51 ci_5 ?_
      refine j_iadd (pc := 52) hX dX10_goesOn_52 ?_
      refine j_iload_n (pc := 53) hX 2 dX10_goesOn_53 rfl rfl ?_
      refine j_iadd (pc := 54) hX dX10_goesOn_54 ?_
      refine j_iald (pc := 55) hX (jb rfl) rfl rfl dX10_goesOn_55 (fun v7 => ?_)
      refine j_istore_n (pc := 56) (lv' := [(3, .int v7), (0, .ref (gad (gM E) 0)), (1, .int x1), (2, .int x2)]) hX dX10_goesOn_56 rfl (jb rfl) rfl ?_
      refine j_iload_n (pc := 57) hX 0 dX10_goesOn_57 rfl rfl ?_
      refine j_aload_n (pc := 58) hX 1 dX10_goesOn_58 rfl rfl ?_
      refine j_iload_n (pc := 59) hX 2 dX10_goesOn_59 rfl rfl ?_
      refine j_iload_n (pc := 60) hX 3 dX10_goesOn_60 rfl rfl ?_
      refine j_callV (pc := 61) hX [.int x1, .int x2] (mX10_goal _ E hX.2.2.2.2.2.2.2.2.1 fu   x1 x2 M) qX10_goal tw_1144 (jb rfl) rfl (ci := 9) (T := TX10) (N := 30) rfl (jb rfl) rfl ⟨rfl, rfl⟩ ⟨(Nat.le_of_ble_eq_true rfl), (Nat.le_of_ble_eq_true rfl)⟩ (Nat.le_of_ble_eq_true rfl) dX10_goesOn_61 (fun _ => rfl) rfl (fun r9 M8 => ?_)
      refine j_icmp_ne (pc := 64) hX 74 dX10_goesOn_64 (by decide) ?_ ?_
      · refine j_aload_n (pc := 74) hX 1 dX10_goesOn_74 rfl rfl ?_
        refine j_iload_n (pc := 75) hX 0 dX10_goesOn_75 rfl rfl ?_
        refine j_aload_n (pc := 76) hX 1 dX10_goesOn_76 rfl rfl ?_
        refine j_iload_n (pc := 77) hX 2 dX10_goesOn_77 rfl rfl ?_
        refine j_iload_n (pc := 78) hX 3 dX10_goesOn_78 rfl rfl ?_
        refine j_callV (pc := 79) hX [.int x1, .int x2] (mX10_goal _ E hX.2.2.2.2.2.2.2.2.1 fu   x1 x2 M8) qX10_goal tw_1144 (jb rfl) rfl (ci := 9) (T := TX10) (N := 30) rfl (jb rfl) rfl ⟨rfl, rfl⟩ ⟨(Nat.le_of_ble_eq_true rfl), (Nat.le_of_ble_eq_true rfl)⟩ (Nat.le_of_ble_eq_true rfl) dX10_goesOn_79 (fun _ => rfl) rfl (fun r11 M10 => ?_)
        refine j_callV (pc := 82) hX [.int v7, .int r11] (mX10_nextOn _ E hX.2.2.2.2.2.2.2.2.1 fu   v7 r11 M10) qX10_nextOn tw_1152 (jb rfl) rfl (ci := 9) (T := TX10) (N := 30) rfl (jb rfl) rfl ⟨rfl, rfl⟩ ⟨(Nat.le_of_ble_eq_true rfl), (Nat.le_of_ble_eq_true rfl)⟩ (Nat.le_of_ble_eq_true rfl) dX10_goesOn_82 (fun _ => rfl) rfl (fun r13 M12 => ?_)
        refine j_istore (pc := 85) (lv' := [(4, .int r13), (3, .int v7), (0, .ref (gad (gM E) 0)), (1, .int x1), (2, .int x2)]) hX dX10_goesOn_85 (jb rfl) rfl ?_
        refine j_aload_n (pc := 87) hX 2 dX10_goesOn_87 rfl rfl ?_
        refine j_getR (pc := 88) (t := 12) hX (jb rfl) rfl (ci := 9) (C := RX10) (T := TX10) (N := 30) rfl (jb rfl) inX10 (j := 19) (jb rfl) rfl tw_939 dX10_goesOn_88 ?_
        refine j_iload_n (pc := 91) hX 3 dX10_goesOn_91 rfl rfl ?_
        refine j_bipush (pc := 92) (v := (10 : Int32)) hX dX10_goesOn_92 cb_10 ?_
        refine j_iadd (pc := 94) hX dX10_goesOn_94 ?_
        refine j_iload_n (pc := 95) hX 4 dX10_goesOn_95 rfl rfl ?_
        refine j_iadd (pc := 96) hX dX10_goesOn_96 ?_
        refine j_iload (pc := 97) hX 0 dX10_goesOn_97 rfl ?_
        refine j_iast (pc := 99) hX (jb rfl) rfl rfl dX10_goesOn_99 (fun M14 => ?_)
        refine j_aload_n (pc := 100) hX 2 dX10_goesOn_100 rfl rfl ?_
        refine j_getR (pc := 101) (t := 12) hX (jb rfl) rfl (ci := 9) (C := RX10) (T := TX10) (N := 30) rfl (jb rfl) inX10 (j := 19) (jb rfl) rfl tw_939 dX10_goesOn_101 ?_
        refine j_iload_n (pc := 104) hX 3 dX10_goesOn_104 rfl rfl ?_
        refine j_bipush (pc := 105) (v := (15 : Int32)) hX dX10_goesOn_105 cb_15 ?_
        refine j_iadd (pc := 107) hX dX10_goesOn_107 ?_
        refine j_iload_n (pc := 108) hX 4 dX10_goesOn_108 rfl rfl ?_
        refine j_iadd (pc := 109) hX dX10_goesOn_109 ?_
        refine j_aload_n (pc := 110) hX 2 dX10_goesOn_110 rfl rfl ?_
        refine j_getR (pc := 111) (t := 1) hX (jb rfl) rfl (ci := 9) (C := RX10) (T := TX10) (N := 30) rfl (jb rfl) inX10 (j := 1) (jb rfl) rfl tw_921 dX10_goesOn_111 ?_
        refine j_bipush (pc := 114) (v := (8 : Int32)) hX dX10_goesOn_114 cb_8 ?_
        refine j_iload_n (pc := 116) hX 1 dX10_goesOn_116 rfl rfl ?_
        refine j_imul (pc := 117) hX dX10_goesOn_117 ?_
        refine j_iload (pc := 118) hX 0 dX10_goesOn_118 rfl ?_
        refine j_iadd (pc := 120) hX dX10_goesOn_120 ?_
        refine j_iald (pc := 121) hX (jb rfl) rfl rfl dX10_goesOn_121 (fun v15 => ?_)
        refine j_aload_n (pc := 122) hX 2 dX10_goesOn_122 rfl rfl ?_
        refine j_getR (pc := 123) (t := 6) hX (jb rfl) rfl (ci := 9) (C := RX10) (T := TX10) (N := 30) rfl (jb rfl) inX10 (j := 9) (jb rfl) rfl tw_929 dX10_goesOn_123 ?_
        refine j_iload_n (pc := 126) hX 4 dX10_goesOn_126 rfl rfl ?_
        refine j_iald (pc := 127) hX (jb rfl) rfl rfl dX10_goesOn_127 (fun v16 => ?_)
        refine j_imul (pc := 128) hX dX10_goesOn_128 ?_
        refine j_iast (pc := 129) hX (jb rfl) rfl rfl dX10_goesOn_129 (fun M17 => ?_)
        exact j_sub [2, 3, 4] rfl (wX10_goesOn_130 hX fu   x1 x2 M17  )
      · refine j_aload_n (pc := 67) hX 1 dX10_goesOn_67 rfl rfl ?_
        refine j_iload_n (pc := 68) hX 2 dX10_goesOn_68 rfl rfl ?_
        refine j_iload_n (pc := 69) hX 3 dX10_goesOn_69 rfl rfl ?_
        refine j_callVv (pc := 70) hX [.int x1, .int x2] (mX10_settlesAt _ E hX.2.2.2.2.2.2.2.2.1 fu   x1 x2 M8) qX10_settlesAt tw_1148 (jb rfl) rfl (ci := 9) (T := TX10) (N := 30) rfl (jb rfl) rfl ⟨rfl, rfl⟩ ⟨(Nat.le_of_ble_eq_true rfl), (Nat.le_of_ble_eq_true rfl)⟩ (Nat.le_of_ble_eq_true rfl) dX10_goesOn_70 rfl (fun M18 => ?_)
        exact j_vret (pc := 73) hX rfl dX10_goesOn_73
  · refine j_aload_n (pc := 14) hX 0 dX10_goesOn_14 rfl rfl ?_
    refine j_getR (pc := 15) (t := 12) hX (jb rfl) rfl (ci := 9) (C := RX10) (T := TX10) (N := 30) rfl (jb rfl) inX10 (j := 19) (jb rfl) rfl tw_939 dX10_goesOn_15 ?_
    refine j_iload_n (pc := 18) hX 1 dX10_goesOn_18 rfl rfl ?_
    refine j_bipush (pc := 19) (v := (20 : Int32)) hX dX10_goesOn_19 cb_20 ?_
    refine j_iadd (pc := 21) hX dX10_goesOn_21 ?_
    refine j_iload_n (pc := 22) hX 2 dX10_goesOn_22 rfl rfl ?_
    refine j_iadd (pc := 23) hX dX10_goesOn_23 ?_
    refine j_dup2 (pc := 24) hX dX10_goesOn_24 rfl rfl ?_
    refine j_iald (pc := 25) hX (jb rfl) rfl rfl dX10_goesOn_25 (fun v19 => ?_)
    refine j_iconst (pc := 26) (v := (1 : Int32)) hX dX10_goesOn_26 ci_1 ?_
    refine j_isub (pc := 27) hX dX10_goesOn_27 ?_
    refine j_iast (pc := 28) hX (jb rfl) rfl rfl dX10_goesOn_28 (fun M20 => ?_)
    exact j_vret (pc := 29) hX rfl dX10_goesOn_29
theorem mX10_goesOn (l : Launch) (E : jE) (hI : jInj (gM E)) (fu : Nat)  (x1 : Int32) (x2 : Int32) (M : Mem) : jMet l (gM E) yX10_goesOn cX10_goesOn 5 none rX10_goesOn [.ref (gad (gM E) 0), .int x1, .int x2] M (pX10_goesOn fu  x1 x2 M) :=
  j_entry hI (by decide +kernel) (Nat.le_of_ble_eq_true rfl) rfl (fun X _ hX => wX10_goesOn hX fu   x1 x2 M)
