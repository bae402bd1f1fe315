theorem dX4_copy_0 : decode cX4_copy 0 = .ok (.aload_n 1, 1) := by decide +kernel
theorem dX4_copy_1 : decode cX4_copy 1 = .ok (.getfield 11, 3) := by decide +kernel
theorem dX4_copy_4 : decode cX4_copy 4 = .ok (.iconst 0, 1) := by decide +kernel
theorem dX4_copy_5 : decode cX4_copy 5 = .ok (.aload_n 0, 1) := by decide +kernel
theorem dX4_copy_6 : decode cX4_copy 6 = .ok (.getfield 11, 3) := by decide +kernel
theorem dX4_copy_9 : decode cX4_copy 9 = .ok (.iconst 0, 1) := by decide +kernel
theorem dX4_copy_10 : decode cX4_copy 10 = .ok (.aload_n 0, 1) := by decide +kernel
theorem dX4_copy_11 : decode cX4_copy 11 = .ok (.getfield 11, 3) := by decide +kernel
theorem dX4_copy_14 : decode cX4_copy 14 = .ok (.arraylength, 1) := by decide +kernel
theorem dX4_copy_15 : decode cX4_copy 15 = .ok (.invokestatic 19, 3) := by decide +kernel
theorem dX4_copy_18 : decode cX4_copy 18 = .ok (.return_, 1) := by decide +kernel
theorem dX4_get_0 : decode cX4_get 0 = .ok (.iload_n 1, 1) := by decide +kernel
theorem dX4_get_1 : decode cX4_get 1 = .ok (.bipush 11, 2) := by decide +kernel
theorem dX4_get_3 : decode cX4_get 3 = .ok (.imul, 1) := by decide +kernel
theorem dX4_get_4 : decode cX4_get 4 = .ok (.iload_n 2, 1) := by decide +kernel
theorem dX4_get_5 : decode cX4_get 5 = .ok (.iadd, 1) := by decide +kernel
theorem dX4_get_6 : decode cX4_get 6 = .ok (.istore_n 3, 1) := by decide +kernel
theorem dX4_get_7 : decode cX4_get 7 = .ok (.iload_n 3, 1) := by decide +kernel
theorem dX4_get_8 : decode cX4_get 8 = .ok (.ifCond .lt 21, 3) := by decide +kernel
theorem dX4_get_11 : decode cX4_get 11 = .ok (.iload_n 3, 1) := by decide +kernel
theorem dX4_get_12 : decode cX4_get 12 = .ok (.aload_n 0, 1) := by decide +kernel
theorem dX4_get_13 : decode cX4_get 13 = .ok (.getfield 11, 3) := by decide +kernel
theorem dX4_get_16 : decode cX4_get 16 = .ok (.arraylength, 1) := by decide +kernel
theorem dX4_get_17 : decode cX4_get 17 = .ok (.if_icmp .ge 12, 3) := by decide +kernel
theorem dX4_get_20 : decode cX4_get 20 = .ok (.aload_n 0, 1) := by decide +kernel
theorem dX4_get_21 : decode cX4_get 21 = .ok (.getfield 11, 3) := by decide +kernel
theorem dX4_get_24 : decode cX4_get 24 = .ok (.iload_n 3, 1) := by decide +kernel
theorem dX4_get_25 : decode cX4_get 25 = .ok (.iaload, 1) := by decide +kernel
theorem dX4_get_26 : decode cX4_get 26 = .ok (.goto 4, 3) := by decide +kernel
theorem dX4_get_29 : decode cX4_get 29 = .ok (.iconst 0, 1) := by decide +kernel
theorem dX4_get_30 : decode cX4_get 30 = .ok (.ireturn, 1) := by decide +kernel
theorem dX4_is_0 : decode cX4_is 0 = .ok (.aload_n 0, 1) := by decide +kernel
theorem dX4_is_1 : decode cX4_is 1 = .ok (.iload_n 1, 1) := by decide +kernel
theorem dX4_is_2 : decode cX4_is 2 = .ok (.iconst 1, 1) := by decide +kernel
theorem dX4_is_3 : decode cX4_is 3 = .ok (.invokevirtual 63, 3) := by decide +kernel
theorem dX4_is_6 : decode cX4_is 6 = .ok (.iload_n 2, 1) := by decide +kernel
theorem dX4_is_7 : decode cX4_is 7 = .ok (.if_icmp .ne 7, 3) := by decide +kernel
theorem dX4_is_10 : decode cX4_is 10 = .ok (.iconst 1, 1) := by decide +kernel
theorem dX4_is_11 : decode cX4_is 11 = .ok (.goto 4, 3) := by decide +kernel
theorem dX4_is_14 : decode cX4_is 14 = .ok (.iconst 0, 1) := by decide +kernel
theorem dX4_is_15 : decode cX4_is 15 = .ok (.ireturn, 1) := by decide +kernel
theorem dX4_carries_0 : decode cX4_carries 0 = .ok (.aload_n 0, 1) := by decide +kernel
theorem dX4_carries_1 : decode cX4_carries 1 = .ok (.iload_n 1, 1) := by decide +kernel
theorem dX4_carries_2 : decode cX4_carries 2 = .ok (.iconst 1, 1) := by decide +kernel
theorem dX4_carries_3 : decode cX4_carries 3 = .ok (.invokevirtual 67, 3) := by decide +kernel
theorem dX4_carries_6 : decode cX4_carries 6 = .ok (.ifCond .ne 12, 3) := by decide +kernel
theorem dX4_carries_9 : decode cX4_carries 9 = .ok (.aload_n 0, 1) := by decide +kernel
theorem dX4_carries_10 : decode cX4_carries 10 = .ok (.iload_n 1, 1) := by decide +kernel
theorem dX4_carries_11 : decode cX4_carries 11 = .ok (.iconst 2, 1) := by decide +kernel
theorem dX4_carries_12 : decode cX4_carries 12 = .ok (.invokevirtual 67, 3) := by decide +kernel
theorem dX4_carries_15 : decode cX4_carries 15 = .ok (.ifCond .eq 7, 3) := by decide +kernel
theorem dX4_carries_18 : decode cX4_carries 18 = .ok (.iconst 1, 1) := by decide +kernel
theorem dX4_carries_19 : decode cX4_carries 19 = .ok (.goto 4, 3) := by decide +kernel
theorem dX4_carries_22 : decode cX4_carries 22 = .ok (.iconst 0, 1) := by decide +kernel
theorem dX4_carries_23 : decode cX4_carries 23 = .ok (.ireturn, 1) := by decide +kernel
theorem dX4_isUnderWay_0 : decode cX4_isUnderWay 0 = .ok (.aload_n 0, 1) := by decide +kernel
theorem dX4_isUnderWay_1 : decode cX4_isUnderWay 1 = .ok (.iload_n 1, 1) := by decide +kernel
theorem dX4_isUnderWay_2 : decode cX4_isUnderWay 2 = .ok (.iconst 1, 1) := by decide +kernel
theorem dX4_isUnderWay_3 : decode cX4_isUnderWay 3 = .ok (.invokevirtual 67, 3) := by decide +kernel
theorem dX4_isUnderWay_6 : decode cX4_isUnderWay 6 = .ok (.ifCond .ne 12, 3) := by decide +kernel
theorem dX4_isUnderWay_9 : decode cX4_isUnderWay 9 = .ok (.aload_n 0, 1) := by decide +kernel
theorem dX4_isUnderWay_10 : decode cX4_isUnderWay 10 = .ok (.iload_n 1, 1) := by decide +kernel
theorem dX4_isUnderWay_11 : decode cX4_isUnderWay 11 = .ok (.iconst 3, 1) := by decide +kernel
theorem dX4_isUnderWay_12 : decode cX4_isUnderWay 12 = .ok (.invokevirtual 67, 3) := by decide +kernel
theorem dX4_isUnderWay_15 : decode cX4_isUnderWay 15 = .ok (.ifCond .eq 7, 3) := by decide +kernel
theorem dX4_isUnderWay_18 : decode cX4_isUnderWay 18 = .ok (.iconst 1, 1) := by decide +kernel
theorem dX4_isUnderWay_19 : decode cX4_isUnderWay 19 = .ok (.goto 4, 3) := by decide +kernel
theorem dX4_isUnderWay_22 : decode cX4_isUnderWay 22 = .ok (.iconst 0, 1) := by decide +kernel
theorem dX4_isUnderWay_23 : decode cX4_isUnderWay 23 = .ok (.ireturn, 1) := by decide +kernel
theorem dX4_set_0 : decode cX4_set 0 = .ok (.iload_n 1, 1) := by decide +kernel
theorem dX4_set_1 : decode cX4_set 1 = .ok (.bipush 11, 2) := by decide +kernel
theorem dX4_set_3 : decode cX4_set 3 = .ok (.imul, 1) := by decide +kernel
theorem dX4_set_4 : decode cX4_set 4 = .ok (.iload_n 2, 1) := by decide +kernel
theorem dX4_set_5 : decode cX4_set 5 = .ok (.iadd, 1) := by decide +kernel
theorem dX4_set_6 : decode cX4_set 6 = .ok (.istore 4, 2) := by decide +kernel
theorem dX4_set_8 : decode cX4_set 8 = .ok (.iload 4, 2) := by decide +kernel
theorem dX4_set_10 : decode cX4_set 10 = .ok (.ifCond .lt 21, 3) := by decide +kernel
theorem dX4_set_13 : decode cX4_set 13 = .ok (.iload 4, 2) := by decide +kernel
theorem dX4_set_15 : decode cX4_set 15 = .ok (.aload_n 0, 1) := by decide +kernel
theorem dX4_set_16 : decode cX4_set 16 = .ok (.getfield 11, 3) := by decide +kernel
theorem dX4_set_19 : decode cX4_set 19 = .ok (.arraylength, 1) := by decide +kernel
theorem dX4_set_20 : decode cX4_set 20 = .ok (.if_icmp .ge 11, 3) := by decide +kernel
theorem dX4_set_23 : decode cX4_set 23 = .ok (.aload_n 0, 1) := by decide +kernel
theorem dX4_set_24 : decode cX4_set 24 = .ok (.getfield 11, 3) := by decide +kernel
theorem dX4_set_27 : decode cX4_set 27 = .ok (.iload 4, 2) := by decide +kernel
theorem dX4_set_29 : decode cX4_set 29 = .ok (.iload_n 3, 1) := by decide +kernel
theorem dX4_set_30 : decode cX4_set 30 = .ok (.iastore, 1) := by decide +kernel
theorem dX4_set_31 : decode cX4_set 31 = .ok (.return_, 1) := by decide +kernel
theorem dX4_end_0 : decode cX4_end 0 = .ok (.aload_n 0, 1) := by decide +kernel
theorem dX4_end_1 : decode cX4_end 1 = .ok (.iload_n 1, 1) := by decide +kernel
theorem dX4_end_2 : decode cX4_end 2 = .ok (.iconst 1, 1) := by decide +kernel
theorem dX4_end_3 : decode cX4_end 3 = .ok (.aload_n 0, 1) := by decide +kernel
theorem dX4_end_4 : decode cX4_end 4 = .ok (.iload_n 1, 1) := by decide +kernel
theorem dX4_end_5 : decode cX4_end 5 = .ok (.iconst 1, 1) := by decide +kernel
theorem dX4_end_6 : decode cX4_end 6 = .ok (.invokevirtual 63, 3) := by decide +kernel
theorem dX4_end_9 : decode cX4_end 9 = .ok (.iconst 1, 1) := by decide +kernel
theorem dX4_end_10 : decode cX4_end 10 = .ok (.if_icmp .ne 7, 3) := by decide +kernel
theorem dX4_end_13 : decode cX4_end 13 = .ok (.iconst 2, 1) := by decide +kernel
theorem dX4_end_14 : decode cX4_end 14 = .ok (.goto 4, 3) := by decide +kernel
theorem dX4_end_17 : decode cX4_end 17 = .ok (.iconst 0, 1) := by decide +kernel
theorem dX4_end_18 : decode cX4_end 18 = .ok (.invokevirtual 49, 3) := by decide +kernel
theorem dX4_end_21 : decode cX4_end 21 = .ok (.return_, 1) := by decide +kernel
theorem dX4_carrotsIn_0 : decode cX4_carrotsIn 0 = .ok (.aload_n 0, 1) := by decide +kernel
theorem dX4_carrotsIn_1 : decode cX4_carrotsIn 1 = .ok (.getfield 11, 3) := by decide +kernel
theorem dX4_carrotsIn_4 : decode cX4_carrotsIn 4 = .ok (.bipush 55, 2) := by decide +kernel
theorem dX4_carrotsIn_6 : decode cX4_carrotsIn 6 = .ok (.iload_n 1, 1) := by decide +kernel
theorem dX4_carrotsIn_7 : decode cX4_carrotsIn 7 = .ok (.iadd, 1) := by decide +kernel
theorem dX4_carrotsIn_8 : decode cX4_carrotsIn 8 = .ok (.invokestatic 25, 3) := by decide +kernel
theorem dX4_carrotsIn_11 : decode cX4_carrotsIn 11 = .ok (.ireturn, 1) := by decide +kernel
theorem dX4_putCarrots_0 : decode cX4_putCarrots 0 = .ok (.aload_n 0, 1) := by decide +kernel
theorem dX4_putCarrots_1 : decode cX4_putCarrots 1 = .ok (.getfield 11, 3) := by decide +kernel
theorem dX4_putCarrots_4 : decode cX4_putCarrots 4 = .ok (.bipush 55, 2) := by decide +kernel
theorem dX4_putCarrots_6 : decode cX4_putCarrots 6 = .ok (.iload_n 1, 1) := by decide +kernel
theorem dX4_putCarrots_7 : decode cX4_putCarrots 7 = .ok (.iadd, 1) := by decide +kernel
theorem dX4_putCarrots_8 : decode cX4_putCarrots 8 = .ok (.iload_n 2, 1) := by decide +kernel
theorem dX4_putCarrots_9 : decode cX4_putCarrots 9 = .ok (.invokestatic 31, 3) := by decide +kernel
theorem dX4_putCarrots_12 : decode cX4_putCarrots 12 = .ok (.return_, 1) := by decide +kernel
theorem dX4_arrive_0 : decode cX4_arrive 0 = .ok (.aload_n 0, 1) := by decide +kernel
theorem dX4_arrive_1 : decode cX4_arrive 1 = .ok (.iload_n 1, 1) := by decide +kernel
theorem dX4_arrive_2 : decode cX4_arrive 2 = .ok (.iconst 2, 1) := by decide +kernel
theorem dX4_arrive_3 : decode cX4_arrive 3 = .ok (.iload_n 2, 1) := by decide +kernel
theorem dX4_arrive_4 : decode cX4_arrive 4 = .ok (.invokevirtual 49, 3) := by decide +kernel
theorem dX4_arrive_7 : decode cX4_arrive 7 = .ok (.aload_n 0, 1) := by decide +kernel
theorem dX4_arrive_8 : decode cX4_arrive 8 = .ok (.iload_n 1, 1) := by decide +kernel
theorem dX4_arrive_9 : decode cX4_arrive 9 = .ok (.iconst 3, 1) := by decide +kernel
theorem dX4_arrive_10 : decode cX4_arrive 10 = .ok (.bipush (-4), 2) := by decide +kernel
theorem dX4_arrive_12 : decode cX4_arrive 12 = .ok (.invokevirtual 49, 3) := by decide +kernel
theorem dX4_arrive_15 : decode cX4_arrive 15 = .ok (.aload_n 0, 1) := by decide +kernel
theorem dX4_arrive_16 : decode cX4_arrive 16 = .ok (.getfield 15, 3) := by decide +kernel
theorem dX4_arrive_19 : decode cX4_arrive 19 = .ok (.iload_n 1, 1) := by decide +kernel
theorem dX4_arrive_20 : decode cX4_arrive 20 = .ok (.invokevirtual 103, 3) := by decide +kernel
theorem dX4_arrive_23 : decode cX4_arrive 23 = .ok (.istore 4, 2) := by decide +kernel
theorem dX4_arrive_25 : decode cX4_arrive 25 = .ok (.iconst 0, 1) := by decide +kernel
theorem dX4_arrive_26 : decode cX4_arrive 26 = .ok (.istore 5, 2) := by decide +kernel
theorem dX4_arrive_28 : decode cX4_arrive 28 = .ok (.aload_n 0, 1) := by decide +kernel
theorem dX4_arrive_29 : decode cX4_arrive 29 = .ok (.iload_n 2, 1) := by decide +kernel
theorem dX4_arrive_30 : decode cX4_arrive 30 = .ok (.invokevirtual 106, 3) := by decide +kernel
theorem dX4_arrive_33 : decode cX4_arrive 33 = .ok (.ifCond .le 40, 3) := by decide +kernel
theorem dX4_arrive_36 : decode cX4_arrive 36 = .ok (.iload 4, 2) := by decide +kernel
theorem dX4_arrive_38 : decode cX4_arrive 38 = .ok (.iconst 3, 1) := by decide +kernel
theorem dX4_arrive_39 : decode cX4_arrive 39 = .ok (.if_icmp .eq 34, 3) := by decide +kernel
theorem dX4_arrive_42 : decode cX4_arrive 42 = .ok (.aload_n 0, 1) := by decide +kernel
theorem dX4_arrive_43 : decode cX4_arrive 43 = .ok (.iload_n 2, 1) := by decide +kernel
theorem dX4_arrive_44 : decode cX4_arrive 44 = .ok (.aload_n 0, 1) := by decide +kernel
theorem dX4_arrive_45 : decode cX4_arrive 45 = .ok (.iload_n 2, 1) := by decide +kernel
theorem dX4_arrive_46 : decode cX4_arrive 46 = .ok (.invokevirtual 106, 3) := by decide +kernel
theorem dX4_arrive_49 : decode cX4_arrive 49 = .ok (.iconst 1, 1) := by decide +kernel
theorem dX4_arrive_50 : decode cX4_arrive 50 = .ok (.isub, 1) := by decide +kernel
theorem dX4_arrive_51 : decode cX4_arrive 51 = .ok (.invokevirtual 59, 3) := by decide +kernel
theorem dX4_arrive_54 : decode cX4_arrive 54 = .ok (.aload_n 0, 1) := by decide +kernel
theorem dX4_arrive_55 : decode cX4_arrive 55 = .ok (.iload_n 1, 1) := by decide +kernel
theorem dX4_arrive_56 : decode cX4_arrive 56 = .ok (.bipush 7, 2) := by decide +kernel
theorem dX4_arrive_58 : decode cX4_arrive 58 = .ok (.aload_n 0, 1) := by decide +kernel
theorem dX4_arrive_59 : decode cX4_arrive 59 = .ok (.iload_n 1, 1) := by decide +kernel
theorem dX4_arrive_60 : decode cX4_arrive 60 = .ok (.bipush 7, 2) := by decide +kernel
theorem dX4_arrive_62 : decode cX4_arrive 62 = .ok (.invokevirtual 63, 3) := by decide +kernel
theorem dX4_arrive_65 : decode cX4_arrive 65 = .ok (.iconst 1, 1) := by decide +kernel
theorem dX4_arrive_66 : decode cX4_arrive 66 = .ok (.iadd, 1) := by decide +kernel
theorem dX4_arrive_67 : decode cX4_arrive 67 = .ok (.invokevirtual 49, 3) := by decide +kernel
theorem dX4_arrive_70 : decode cX4_arrive 70 = .ok (.iinc 5 1, 3) := by decide +kernel
theorem dX4_arrive_73 : decode cX4_arrive 73 = .ok (.aload_n 0, 1) := by decide +kernel
theorem dX4_arrive_74 : decode cX4_arrive 74 = .ok (.getfield 15, 3) := by decide +kernel
theorem dX4_arrive_77 : decode cX4_arrive 77 = .ok (.iload_n 2, 1) := by decide +kernel
theorem dX4_arrive_78 : decode cX4_arrive 78 = .ok (.invokevirtual 109, 3) := by decide +kernel
theorem dX4_arrive_81 : decode cX4_arrive 81 = .ok (.ifCond .eq 33, 3) := by decide +kernel
theorem dX4_arrive_84 : decode cX4_arrive 84 = .ok (.iload 4, 2) := by decide +kernel
theorem dX4_arrive_86 : decode cX4_arrive 86 = .ok (.ifCond .eq 9, 3) := by decide +kernel
theorem dX4_arrive_89 : decode cX4_arrive 89 = .ok (.iload 4, 2) := by decide +kernel
theorem dX4_arrive_91 : decode cX4_arrive 91 = .ok (.iconst 2, 1) := by decide +kernel
theorem dX4_arrive_92 : decode cX4_arrive 92 = .ok (.if_icmp .ne 22, 3) := by decide +kernel
theorem dX4_arrive_95 : decode cX4_arrive 95 = .ok (.aload_n 0, 1) := by decide +kernel
theorem dX4_arrive_96 : decode cX4_arrive 96 = .ok (.iload_n 1, 1) := by decide +kernel
theorem dX4_arrive_97 : decode cX4_arrive 97 = .ok (.bipush 8, 2) := by decide +kernel
theorem dX4_arrive_99 : decode cX4_arrive 99 = .ok (.aload_n 0, 1) := by decide +kernel
theorem dX4_arrive_100 : decode cX4_arrive 100 = .ok (.iload_n 1, 1) := by decide +kernel
theorem dX4_arrive_101 : decode cX4_arrive 101 = .ok (.bipush 8, 2) := by decide +kernel
theorem dX4_arrive_103 : decode cX4_arrive 103 = .ok (.invokevirtual 63, 3) := by decide +kernel
theorem dX4_arrive_106 : decode cX4_arrive 106 = .ok (.iconst 1, 1) := by decide +kernel
theorem dX4_arrive_107 : decode cX4_arrive 107 = .ok (.iadd, 1) := by decide +kernel
theorem dX4_arrive_108 : decode cX4_arrive 108 = .ok (.invokevirtual 49, 3) := by decide +kernel
theorem dX4_arrive_111 : decode cX4_arrive 111 = .ok (.iinc 5 2, 3) := by decide +kernel
theorem dX4_arrive_114 : decode cX4_arrive 114 = .ok (.iload_n 2, 1) := by decide +kernel
theorem dX4_arrive_115 : decode cX4_arrive 115 = .ok (.iload_n 3, 1) := by decide +kernel
theorem dX4_arrive_116 : decode cX4_arrive 116 = .ok (.if_icmp .ne 11, 3) := by decide +kernel
theorem dX4_arrive_119 : decode cX4_arrive 119 = .ok (.aload_n 0, 1) := by decide +kernel
theorem dX4_arrive_120 : decode cX4_arrive 120 = .ok (.iload_n 1, 1) := by decide +kernel
theorem dX4_arrive_121 : decode cX4_arrive 121 = .ok (.invokevirtual 88, 3) := by decide +kernel
theorem dX4_arrive_124 : decode cX4_arrive 124 = .ok (.goto 11, 3) := by decide +kernel
theorem dX4_arrive_127 : decode cX4_arrive 127 = .ok (.aload_n 0, 1) := by decide +kernel
theorem dX4_arrive_128 : decode cX4_arrive 128 = .ok (.iload_n 1, 1) := by decide +kernel
theorem dX4_arrive_129 : decode cX4_arrive 129 = .ok (.iconst 4, 1) := by decide +kernel
theorem dX4_arrive_130 : decode cX4_arrive 130 = .ok (.iload 5, 2) := by decide +kernel
theorem dX4_arrive_132 : decode cX4_arrive 132 = .ok (.invokevirtual 49, 3) := by decide +kernel
theorem dX4_arrive_135 : decode cX4_arrive 135 = .ok (.return_, 1) := by decide +kernel
theorem dX4_move_0 : decode cX4_move 0 = .ok (.aload_n 0, 1) := by decide +kernel
theorem dX4_move_1 : decode cX4_move 1 = .ok (.iload_n 1, 1) := by decide +kernel
theorem dX4_move_2 : decode cX4_move 2 = .ok (.bipush 10, 2) := by decide +kernel
theorem dX4_move_4 : decode cX4_move 4 = .ok (.invokevirtual 63, 3) := by decide +kernel
theorem dX4_move_7 : decode cX4_move 7 = .ok (.istore_n 2, 1) := by decide +kernel
theorem dX4_move_8 : decode cX4_move 8 = .ok (.aload_n 0, 1) := by decide +kernel
theorem dX4_move_9 : decode cX4_move 9 = .ok (.iload_n 1, 1) := by decide +kernel
theorem dX4_move_10 : decode cX4_move 10 = .ok (.iconst 4, 1) := by decide +kernel
theorem dX4_move_11 : decode cX4_move 11 = .ok (.invokevirtual 63, 3) := by decide +kernel
theorem dX4_move_14 : decode cX4_move 14 = .ok (.istore_n 3, 1) := by decide +kernel
theorem dX4_move_15 : decode cX4_move 15 = .ok (.aload_n 0, 1) := by decide +kernel
theorem dX4_move_16 : decode cX4_move 16 = .ok (.iload_n 1, 1) := by decide +kernel
theorem dX4_move_17 : decode cX4_move 17 = .ok (.iconst 3, 1) := by decide +kernel
theorem dX4_move_18 : decode cX4_move 18 = .ok (.invokevirtual 63, 3) := by decide +kernel
theorem dX4_move_21 : decode cX4_move 21 = .ok (.bipush (-4), 2) := by decide +kernel
theorem dX4_move_23 : decode cX4_move 23 = .ok (.if_icmp .ne 78, 3) := by decide +kernel
theorem dX4_move_26 : decode cX4_move 26 = .ok (.aload_n 0, 1) := by decide +kernel
theorem dX4_move_27 : decode cX4_move 27 = .ok (.iload_n 1, 1) := by decide +kernel
theorem dX4_move_28 : decode cX4_move 28 = .ok (.iconst 2, 1) := by decide +kernel
theorem dX4_move_29 : decode cX4_move 29 = .ok (.invokevirtual 63, 3) := by decide +kernel
theorem dX4_move_32 : decode cX4_move 32 = .ok (.istore 4, 2) := by decide +kernel
theorem dX4_move_34 : decode cX4_move 34 = .ok (.iload_n 3, 1) := by decide +kernel
theorem dX4_move_35 : decode cX4_move 35 = .ok (.ifCond .le 13, 3) := by decide +kernel
theorem dX4_move_38 : decode cX4_move 38 = .ok (.aload_n 0, 1) := by decide +kernel
theorem dX4_move_39 : decode cX4_move 39 = .ok (.iload_n 1, 1) := by decide +kernel
theorem dX4_move_40 : decode cX4_move 40 = .ok (.iconst 4, 1) := by decide +kernel
theorem dX4_move_41 : decode cX4_move 41 = .ok (.iload_n 3, 1) := by decide +kernel
theorem dX4_move_42 : decode cX4_move 42 = .ok (.iconst 1, 1) := by decide +kernel
theorem dX4_move_43 : decode cX4_move 43 = .ok (.isub, 1) := by decide +kernel
theorem dX4_move_44 : decode cX4_move 44 = .ok (.invokevirtual 49, 3) := by decide +kernel
theorem dX4_move_47 : decode cX4_move 47 = .ok (.return_, 1) := by decide +kernel
theorem dX4_move_48 : decode cX4_move 48 = .ok (.iload 4, 2) := by decide +kernel
theorem dX4_move_50 : decode cX4_move 50 = .ok (.iload_n 2, 1) := by decide +kernel
theorem dX4_move_51 : decode cX4_move 51 = .ok (.if_icmp .ne 9, 3) := by decide +kernel
theorem dX4_move_54 : decode cX4_move 54 = .ok (.aload_n 0, 1) := by decide +kernel
theorem dX4_move_55 : decode cX4_move 55 = .ok (.iload_n 1, 1) := by decide +kernel
theorem dX4_move_56 : decode cX4_move 56 = .ok (.invokevirtual 88, 3) := by decide +kernel
theorem dX4_move_59 : decode cX4_move 59 = .ok (.return_, 1) := by decide +kernel
theorem dX4_move_60 : decode cX4_move 60 = .ok (.aload_n 0, 1) := by decide +kernel
theorem dX4_move_61 : decode cX4_move 61 = .ok (.getfield 15, 3) := by decide +kernel
theorem dX4_move_64 : decode cX4_move 64 = .ok (.iload 4, 2) := by decide +kernel
theorem dX4_move_66 : decode cX4_move 66 = .ok (.iload_n 2, 1) := by decide +kernel
theorem dX4_move_67 : decode cX4_move 67 = .ok (.invokevirtual 91, 3) := by decide +kernel
theorem dX4_move_70 : decode cX4_move 70 = .ok (.istore 5, 2) := by decide +kernel
theorem dX4_move_72 : decode cX4_move 72 = .ok (.aload_n 0, 1) := by decide +kernel
theorem dX4_move_73 : decode cX4_move 73 = .ok (.iload_n 1, 1) := by decide +kernel
theorem dX4_move_74 : decode cX4_move 74 = .ok (.iconst 3, 1) := by decide +kernel
theorem dX4_move_75 : decode cX4_move 75 = .ok (.iload 5, 2) := by decide +kernel
theorem dX4_move_77 : decode cX4_move 77 = .ok (.invokevirtual 49, 3) := by decide +kernel
theorem dX4_move_80 : decode cX4_move 80 = .ok (.aload_n 0, 1) := by decide +kernel
theorem dX4_move_81 : decode cX4_move 81 = .ok (.getfield 15, 3) := by decide +kernel
theorem dX4_move_84 : decode cX4_move 84 = .ok (.iload 4, 2) := by decide +kernel
theorem dX4_move_86 : decode cX4_move 86 = .ok (.iload 5, 2) := by decide +kernel
theorem dX4_move_88 : decode cX4_move 88 = .ok (.invokevirtual 94, 3) := by decide +kernel
theorem dX4_move_91 : decode cX4_move 91 = .ok (.aload_n 0, 1) := by decide +kernel
theorem dX4_move_92 : decode cX4_move 92 = .ok (.getfield 15, 3) := by decide +kernel
theorem dX4_move_95 : decode cX4_move 95 = .ok (.iload_n 1, 1) := by decide +kernel
theorem dX4_move_96 : decode cX4_move 96 = .ok (.invokevirtual 97, 3) := by decide +kernel
theorem dX4_move_99 : decode cX4_move 99 = .ok (.imul, 1) := by decide +kernel
theorem dX4_move_100 : decode cX4_move 100 = .ok (.istore_n 3, 1) := by decide +kernel
theorem dX4_move_101 : decode cX4_move 101 = .ok (.aload_n 0, 1) := by decide +kernel
theorem dX4_move_102 : decode cX4_move 102 = .ok (.iload_n 1, 1) := by decide +kernel
theorem dX4_move_103 : decode cX4_move 103 = .ok (.iconst 4, 1) := by decide +kernel
theorem dX4_move_104 : decode cX4_move 104 = .ok (.iload_n 3, 1) := by decide +kernel
theorem dX4_move_105 : decode cX4_move 105 = .ok (.iconst 1, 1) := by decide +kernel
theorem dX4_move_106 : decode cX4_move 106 = .ok (.isub, 1) := by decide +kernel
theorem dX4_move_107 : decode cX4_move 107 = .ok (.invokevirtual 49, 3) := by decide +kernel
theorem dX4_move_110 : decode cX4_move 110 = .ok (.iload_n 3, 1) := by decide +kernel
theorem dX4_move_111 : decode cX4_move 111 = .ok (.iconst 1, 1) := by decide +kernel
theorem dX4_move_112 : decode cX4_move 112 = .ok (.if_icmp .gt 15, 3) := by decide +kernel
theorem dX4_move_115 : decode cX4_move 115 = .ok (.aload_n 0, 1) := by decide +kernel
theorem dX4_move_116 : decode cX4_move 116 = .ok (.iload_n 1, 1) := by decide +kernel
theorem dX4_move_117 : decode cX4_move 117 = .ok (.aload_n 0, 1) := by decide +kernel
theorem dX4_move_118 : decode cX4_move 118 = .ok (.iload_n 1, 1) := by decide +kernel
theorem dX4_move_119 : decode cX4_move 119 = .ok (.iconst 3, 1) := by decide +kernel
theorem dX4_move_120 : decode cX4_move 120 = .ok (.invokevirtual 63, 3) := by decide +kernel
theorem dX4_move_123 : decode cX4_move 123 = .ok (.iload_n 2, 1) := by decide +kernel
theorem dX4_move_124 : decode cX4_move 124 = .ok (.invokevirtual 100, 3) := by decide +kernel
theorem dX4_move_127 : decode cX4_move 127 = .ok (.return_, 1) := by decide +kernel
theorem dX4_hours_0 : decode cX4_hours 0 = .ok (.aload_n 0, 1) := by decide +kernel
theorem dX4_hours_1 : decode cX4_hours 1 = .ok (.getfield 11, 3) := by decide +kernel
theorem dX4_hours_4 : decode cX4_hours 4 = .ok (.bipush 63, 2) := by decide +kernel
theorem dX4_hours_6 : decode cX4_hours 6 = .ok (.invokestatic 25, 3) := by decide +kernel
theorem dX4_hours_9 : decode cX4_hours 9 = .ok (.ireturn, 1) := by decide +kernel
theorem dX4_goOn_0 : decode cX4_goOn 0 = .ok (.iconst 0, 1) := by decide +kernel
theorem dX4_goOn_1 : decode cX4_goOn 1 = .ok (.istore_n 2, 1) := by decide +kernel
theorem dX4_goOn_2 : decode cX4_goOn 2 = .ok (.iload_n 2, 1) := by decide +kernel
theorem dX4_goOn_3 : decode cX4_goOn 3 = .ok (.aload_n 0, 1) := by decide +kernel
theorem dX4_goOn_4 : decode cX4_goOn 4 = .ok (.getfield 15, 3) := by decide +kernel
theorem dX4_goOn_7 : decode cX4_goOn 7 = .ok (.invokevirtual 39, 3) := by decide +kernel
theorem dX4_goOn_10 : decode cX4_goOn 10 = .ok (.if_icmp .ge 27, 3) := by decide +kernel
theorem dX4_goOn_13 : decode cX4_goOn 13 = .ok (.iload_n 2, 1) := by decide +kernel
theorem dX4_goOn_14 : decode cX4_goOn 14 = .ok (.iload_n 1, 1) := by decide +kernel
theorem dX4_goOn_15 : decode cX4_goOn 15 = .ok (.if_icmp .eq 16, 3) := by decide +kernel
theorem dX4_goOn_18 : decode cX4_goOn 18 = .ok (.aload_n 0, 1) := by decide +kernel
theorem dX4_goOn_19 : decode cX4_goOn 19 = .ok (.iload_n 2, 1) := by decide +kernel
theorem dX4_goOn_20 : decode cX4_goOn 20 = .ok (.invokevirtual 77, 3) := by decide +kernel
theorem dX4_goOn_23 : decode cX4_goOn 23 = .ok (.ifCond .eq 8, 3) := by decide +kernel
theorem dX4_goOn_26 : decode cX4_goOn 26 = .ok (.aload_n 0, 1) := by decide +kernel
theorem dX4_goOn_27 : decode cX4_goOn 27 = .ok (.iload_n 2, 1) := by decide +kernel
theorem dX4_goOn_28 : decode cX4_goOn 28 = .ok (.invokevirtual 81, 3) := by decide +kernel
theorem dX4_goOn_31 : decode cX4_goOn 31 = .ok (.iinc 2 1, 3) := by decide +kernel
theorem dX4_goOn_34 : decode cX4_goOn 34 = .ok (.goto (-32), 3) := by decide +kernel
theorem dX4_goOn_37 : decode cX4_goOn 37 = .ok (.aload_n 0, 1) := by decide +kernel
theorem dX4_goOn_38 : decode cX4_goOn 38 = .ok (.getfield 11, 3) := by decide +kernel
theorem dX4_goOn_41 : decode cX4_goOn 41 = .ok (.bipush 63, 2) := by decide +kernel
theorem dX4_goOn_43 : decode cX4_goOn 43 = .ok (.aload_n 0, 1) := by decide +kernel
theorem dX4_goOn_44 : decode cX4_goOn 44 = .ok (.invokevirtual 85, 3) := by decide +kernel
theorem dX4_goOn_47 : decode cX4_goOn 47 = .ok (.iconst 1, 1) := by decide +kernel
theorem dX4_goOn_48 : decode cX4_goOn 48 = .ok (.iadd, 1) := by decide +kernel
theorem dX4_goOn_49 : decode cX4_goOn 49 = .ok (.invokestatic 31, 3) := by decide +kernel
theorem dX4_goOn_52 : decode cX4_goOn 52 = .ok (.return_, 1) := by decide +kernel
theorem dX4_canBeSent_0 : decode cX4_canBeSent 0 = .ok (.aload_n 0, 1) := by decide +kernel
theorem dX4_canBeSent_1 : decode cX4_canBeSent 1 = .ok (.iload_n 1, 1) := by decide +kernel
theorem dX4_canBeSent_2 : decode cX4_canBeSent 2 = .ok (.iconst 0, 1) := by decide +kernel
theorem dX4_canBeSent_3 : decode cX4_canBeSent 3 = .ok (.invokevirtual 67, 3) := by decide +kernel
theorem dX4_canBeSent_6 : decode cX4_canBeSent 6 = .ok (.ifCond .eq 31, 3) := by decide +kernel
theorem dX4_canBeSent_9 : decode cX4_canBeSent 9 = .ok (.aload_n 0, 1) := by decide +kernel
theorem dX4_canBeSent_10 : decode cX4_canBeSent 10 = .ok (.getfield 15, 3) := by decide +kernel
theorem dX4_canBeSent_13 : decode cX4_canBeSent 13 = .ok (.aload_n 0, 1) := by decide +kernel
theorem dX4_canBeSent_14 : decode cX4_canBeSent 14 = .ok (.iload_n 1, 1) := by decide +kernel
theorem dX4_canBeSent_15 : decode cX4_canBeSent 15 = .ok (.iconst 2, 1) := by decide +kernel
theorem dX4_canBeSent_16 : decode cX4_canBeSent 16 = .ok (.invokevirtual 63, 3) := by decide +kernel
theorem dX4_canBeSent_19 : decode cX4_canBeSent 19 = .ok (.aload_n 0, 1) := by decide +kernel
theorem dX4_canBeSent_20 : decode cX4_canBeSent 20 = .ok (.getfield 15, 3) := by decide +kernel
theorem dX4_canBeSent_23 : decode cX4_canBeSent 23 = .ok (.iload_n 2, 1) := by decide +kernel
theorem dX4_canBeSent_24 : decode cX4_canBeSent 24 = .ok (.invokevirtual 71, 3) := by decide +kernel
theorem dX4_canBeSent_27 : decode cX4_canBeSent 27 = .ok (.invokevirtual 74, 3) := by decide +kernel
theorem dX4_canBeSent_30 : decode cX4_canBeSent 30 = .ok (.ifCond .eq 7, 3) := by decide +kernel
theorem dX4_canBeSent_33 : decode cX4_canBeSent 33 = .ok (.iconst 1, 1) := by decide +kernel
theorem dX4_canBeSent_34 : decode cX4_canBeSent 34 = .ok (.goto 4, 3) := by decide +kernel
theorem dX4_canBeSent_37 : decode cX4_canBeSent 37 = .ok (.iconst 0, 1) := by decide +kernel
theorem dX4_canBeSent_38 : decode cX4_canBeSent 38 = .ok (.ireturn, 1) := by decide +kernel
theorem dX4_dispatch_0 : decode cX4_dispatch 0 = .ok (.aload_n 0, 1) := by decide +kernel
theorem dX4_dispatch_1 : decode cX4_dispatch 1 = .ok (.iload_n 1, 1) := by decide +kernel
theorem dX4_dispatch_2 : decode cX4_dispatch 2 = .ok (.iconst 0, 1) := by decide +kernel
theorem dX4_dispatch_3 : decode cX4_dispatch 3 = .ok (.invokevirtual 63, 3) := by decide +kernel
theorem dX4_dispatch_6 : decode cX4_dispatch 6 = .ok (.istore 4, 2) := by decide +kernel
theorem dX4_dispatch_8 : decode cX4_dispatch 8 = .ok (.aload_n 0, 1) := by decide +kernel
theorem dX4_dispatch_9 : decode cX4_dispatch 9 = .ok (.iload_n 1, 1) := by decide +kernel
theorem dX4_dispatch_10 : decode cX4_dispatch 10 = .ok (.bipush 9, 2) := by decide +kernel
theorem dX4_dispatch_12 : decode cX4_dispatch 12 = .ok (.iload 4, 2) := by decide +kernel
theorem dX4_dispatch_14 : decode cX4_dispatch 14 = .ok (.invokevirtual 49, 3) := by decide +kernel
theorem dX4_dispatch_17 : decode cX4_dispatch 17 = .ok (.aload_n 0, 1) := by decide +kernel
theorem dX4_dispatch_18 : decode cX4_dispatch 18 = .ok (.iload_n 1, 1) := by decide +kernel
theorem dX4_dispatch_19 : decode cX4_dispatch 19 = .ok (.iconst 0, 1) := by decide +kernel
theorem dX4_dispatch_20 : decode cX4_dispatch 20 = .ok (.iload 4, 2) := by decide +kernel
theorem dX4_dispatch_22 : decode cX4_dispatch 22 = .ok (.iconst 1, 1) := by decide +kernel
theorem dX4_dispatch_23 : decode cX4_dispatch 23 = .ok (.iadd, 1) := by decide +kernel
theorem dX4_dispatch_24 : decode cX4_dispatch 24 = .ok (.bipush 10, 2) := by decide +kernel
theorem dX4_dispatch_26 : decode cX4_dispatch 26 = .ok (.irem, 1) := by decide +kernel
theorem dX4_dispatch_27 : decode cX4_dispatch 27 = .ok (.invokevirtual 49, 3) := by decide +kernel
theorem dX4_dispatch_30 : decode cX4_dispatch 30 = .ok (.aload_n 0, 1) := by decide +kernel
theorem dX4_dispatch_31 : decode cX4_dispatch 31 = .ok (.iload_n 1, 1) := by decide +kernel
theorem dX4_dispatch_32 : decode cX4_dispatch 32 = .ok (.iconst 1, 1) := by decide +kernel
theorem dX4_dispatch_33 : decode cX4_dispatch 33 = .ok (.iconst 1, 1) := by decide +kernel
theorem dX4_dispatch_34 : decode cX4_dispatch 34 = .ok (.invokevirtual 49, 3) := by decide +kernel
theorem dX4_dispatch_37 : decode cX4_dispatch 37 = .ok (.aload_n 0, 1) := by decide +kernel
theorem dX4_dispatch_38 : decode cX4_dispatch 38 = .ok (.iload_n 1, 1) := by decide +kernel
theorem dX4_dispatch_39 : decode cX4_dispatch 39 = .ok (.bipush 10, 2) := by decide +kernel
theorem dX4_dispatch_41 : decode cX4_dispatch 41 = .ok (.aload_n 0, 1) := by decide +kernel
theorem dX4_dispatch_42 : decode cX4_dispatch 42 = .ok (.getfield 15, 3) := by decide +kernel
theorem dX4_dispatch_45 : decode cX4_dispatch 45 = .ok (.iload_n 3, 1) := by decide +kernel
theorem dX4_dispatch_46 : decode cX4_dispatch 46 = .ok (.invokevirtual 71, 3) := by decide +kernel
theorem dX4_dispatch_49 : decode cX4_dispatch 49 = .ok (.invokevirtual 49, 3) := by decide +kernel
theorem dX4_dispatch_52 : decode cX4_dispatch 52 = .ok (.aload_n 0, 1) := by decide +kernel
theorem dX4_dispatch_53 : decode cX4_dispatch 53 = .ok (.iload_n 1, 1) := by decide +kernel
theorem dX4_dispatch_54 : decode cX4_dispatch 54 = .ok (.iconst 5, 1) := by decide +kernel
theorem dX4_dispatch_55 : decode cX4_dispatch 55 = .ok (.iload_n 3, 1) := by decide +kernel
theorem dX4_dispatch_56 : decode cX4_dispatch 56 = .ok (.invokevirtual 49, 3) := by decide +kernel
theorem dX4_dispatch_59 : decode cX4_dispatch 59 = .ok (.aload_n 0, 1) := by decide +kernel
theorem dX4_dispatch_60 : decode cX4_dispatch 60 = .ok (.iload_n 1, 1) := by decide +kernel
theorem dX4_dispatch_61 : decode cX4_dispatch 61 = .ok (.bipush 6, 2) := by decide +kernel
theorem dX4_dispatch_63 : decode cX4_dispatch 63 = .ok (.iload_n 2, 1) := by decide +kernel
theorem dX4_dispatch_64 : decode cX4_dispatch 64 = .ok (.invokevirtual 49, 3) := by decide +kernel
theorem dX4_dispatch_67 : decode cX4_dispatch 67 = .ok (.aload_n 0, 1) := by decide +kernel
theorem dX4_dispatch_68 : decode cX4_dispatch 68 = .ok (.iload_n 1, 1) := by decide +kernel
theorem dX4_dispatch_69 : decode cX4_dispatch 69 = .ok (.bipush 7, 2) := by decide +kernel
theorem dX4_dispatch_71 : decode cX4_dispatch 71 = .ok (.iconst 0, 1) := by decide +kernel
theorem dX4_dispatch_72 : decode cX4_dispatch 72 = .ok (.invokevirtual 49, 3) := by decide +kernel
theorem dX4_dispatch_75 : decode cX4_dispatch 75 = .ok (.aload_n 0, 1) := by decide +kernel
theorem dX4_dispatch_76 : decode cX4_dispatch 76 = .ok (.iload_n 1, 1) := by decide +kernel
theorem dX4_dispatch_77 : decode cX4_dispatch 77 = .ok (.bipush 8, 2) := by decide +kernel
theorem dX4_dispatch_79 : decode cX4_dispatch 79 = .ok (.iconst 0, 1) := by decide +kernel
theorem dX4_dispatch_80 : decode cX4_dispatch 80 = .ok (.invokevirtual 49, 3) := by decide +kernel
theorem dX4_dispatch_83 : decode cX4_dispatch 83 = .ok (.return_, 1) := by decide +kernel
theorem dX4_signOf_0 : decode cX4_signOf 0 = .ok (.iload_n 2, 1) := by decide +kernel
theorem dX4_signOf_1 : decode cX4_signOf 1 = .ok (.istore_n 3, 1) := by decide +kernel
theorem dX4_signOf_2 : decode cX4_signOf 2 = .ok (.aload_n 0, 1) := by decide +kernel
theorem dX4_signOf_3 : decode cX4_signOf 3 = .ok (.iload_n 1, 1) := by decide +kernel
theorem dX4_signOf_4 : decode cX4_signOf 4 = .ok (.bipush 9, 2) := by decide +kernel
theorem dX4_signOf_6 : decode cX4_signOf 6 = .ok (.invokevirtual 63, 3) := by decide +kernel
theorem dX4_signOf_9 : decode cX4_signOf 9 = .ok (.istore 4, 2) := by decide +kernel
theorem dX4_signOf_11 : decode cX4_signOf 11 = .ok (.aload_n 0, 1) := by decide +kernel
theorem dX4_signOf_12 : decode cX4_signOf 12 = .ok (.getfield 15, 3) := by decide +kernel
theorem dX4_signOf_15 : decode cX4_signOf 15 = .ok (.iload_n 1, 1) := by decide +kernel
theorem dX4_signOf_16 : decode cX4_signOf 16 = .ok (.invokevirtual 103, 3) := by decide +kernel
theorem dX4_signOf_19 : decode cX4_signOf 19 = .ok (.iconst 1, 1) := by decide +kernel
theorem dX4_signOf_20 : decode cX4_signOf 20 = .ok (.if_icmp .ne 16, 3) := by decide +kernel
theorem dX4_signOf_23 : decode cX4_signOf 23 = .ok (.iload 4, 2) := by decide +kernel
theorem dX4_signOf_25 : decode cX4_signOf 25 = .ok (.iconst 2, 1) := by decide +kernel
theorem dX4_signOf_26 : decode cX4_signOf 26 = .ok (.irem, 1) := by decide +kernel
theorem dX4_signOf_27 : decode cX4_signOf 27 = .ok (.iconst 1, 1) := by decide +kernel
theorem dX4_signOf_28 : decode cX4_signOf 28 = .ok (.if_icmp .ne 8, 3) := by decide +kernel
theorem dX4_signOf_31 : decode cX4_signOf 31 = .ok (.bipush 7, 2) := by decide +kernel
theorem dX4_signOf_33 : decode cX4_signOf 33 = .ok (.iload_n 3, 1) := by decide +kernel
theorem dX4_signOf_34 : decode cX4_signOf 34 = .ok (.isub, 1) := by decide +kernel
theorem dX4_signOf_35 : decode cX4_signOf 35 = .ok (.istore_n 3, 1) := by decide +kernel
theorem dX4_signOf_36 : decode cX4_signOf 36 = .ok (.aload_n 0, 1) := by decide +kernel
theorem dX4_signOf_37 : decode cX4_signOf 37 = .ok (.getfield 15, 3) := by decide +kernel
theorem dX4_signOf_40 : decode cX4_signOf 40 = .ok (.iload_n 1, 1) := by decide +kernel
theorem dX4_signOf_41 : decode cX4_signOf 41 = .ok (.invokevirtual 103, 3) := by decide +kernel
theorem dX4_signOf_44 : decode cX4_signOf 44 = .ok (.iconst 2, 1) := by decide +kernel
theorem dX4_signOf_45 : decode cX4_signOf 45 = .ok (.if_icmp .ne 18, 3) := by decide +kernel
theorem dX4_signOf_48 : decode cX4_signOf 48 = .ok (.iload 4, 2) := by decide +kernel
theorem dX4_signOf_50 : decode cX4_signOf 50 = .ok (.iconst 5, 1) := by decide +kernel
theorem dX4_signOf_51 : decode cX4_signOf 51 = .ok (.if_icmp .lt 12, 3) := by decide +kernel
theorem dX4_signOf_54 : decode cX4_signOf 54 = .ok (.iload_n 3, 1) := by decide +kernel
theorem dX4_signOf_55 : decode cX4_signOf 55 = .ok (.iconst 1, 1) := by decide +kernel
theorem dX4_signOf_56 : decode cX4_signOf 56 = .ok (.iadd, 1) := by decide +kernel
theorem dX4_signOf_57 : decode cX4_signOf 57 = .ok (.bipush 7, 2) := by decide +kernel
theorem dX4_signOf_59 : decode cX4_signOf 59 = .ok (.invokestatic 112, 3) := by decide +kernel
theorem dX4_signOf_62 : decode cX4_signOf 62 = .ok (.istore_n 3, 1) := by decide +kernel
theorem dX4_signOf_63 : decode cX4_signOf 63 = .ok (.iload_n 3, 1) := by decide +kernel
theorem dX4_signOf_64 : decode cX4_signOf 64 = .ok (.aload_n 0, 1) := by decide +kernel
theorem dX4_signOf_65 : decode cX4_signOf 65 = .ok (.iload_n 1, 1) := by decide +kernel
theorem dX4_signOf_66 : decode cX4_signOf 66 = .ok (.bipush 7, 2) := by decide +kernel
theorem dX4_signOf_68 : decode cX4_signOf 68 = .ok (.invokevirtual 63, 3) := by decide +kernel
theorem dX4_signOf_71 : decode cX4_signOf 71 = .ok (.isub, 1) := by decide +kernel
theorem dX4_signOf_72 : decode cX4_signOf 72 = .ok (.iconst 2, 1) := by decide +kernel
theorem dX4_signOf_73 : decode cX4_signOf 73 = .ok (.aload_n 0, 1) := by decide +kernel
theorem dX4_signOf_74 : decode cX4_signOf 74 = .ok (.iload_n 1, 1) := by decide +kernel
theorem dX4_signOf_75 : decode cX4_signOf 75 = .ok (.bipush 8, 2) := by decide +kernel
theorem dX4_signOf_77 : decode cX4_signOf 77 = .ok (.invokevirtual 63, 3) := by decide +kernel
theorem dX4_signOf_80 : decode cX4_signOf 80 = .ok (.imul, 1) := by decide +kernel
theorem dX4_signOf_81 : decode cX4_signOf 81 = .ok (.isub, 1) := by decide +kernel
theorem dX4_signOf_82 : decode cX4_signOf 82 = .ok (.iconst 0, 1) := by decide +kernel
theorem dX4_signOf_83 : decode cX4_signOf 83 = .ok (.invokestatic 117, 3) := by decide +kernel
theorem dX4_signOf_86 : decode cX4_signOf 86 = .ok (.ireturn, 1) := by decide +kernel
theorem qX4_copy : jYv yX4_copy cX4_copy 2 none 1 := ⟨tw_581, tw_582, tw_61, tw_583, ⟨by decide +kernel, by decide +kernel, by decide +kernel⟩⟩
abbrev rX4_copy : Room := { frames := 1, cells := 0, slots := 0, locals := 80 }
def uX4_copy : jM := (cX4_copy, 2, RX4, none, rX4_copy)
def pX4_copy (fu : Nat) (k0 : Nat) (k1 : Nat)  (M : Mem) : Res :=
  cpy M (k1 + 1) (k0 + 1) 64 fun M1 =>
  some (0, M1)
set_option maxRecDepth 100000 in
theorem wX4_copy {E : jE} {X : jC} (hX : jOk X uX4_copy (gX E)) (fu : Nat) (k0 : Nat) (k1 : Nat) (hk0 : tX k0 = 4) (hk1 : tX k1 = 4)  (M : Mem) : J X uX4_copy (gX E) 0 [(0, .ref (gad (gX E) k0)), (1, .ref (gad (gX E) k1))] [] M (pX4_copy fu k0 k1  M) := by
  unfold pX4_copy
  refine j_aload_n (pc := 0) hX 1 dX4_copy_0 rfl rfl ?_
  refine j_getR (pc := 1) (t := (k1 + 1)) hX (hh hk1).1 hk1 (ci := 4) (C := RX4) (T := TX4) (N := 2) rfl (jb rfl) inX4 (j := 1) (jb rfl) (rf_h1 hk1) tw_167 dX4_copy_1 ?_
  refine j_iconst (pc := 4) (v := (0 : Int32)) hX dX4_copy_4 ci_0 ?_
  refine j_aload_n (pc := 5) hX 0 dX4_copy_5 rfl rfl ?_
  refine j_getR (pc := 6) (t := (k0 + 1)) hX (hh hk0).1 hk0 (ci := 4) (C := RX4) (T := TX4) (N := 2) rfl (jb rfl) inX4 (j := 1) (jb rfl) (rf_h1 hk0) tw_167 dX4_copy_6 ?_
  refine j_iconst (pc := 9) (v := (0 : Int32)) hX dX4_copy_9 ci_0 ?_
  refine j_aload_n (pc := 10) hX 0 dX4_copy_10 rfl rfl ?_
  refine j_getR (pc := 11) (t := (k0 + 1)) hX (hh hk0).1 hk0 (ci := 4) (C := RX4) (T := TX4) (N := 2) rfl (jb rfl) inX4 (j := 1) (jb rfl) (rf_h1 hk0) tw_167 dX4_copy_11 ?_
  refine j_alen (pc := 14) (n := 64) (v := (64 : Int32)) hX (hh hk0).2.2.2 (hh hk0).2.1 (Or.inl rfl) (hh hk0).2.2.1 (by decide) dX4_copy_14 ?_
  refine j_copy (pc := 15) hX (hh hk1).2.2.2 (hh hk0).2.2.2 (hh hk1).2.1 (hh hk0).2.1 (hh hk1).2.2.1 (hh hk0).2.2.1 (by decide) (by decide) tw_584 tw_586 tw_585 tw_73 (Nat.le_of_ble_eq_true rfl) (Nat.le_of_ble_eq_true rfl) dX4_copy_15 (fun M1 => ?_)
  exact j_vret (pc := 18) hX rfl dX4_copy_18
theorem mX4_copy (l : Launch) (E : jE) (hI : jInj (gX E)) (fu : Nat) (k0 : Nat) (k1 : Nat) (hk0 : tX k0 = 4) (hk1 : tX k1 = 4)  (M : Mem) : jMet l (gX E) yX4_copy cX4_copy 2 none rX4_copy [.ref (gad (gX E) k0), .ref (gad (gX E) k1)] M (pX4_copy fu k0 k1  M) :=
  j_entry hI (by decide +kernel) (Nat.le_of_ble_eq_true rfl) rfl (fun X _ hX => wX4_copy hX fu k0 k1 hk0 hk1  M)
theorem qX4_get : jYv yX4_get cX4_get 4 (some .int) 2 := ⟨tw_497, tw_498, tw_61, tw_499, ⟨by decide +kernel, by decide +kernel, by decide +kernel⟩⟩
abbrev rX4_get : Room := { frames := 0, cells := 0, slots := 0, locals := 0 }
def uX4_get : jM := (cX4_get, 4, RX4, (some .int), rX4_get)
def pX4_get (fu : Nat) (k0 : Nat) (x1 : Int32) (x2 : Int32) (M : Mem) : Res :=
  if ((x1 * (11 : Int32)) + x2) < 0 then (
    some ((0 : Int32), M))
  else
  if (64 : Int32) ≤ ((x1 * (11 : Int32)) + x2) then (
    some ((0 : Int32), M))
  else
  ld M (k0 + 1) 64 ((x1 * (11 : Int32)) + x2) fun v1 =>
  some (v1, M)
set_option maxRecDepth 100000 in
theorem wX4_get {E : jE} {X : jC} (hX : jOk X uX4_get (gX E)) (fu : Nat) (k0 : Nat) (hk0 : tX k0 = 4) (x1 : Int32) (x2 : Int32) (M : Mem) : J X uX4_get (gX E) 0 [(0, .ref (gad (gX E) k0)), (1, .int x1), (2, .int x2)] [] M (pX4_get fu k0 x1 x2 M) := by
  unfold pX4_get
  refine j_iload_n (pc := 0) hX 1 dX4_get_0 rfl rfl ?_
  refine j_bipush (pc := 1) (v := (11 : Int32)) hX dX4_get_1 cb_11 ?_
  refine j_imul (pc := 3) hX dX4_get_3 ?_
  refine j_iload_n (pc := 4) hX 2 dX4_get_4 rfl rfl ?_
  refine j_iadd (pc := 5) hX dX4_get_5 ?_
  refine j_istore_n (pc := 6) (lv' := [(3, .int ((x1 * (11 : Int32)) + x2)), (0, .ref (gad (gX E) k0)), (1, .int x1), (2, .int x2)]) hX dX4_get_6 rfl (jb rfl) rfl ?_
  refine j_iload_n (pc := 7) hX 0 dX4_get_7 rfl rfl ?_
  refine j_if_lt (pc := 8) hX 29 dX4_get_8 (by decide) ?_ ?_
  · refine j_iconst (pc := 29) (v := (0 : Int32)) hX dX4_get_29 ci_0 ?_
    exact j_iret (pc := 30) hX rfl dX4_get_30
  · refine j_iload_n (pc := 11) hX 0 dX4_get_11 rfl rfl ?_
    refine j_aload_n (pc := 12) hX 1 dX4_get_12 rfl rfl ?_
    refine j_getR (pc := 13) (t := (k0 + 1)) hX (hh hk0).1 hk0 (ci := 4) (C := RX4) (T := TX4) (N := 2) rfl (jb rfl) inX4 (j := 1) (jb rfl) (rf_h1 hk0) tw_167 dX4_get_13 ?_
    refine j_alen (pc := 16) (n := 64) (v := (64 : Int32)) hX (hh hk0).2.2.2 (hh hk0).2.1 (Or.inl rfl) (hh hk0).2.2.1 (by decide) dX4_get_16 ?_
    refine j_icmp_ge (pc := 17) hX 29 dX4_get_17 (by decide) ?_ ?_
    · refine j_iconst (pc := 29) (v := (0 : Int32)) hX dX4_get_29 ci_0 ?_
      exact j_iret (pc := 30) hX rfl dX4_get_30
    · refine j_aload_n (pc := 20) hX 1 dX4_get_20 rfl rfl ?_
      refine j_getR (pc := 21) (t := (k0 + 1)) hX (hh hk0).1 hk0 (ci := 4) (C := RX4) (T := TX4) (N := 2) rfl (jb rfl) inX4 (j := 1) (jb rfl) (rf_h1 hk0) tw_167 dX4_get_21 ?_
      refine j_iload_n (pc := 24) hX 0 dX4_get_24 rfl rfl ?_
      refine j_iald (pc := 25) hX (hh hk0).2.2.2 (hh hk0).2.1 (hh hk0).2.2.1 dX4_get_25 (fun v1 => ?_)
      refine j_goto (pc := 26) hX 30 dX4_get_26 (by decide) ?_
      exact j_iret (pc := 30) hX rfl dX4_get_30
theorem mX4_get (l : Launch) (E : jE) (hI : jInj (gX E)) (fu : Nat) (k0 : Nat) (hk0 : tX k0 = 4) (x1 : Int32) (x2 : Int32) (M : Mem) : jMet l (gX E) yX4_get cX4_get 4 (some .int) rX4_get [.ref (gad (gX E) k0), .int x1, .int x2] M (pX4_get fu k0 x1 x2 M) :=
  j_entry hI (by decide +kernel) (Nat.le_of_ble_eq_true rfl) rfl (fun X _ hX => wX4_get hX fu k0 hk0 x1 x2 M)
theorem qX4_is : jYv yX4_is cX4_is 3 (some .boolean) 2 := ⟨tw_547, tw_548, tw_61, tw_549, ⟨by decide +kernel, by decide +kernel, by decide +kernel⟩⟩
abbrev rX4_is : Room := { frames := 1, cells := 0, slots := 0, locals := 23 }
def uX4_is : jM := (cX4_is, 3, RX4, (some .boolean), rX4_is)
def pX4_is (fu : Nat) (k0 : Nat) (x1 : Int32) (x2 : Int32) (M : Mem) : Res :=
  bI (pX4_get fu k0 x1 (1 : Int32) M) fun r2 M1 =>
  if r2 = x2 then (
    rtz (1 : Int32) M1)
  else
  rtz (0 : Int32) M1
set_option maxRecDepth 100000 in
theorem wX4_is {E : jE} {X : jC} (hX : jOk X uX4_is (gX E)) (fu : Nat) (k0 : Nat) (hk0 : tX k0 = 4) (x1 : Int32) (x2 : Int32) (M : Mem) : J X uX4_is (gX E) 0 [(0, .ref (gad (gX E) k0)), (1, .int x1), (2, .int x2)] [] M (pX4_is fu k0 x1 x2 M) := by
  unfold pX4_is
  refine j_aload_n (pc := 0) hX 0 dX4_is_0 rfl rfl ?_
  refine j_iload_n (pc := 1) hX 1 dX4_is_1 rfl rfl ?_
  refine j_iconst (pc := 2) (v := (1 : Int32)) hX dX4_is_2 ci_1 ?_
  refine j_callV (pc := 3) hX [.int x1, .int (1 : Int32)] (mX4_get _ E hX.2.2.2.2.2.2.2.2.1 fu k0 hk0 x1 (1 : Int32) M) qX4_get tw_496 (hh hk0).1 hk0 (ci := 4) (T := TX4) (N := 2) rfl (jb rfl) rfl ⟨rfl, rfl⟩ ⟨(Nat.le_of_ble_eq_true rfl), (Nat.le_of_ble_eq_true rfl)⟩ (Nat.le_of_ble_eq_true rfl) dX4_is_3 (fun _ => rfl) rfl (fun r2 M1 => ?_)
  refine j_iload_n (pc := 6) hX 2 dX4_is_6 rfl rfl ?_
  refine j_icmp_ne (pc := 7) hX 14 dX4_is_7 (by decide) ?_ ?_
  · refine j_iconst (pc := 14) (v := (0 : Int32)) hX dX4_is_14 ci_0 ?_
    exact j_zret (pc := 15) hX rfl dX4_is_15
  · refine j_iconst (pc := 10) (v := (1 : Int32)) hX dX4_is_10 ci_1 ?_
    refine j_goto (pc := 11) hX 15 dX4_is_11 (by decide) ?_
    exact j_zret (pc := 15) hX rfl dX4_is_15
theorem mX4_is (l : Launch) (E : jE) (hI : jInj (gX E)) (fu : Nat) (k0 : Nat) (hk0 : tX k0 = 4) (x1 : Int32) (x2 : Int32) (M : Mem) : jMet l (gX E) yX4_is cX4_is 3 (some .boolean) rX4_is [.ref (gad (gX E) k0), .int x1, .int x2] M (pX4_is fu k0 x1 x2 M) :=
  j_entry hI (by decide +kernel) (Nat.le_of_ble_eq_true rfl) rfl (fun X _ hX => wX4_is hX fu k0 hk0 x1 x2 M)
theorem qX4_carries : jYv yX4_carries cX4_carries 2 (some .boolean) 1 := ⟨tw_543, tw_544, tw_61, tw_545, ⟨by decide +kernel, by decide +kernel, by decide +kernel⟩⟩
abbrev rX4_carries : Room := { frames := 2, cells := 0, slots := 0, locals := 45 }
def uX4_carries : jM := (cX4_carries, 2, RX4, (some .boolean), rX4_carries)
def pX4_carries (fu : Nat) (k0 : Nat) (x1 : Int32) (M : Mem) : Res :=
  bI (pX4_is fu k0 x1 (1 : Int32) M) fun r2 M1 =>
  if r2 = 0 then (
    bI (pX4_is fu k0 x1 (2 : Int32) M1) fun r4 M3 =>
    if r4 = 0 then (
      rtz (0 : Int32) M3)
    else
    rtz (1 : Int32) M3)
  else
  rtz (1 : Int32) M1
set_option maxRecDepth 100000 in
theorem wX4_carries {E : jE} {X : jC} (hX : jOk X uX4_carries (gX E)) (fu : Nat) (k0 : Nat) (hk0 : tX k0 = 4) (x1 : Int32) (M : Mem) : J X uX4_carries (gX E) 0 [(0, .ref (gad (gX E) k0)), (1, .int x1)] [] M (pX4_carries fu k0 x1 M) := by
  unfold pX4_carries
  refine j_aload_n (pc := 0) hX 0 dX4_carries_0 rfl rfl ?_
  refine j_iload_n (pc := 1) hX 1 dX4_carries_1 rfl rfl ?_
  refine j_iconst (pc := 2) (v := (1 : Int32)) hX dX4_carries_2 ci_1 ?_
  refine j_callV (pc := 3) hX [.int x1, .int (1 : Int32)] (mX4_is _ E hX.2.2.2.2.2.2.2.2.1 fu k0 hk0 x1 (1 : Int32) M) qX4_is tw_546 (hh hk0).1 hk0 (ci := 4) (T := TX4) (N := 2) rfl (jb rfl) rfl ⟨rfl, rfl⟩ ⟨(Nat.le_of_ble_eq_true rfl), (Nat.le_of_ble_eq_true rfl)⟩ (Nat.le_of_ble_eq_true rfl) dX4_carries_3 (fun _ => rfl) rfl (fun r2 M1 => ?_)
  refine j_if_ne (pc := 6) hX 18 dX4_carries_6 (by decide) ?_ ?_
  · refine j_iconst (pc := 18) (v := (1 : Int32)) hX dX4_carries_18 ci_1 ?_
    refine j_goto (pc := 19) hX 23 dX4_carries_19 (by decide) ?_
    exact j_zret (pc := 23) hX rfl dX4_carries_23
  · refine j_aload_n (pc := 9) hX 0 dX4_carries_9 rfl rfl ?_
    refine j_iload_n (pc := 10) hX 1 dX4_carries_10 rfl rfl ?_
    refine j_iconst (pc := 11) (v := (2 : Int32)) hX dX4_carries_11 ci_2 ?_
    refine j_callV (pc := 12) hX [.int x1, .int (2 : Int32)] (mX4_is _ E hX.2.2.2.2.2.2.2.2.1 fu k0 hk0 x1 (2 : Int32) M1) qX4_is tw_546 (hh hk0).1 hk0 (ci := 4) (T := TX4) (N := 2) rfl (jb rfl) rfl ⟨rfl, rfl⟩ ⟨(Nat.le_of_ble_eq_true rfl), (Nat.le_of_ble_eq_true rfl)⟩ (Nat.le_of_ble_eq_true rfl) dX4_carries_12 (fun _ => rfl) rfl (fun r4 M3 => ?_)
    refine j_if_eq (pc := 15) hX 22 dX4_carries_15 (by decide) ?_ ?_
    · refine j_iconst (pc := 22) (v := (0 : Int32)) hX dX4_carries_22 ci_0 ?_
      exact j_zret (pc := 23) hX rfl dX4_carries_23
    · refine j_iconst (pc := 18) (v := (1 : Int32)) hX dX4_carries_18 ci_1 ?_
      refine j_goto (pc := 19) hX 23 dX4_carries_19 (by decide) ?_
      exact j_zret (pc := 23) hX rfl dX4_carries_23
theorem mX4_carries (l : Launch) (E : jE) (hI : jInj (gX E)) (fu : Nat) (k0 : Nat) (hk0 : tX k0 = 4) (x1 : Int32) (M : Mem) : jMet l (gX E) yX4_carries cX4_carries 2 (some .boolean) rX4_carries [.ref (gad (gX E) k0), .int x1] M (pX4_carries fu k0 x1 M) :=
  j_entry hI (by decide +kernel) (Nat.le_of_ble_eq_true rfl) rfl (fun X _ hX => wX4_carries hX fu k0 hk0 x1 M)
theorem qX4_isUnderWay : jYv yX4_isUnderWay cX4_isUnderWay 2 (some .boolean) 1 := ⟨tw_600, tw_601, tw_61, tw_602, ⟨by decide +kernel, by decide +kernel, by decide +kernel⟩⟩
abbrev rX4_isUnderWay : Room := { frames := 2, cells := 0, slots := 0, locals := 45 }
def uX4_isUnderWay : jM := (cX4_isUnderWay, 2, RX4, (some .boolean), rX4_isUnderWay)
def pX4_isUnderWay (fu : Nat) (k0 : Nat) (x1 : Int32) (M : Mem) : Res :=
  bI (pX4_is fu k0 x1 (1 : Int32) M) fun r2 M1 =>
  if r2 = 0 then (
    bI (pX4_is fu k0 x1 (3 : Int32) M1) fun r4 M3 =>
    if r4 = 0 then (
      rtz (0 : Int32) M3)
    else
    rtz (1 : Int32) M3)
  else
  rtz (1 : Int32) M1
set_option maxRecDepth 100000 in
theorem wX4_isUnderWay {E : jE} {X : jC} (hX : jOk X uX4_isUnderWay (gX E)) (fu : Nat) (k0 : Nat) (hk0 : tX k0 = 4) (x1 : Int32) (M : Mem) : J X uX4_isUnderWay (gX E) 0 [(0, .ref (gad (gX E) k0)), (1, .int x1)] [] M (pX4_isUnderWay fu k0 x1 M) := by
  unfold pX4_isUnderWay
  refine j_aload_n (pc := 0) hX 0 dX4_isUnderWay_0 rfl rfl ?_
  refine j_iload_n (pc := 1) hX 1 dX4_isUnderWay_1 rfl rfl ?_
  refine j_iconst (pc := 2) (v := (1 : Int32)) hX dX4_isUnderWay_2 ci_1 ?_
  refine j_callV (pc := 3) hX [.int x1, .int (1 : Int32)] (mX4_is _ E hX.2.2.2.2.2.2.2.2.1 fu k0 hk0 x1 (1 : Int32) M) qX4_is tw_546 (hh hk0).1 hk0 (ci := 4) (T := TX4) (N := 2) rfl (jb rfl) rfl ⟨rfl, rfl⟩ ⟨(Nat.le_of_ble_eq_true rfl), (Nat.le_of_ble_eq_true rfl)⟩ (Nat.le_of_ble_eq_true rfl) dX4_isUnderWay_3 (fun _ => rfl) rfl (fun r2 M1 => ?_)
  refine j_if_ne (pc := 6) hX 18 dX4_isUnderWay_6 (by decide) ?_ ?_
  · refine j_iconst (pc := 18) (v := (1 : Int32)) hX dX4_isUnderWay_18 ci_1 ?_
    refine j_goto (pc := 19) hX 23 dX4_isUnderWay_19 (by decide) ?_
    exact j_zret (pc := 23) hX rfl dX4_isUnderWay_23
  · refine j_aload_n (pc := 9) hX 0 dX4_isUnderWay_9 rfl rfl ?_
    refine j_iload_n (pc := 10) hX 1 dX4_isUnderWay_10 rfl rfl ?_
    refine j_iconst (pc := 11) (v := (3 : Int32)) hX dX4_isUnderWay_11 ci_3 ?_
    refine j_callV (pc := 12) hX [.int x1, .int (3 : Int32)] (mX4_is _ E hX.2.2.2.2.2.2.2.2.1 fu k0 hk0 x1 (3 : Int32) M1) qX4_is tw_546 (hh hk0).1 hk0 (ci := 4) (T := TX4) (N := 2) rfl (jb rfl) rfl ⟨rfl, rfl⟩ ⟨(Nat.le_of_ble_eq_true rfl), (Nat.le_of_ble_eq_true rfl)⟩ (Nat.le_of_ble_eq_true rfl) dX4_isUnderWay_12 (fun _ => rfl) rfl (fun r4 M3 => ?_)
    refine j_if_eq (pc := 15) hX 22 dX4_isUnderWay_15 (by decide) ?_ ?_
    · refine j_iconst (pc := 22) (v := (0 : Int32)) hX dX4_isUnderWay_22 ci_0 ?_
      exact j_zret (pc := 23) hX rfl dX4_isUnderWay_23
    · refine j_iconst (pc := 18) (v := (1 : Int32)) hX dX4_isUnderWay_18 ci_1 ?_
      refine j_goto (pc := 19) hX 23 dX4_isUnderWay_19 (by decide) ?_
      exact j_zret (pc := 23) hX rfl dX4_isUnderWay_23
theorem mX4_isUnderWay (l : Launch) (E : jE) (hI : jInj (gX E)) (fu : Nat) (k0 : Nat) (hk0 : tX k0 = 4) (x1 : Int32) (M : Mem) : jMet l (gX E) yX4_isUnderWay cX4_isUnderWay 2 (some .boolean) rX4_isUnderWay [.ref (gad (gX E) k0), .int x1] M (pX4_isUnderWay fu k0 x1 M) :=
  j_entry hI (by decide +kernel) (Nat.le_of_ble_eq_true rfl) rfl (fun X _ hX => wX4_isUnderWay hX fu k0 hk0 x1 M)
theorem qX4_set : jYv yX4_set cX4_set 5 none 3 := ⟨tw_397, tw_5, tw_61, tw_398, ⟨by decide +kernel, by decide +kernel, by decide +kernel⟩⟩
abbrev rX4_set : Room := { frames := 0, cells := 0, slots := 0, locals := 0 }
def uX4_set : jM := (cX4_set, 5, RX4, none, rX4_set)
def pX4_set (fu : Nat) (k0 : Nat) (x1 : Int32) (x2 : Int32) (x3 : Int32) (M : Mem) : Res :=
  if ((x1 * (11 : Int32)) + x2) < 0 then (
    some (0, M))
  else
  if (64 : Int32) ≤ ((x1 * (11 : Int32)) + x2) then (
    some (0, M))
  else
  sto M (k0 + 1) 64 ((x1 * (11 : Int32)) + x2) x3 fun M1 =>
  some (0, M1)
set_option maxRecDepth 100000 in
theorem wX4_set {E : jE} {X : jC} (hX : jOk X uX4_set (gX E)) (fu : Nat) (k0 : Nat) (hk0 : tX k0 = 4) (x1 : Int32) (x2 : Int32) (x3 : Int32) (M : Mem) : J X uX4_set (gX E) 0 [(0, .ref (gad (gX E) k0)), (1, .int x1), (2, .int x2), (3, .int x3)] [] M (pX4_set fu k0 x1 x2 x3 M) := by
  unfold pX4_set
  refine j_iload_n (pc := 0) hX 1 dX4_set_0 rfl rfl ?_
  refine j_bipush (pc := 1) (v := (11 : Int32)) hX dX4_set_1 cb_11 ?_
  refine j_imul (pc := 3) hX dX4_set_3 ?_
  refine j_iload_n (pc := 4) hX 2 dX4_set_4 rfl rfl ?_
  refine j_iadd (pc := 5) hX dX4_set_5 ?_
  refine j_istore (pc := 6) (lv' := [(4, .int ((x1 * (11 : Int32)) + x2)), (0, .ref (gad (gX E) k0)), (1, .int x1), (2, .int x2), (3, .int x3)]) hX dX4_set_6 (jb rfl) rfl ?_
  refine j_iload (pc := 8) hX 0 dX4_set_8 rfl ?_
  refine j_if_lt (pc := 10) hX 31 dX4_set_10 (by decide) ?_ ?_
  · exact j_vret (pc := 31) hX rfl dX4_set_31
  · refine j_iload (pc := 13) hX 0 dX4_set_13 rfl ?_
    refine j_aload_n (pc := 15) hX 1 dX4_set_15 rfl rfl ?_
    refine j_getR (pc := 16) (t := (k0 + 1)) hX (hh hk0).1 hk0 (ci := 4) (C := RX4) (T := TX4) (N := 2) rfl (jb rfl) inX4 (j := 1) (jb rfl) (rf_h1 hk0) tw_167 dX4_set_16 ?_
    refine j_alen (pc := 19) (n := 64) (v := (64 : Int32)) hX (hh hk0).2.2.2 (hh hk0).2.1 (Or.inl rfl) (hh hk0).2.2.1 (by decide) dX4_set_19 ?_
    refine j_icmp_ge (pc := 20) hX 31 dX4_set_20 (by decide) ?_ ?_
    · exact j_vret (pc := 31) hX rfl dX4_set_31
    · refine j_aload_n (pc := 23) hX 1 dX4_set_23 rfl rfl ?_
      refine j_getR (pc := 24) (t := (k0 + 1)) hX (hh hk0).1 hk0 (ci := 4) (C := RX4) (T := TX4) (N := 2) rfl (jb rfl) inX4 (j := 1) (jb rfl) (rf_h1 hk0) tw_167 dX4_set_24 ?_
      refine j_iload (pc := 27) hX 0 dX4_set_27 rfl ?_
      refine j_iload_n (pc := 29) hX 4 dX4_set_29 rfl rfl ?_
      refine j_iast (pc := 30) hX (hh hk0).2.2.2 (hh hk0).2.1 (hh hk0).2.2.1 dX4_set_30 (fun M1 => ?_)
      exact j_vret (pc := 31) hX rfl dX4_set_31
theorem mX4_set (l : Launch) (E : jE) (hI : jInj (gX E)) (fu : Nat) (k0 : Nat) (hk0 : tX k0 = 4) (x1 : Int32) (x2 : Int32) (x3 : Int32) (M : Mem) : jMet l (gX E) yX4_set cX4_set 5 none rX4_set [.ref (gad (gX E) k0), .int x1, .int x2, .int x3] M (pX4_set fu k0 x1 x2 x3 M) :=
  j_entry hI (by decide +kernel) (Nat.le_of_ble_eq_true rfl) rfl (fun X _ hX => wX4_set hX fu k0 hk0 x1 x2 x3 M)
theorem qX4_end : jYv yX4_end cX4_end 2 none 1 := ⟨tw_609, tw_7, tw_61, tw_610, ⟨by decide +kernel, by decide +kernel, by decide +kernel⟩⟩
abbrev rX4_end : Room := { frames := 1, cells := 0, slots := 0, locals := 24 }
def uX4_end : jM := (cX4_end, 2, RX4, none, rX4_end)
def pX4_end_18 (fu : Nat) (k0 : Nat) (s0 : Int32) (s1 : Int32) (s2 : Int32) (M : Mem)  : Res :=
  bV (pX4_set fu k0 s2 s1 s0 M) fun M3 =>
  some (0, M3)
set_option maxRecDepth 100000 in
theorem wX4_end_18 {E : jE} {X : jC} (hX : jOk X uX4_end (gX E)) (fu : Nat) (k0 : Nat) (hk0 : tX k0 = 4) (s0 : Int32) (s1 : Int32) (s2 : Int32) (M : Mem)   : J X uX4_end (gX E) 18 [] [.int s0, .int s1, .int s2, .ref (gad (gX E) k0)] M (pX4_end_18 fu k0 s0 s1 s2 M ) := by
  unfold pX4_end_18
  refine j_callVv (pc := 18) hX [.int s2, .int s1, .int s0] (mX4_set _ E hX.2.2.2.2.2.2.2.2.1 fu k0 hk0 s2 s1 s0 M) qX4_set tw_395 (hh hk0).1 hk0 (ci := 4) (T := TX4) (N := 2) rfl (jb rfl) rfl ⟨rfl, rfl⟩ ⟨(Nat.le_of_ble_eq_true rfl), (Nat.le_of_ble_eq_true rfl)⟩ (Nat.le_of_ble_eq_true rfl) dX4_end_18 rfl (fun M3 => ?_)
  exact j_vret (pc := 21) hX rfl dX4_end_21
def pX4_end (fu : Nat) (k0 : Nat) (x1 : Int32) (M : Mem) : Res :=
  bI (pX4_get fu k0 x1 (1 : Int32) M) fun r2 M1 =>
  if r2 = (1 : Int32) then (
    pX4_end_18 fu k0 (2 : Int32) (1 : Int32) x1 M1 )
  else
  pX4_end_18 fu k0 (0 : Int32) (1 : Int32) x1 M1 
set_option maxRecDepth 100000 in
theorem wX4_end {E : jE} {X : jC} (hX : jOk X uX4_end (gX E)) (fu : Nat) (k0 : Nat) (hk0 : tX k0 = 4) (x1 : Int32) (M : Mem) : J X uX4_end (gX E) 0 [(0, .ref (gad (gX E) k0)), (1, .int x1)] [] M (pX4_end fu k0 x1 M) := by
  unfold pX4_end
  refine j_aload_n (pc := 0) hX 0 dX4_end_0 rfl rfl ?_
  refine j_iload_n (pc := 1) hX 1 dX4_end_1 rfl rfl ?_
  refine j_iconst (pc := 2) (v := (1 : Int32)) hX dX4_end_2 ci_1 ?_
  refine j_aload_n (pc := 3) hX 0 dX4_end_3 rfl rfl ?_
  refine j_iload_n (pc := 4) hX 1 dX4_end_4 rfl rfl ?_
  refine j_iconst (pc := 5) (v := (1 : Int32)) hX dX4_end_5 ci_1 ?_
  refine j_callV (pc := 6) hX [.int x1, .int (1 : Int32)] (mX4_get _ E hX.2.2.2.2.2.2.2.2.1 fu k0 hk0 x1 (1 : Int32) M) qX4_get tw_496 (hh hk0).1 hk0 (ci := 4) (T := TX4) (N := 2) rfl (jb rfl) rfl ⟨rfl, rfl⟩ ⟨(Nat.le_of_ble_eq_true rfl), (Nat.le_of_ble_eq_true rfl)⟩ (Nat.le_of_ble_eq_true rfl) dX4_end_6 (fun _ => rfl) rfl (fun r2 M1 => ?_)
  refine j_iconst (pc := 9) (v := (1 : Int32)) hX dX4_end_9 ci_1 ?_
  refine j_icmp_ne (pc := 10) hX 17 dX4_end_10 (by decide) ?_ ?_
  · refine j_iconst (pc := 17) (v := (0 : Int32)) hX dX4_end_17 ci_0 ?_
    exact j_sub [] rfl (wX4_end_18 hX fu k0 hk0 (0 : Int32) (1 : Int32) x1 M1  )
  · refine j_iconst (pc := 13) (v := (2 : Int32)) hX dX4_end_13 ci_2 ?_
    refine j_goto (pc := 14) hX 18 dX4_end_14 (by decide) ?_
    exact j_sub [] rfl (wX4_end_18 hX fu k0 hk0 (2 : Int32) (1 : Int32) x1 M1  )
theorem mX4_end (l : Launch) (E : jE) (hI : jInj (gX E)) (fu : Nat) (k0 : Nat) (hk0 : tX k0 = 4) (x1 : Int32) (M : Mem) : jMet l (gX E) yX4_end cX4_end 2 none rX4_end [.ref (gad (gX E) k0), .int x1] M (pX4_end fu k0 x1 M) :=
  j_entry hI (by decide +kernel) (Nat.le_of_ble_eq_true rfl) rfl (fun X _ hX => wX4_end hX fu k0 hk0 x1 M)
theorem qX4_carrotsIn : jYv yX4_carrotsIn cX4_carrotsIn 2 (some .int) 1 := ⟨tw_480, tw_481, tw_61, tw_482, ⟨by decide +kernel, by decide +kernel, by decide +kernel⟩⟩
abbrev rX4_carrotsIn : Room := { frames := 1, cells := 0, slots := 0, locals := 21 }
def uX4_carrotsIn : jM := (cX4_carrotsIn, 2, RX4, (some .int), rX4_carrotsIn)
def pX4_carrotsIn (fu : Nat) (k0 : Nat) (x1 : Int32) (M : Mem) : Res :=
  bI (pX6_at fu (k0 + 1) 64 ((55 : Int32) + x1) M) fun r2 M1 =>
  some (r2, M1)
set_option maxRecDepth 100000 in
theorem wX4_carrotsIn {E : jE} {X : jC} (hX : jOk X uX4_carrotsIn (gX E)) (fu : Nat) (k0 : Nat) (hk0 : tX k0 = 4) (x1 : Int32) (M : Mem) : J X uX4_carrotsIn (gX E) 0 [(0, .ref (gad (gX E) k0)), (1, .int x1)] [] M (pX4_carrotsIn fu k0 x1 M) := by
  unfold pX4_carrotsIn
  refine j_aload_n (pc := 0) hX 0 dX4_carrotsIn_0 rfl rfl ?_
  refine j_getR (pc := 1) (t := (k0 + 1)) hX (hh hk0).1 hk0 (ci := 4) (C := RX4) (T := TX4) (N := 2) rfl (jb rfl) inX4 (j := 1) (jb rfl) (rf_h1 hk0) tw_167 dX4_carrotsIn_1 ?_
  refine j_bipush (pc := 4) (v := (55 : Int32)) hX dX4_carrotsIn_4 cb_55 ?_
  refine j_iload_n (pc := 6) hX 1 dX4_carrotsIn_6 rfl rfl ?_
  refine j_iadd (pc := 7) hX dX4_carrotsIn_7 ?_
  refine j_callS (pc := 8) hX [.ref (gad (gX E) (k0 + 1)), .int ((55 : Int32) + x1)] (mX6_at _ E hX.2.2.2.2.2.2.2.2.1 fu (k0 + 1) 64 (hh hk0).2.1 (hh hk0).2.2.1 ((55 : Int32) + x1) M) qX6_at tw_483 rfl ⟨rfl, rfl⟩ ⟨(Nat.le_of_ble_eq_true rfl), (Nat.le_of_ble_eq_true rfl)⟩ (Nat.le_of_ble_eq_true rfl) dX4_carrotsIn_8 (fun _ => rfl) rfl (fun r2 M1 => ?_)
  exact j_iret (pc := 11) hX rfl dX4_carrotsIn_11
theorem mX4_carrotsIn (l : Launch) (E : jE) (hI : jInj (gX E)) (fu : Nat) (k0 : Nat) (hk0 : tX k0 = 4) (x1 : Int32) (M : Mem) : jMet l (gX E) yX4_carrotsIn cX4_carrotsIn 2 (some .int) rX4_carrotsIn [.ref (gad (gX E) k0), .int x1] M (pX4_carrotsIn fu k0 x1 M) :=
  j_entry hI (by decide +kernel) (Nat.le_of_ble_eq_true rfl) rfl (fun X _ hX => wX4_carrotsIn hX fu k0 hk0 x1 M)
theorem qX4_putCarrots : jYv yX4_putCarrots cX4_putCarrots 3 none 2 := ⟨tw_408, tw_409, tw_61, tw_410, ⟨by decide +kernel, by decide +kernel, by decide +kernel⟩⟩
abbrev rX4_putCarrots : Room := { frames := 1, cells := 0, slots := 0, locals := 22 }
def uX4_putCarrots : jM := (cX4_putCarrots, 3, RX4, none, rX4_putCarrots)
def pX4_putCarrots (fu : Nat) (k0 : Nat) (x1 : Int32) (x2 : Int32) (M : Mem) : Res :=
  bV (pX6_put fu (k0 + 1) 64 ((55 : Int32) + x1) x2 M) fun M1 =>
  some (0, M1)
set_option maxRecDepth 100000 in
theorem wX4_putCarrots {E : jE} {X : jC} (hX : jOk X uX4_putCarrots (gX E)) (fu : Nat) (k0 : Nat) (hk0 : tX k0 = 4) (x1 : Int32) (x2 : Int32) (M : Mem) : J X uX4_putCarrots (gX E) 0 [(0, .ref (gad (gX E) k0)), (1, .int x1), (2, .int x2)] [] M (pX4_putCarrots fu k0 x1 x2 M) := by
  unfold pX4_putCarrots
  refine j_aload_n (pc := 0) hX 0 dX4_putCarrots_0 rfl rfl ?_
  refine j_getR (pc := 1) (t := (k0 + 1)) hX (hh hk0).1 hk0 (ci := 4) (C := RX4) (T := TX4) (N := 2) rfl (jb rfl) inX4 (j := 1) (jb rfl) (rf_h1 hk0) tw_167 dX4_putCarrots_1 ?_
  refine j_bipush (pc := 4) (v := (55 : Int32)) hX dX4_putCarrots_4 cb_55 ?_
  refine j_iload_n (pc := 6) hX 1 dX4_putCarrots_6 rfl rfl ?_
  refine j_iadd (pc := 7) hX dX4_putCarrots_7 ?_
  refine j_iload_n (pc := 8) hX 2 dX4_putCarrots_8 rfl rfl ?_
  refine j_callSv (pc := 9) hX [.ref (gad (gX E) (k0 + 1)), .int ((55 : Int32) + x1), .int x2] (mX6_put _ E hX.2.2.2.2.2.2.2.2.1 fu (k0 + 1) 64 (hh hk0).2.1 (hh hk0).2.2.1 ((55 : Int32) + x1) x2 M) qX6_put tw_411 rfl ⟨rfl, rfl⟩ ⟨(Nat.le_of_ble_eq_true rfl), (Nat.le_of_ble_eq_true rfl)⟩ (Nat.le_of_ble_eq_true rfl) dX4_putCarrots_9 rfl (fun M1 => ?_)
  exact j_vret (pc := 12) hX rfl dX4_putCarrots_12
theorem mX4_putCarrots (l : Launch) (E : jE) (hI : jInj (gX E)) (fu : Nat) (k0 : Nat) (hk0 : tX k0 = 4) (x1 : Int32) (x2 : Int32) (M : Mem) : jMet l (gX E) yX4_putCarrots cX4_putCarrots 3 none rX4_putCarrots [.ref (gad (gX E) k0), .int x1, .int x2] M (pX4_putCarrots fu k0 x1 x2 M) :=
  j_entry hI (by decide +kernel) (Nat.le_of_ble_eq_true rfl) rfl (fun X _ hX => wX4_putCarrots hX fu k0 hk0 x1 x2 M)
theorem qX4_arrive : jYv yX4_arrive cX4_arrive 6 none 3 := ⟨tw_619, tw_8, tw_61, tw_620, ⟨by decide +kernel, by decide +kernel, by decide +kernel⟩⟩
abbrev rX4_arrive : Room := { frames := 2, cells := 0, slots := 0, locals := 45 }
def uX4_arrive : jM := (cX4_arrive, 6, RX4, none, rX4_arrive)
def pX4_arrive_114 (fu : Nat) (k0 : Nat) (x1 : Int32) (x2 : Int32) (x3 : Int32) (x5 : Int32) (M : Mem)  : Res :=
  if x2 = x3 then (
    bV (pX4_end fu k0 x1 M) fun M10 =>
    some (0, M10))
  else
  bV (pX4_set fu k0 x1 (4 : Int32) x5 M) fun M9 =>
  some (0, M9)
set_option maxRecDepth 100000 in
theorem wX4_arrive_114 {E : jE} {X : jC} (hX : jOk X uX4_arrive (gX E)) (fu : Nat) (k0 : Nat) (hk0 : tX k0 = 4) (x1 : Int32) (x2 : Int32) (x3 : Int32) (x5 : Int32) (M : Mem)   : J X uX4_arrive (gX E) 114 [(0, .ref (gad (gX E) k0)), (1, .int x1), (2, .int x2), (3, .int x3), (5, .int x5)] [] M (pX4_arrive_114 fu k0 x1 x2 x3 x5 M ) := by
  unfold pX4_arrive_114
  refine j_iload_n (pc := 114) hX 2 dX4_arrive_114 rfl rfl ?_
  refine j_iload_n (pc := 115) hX 3 dX4_arrive_115 rfl rfl ?_
  refine j_icmp_ne (pc := 116) hX 127 dX4_arrive_116 (by decide) ?_ ?_
  · refine j_aload_n (pc := 127) hX 0 dX4_arrive_127 rfl rfl ?_
    refine j_iload_n (pc := 128) hX 1 dX4_arrive_128 rfl rfl ?_
    refine j_iconst (pc := 129) (v := (4 : Int32)) hX dX4_arrive_129 ci_4 ?_
    refine j_iload (pc := 130) hX 4 dX4_arrive_130 rfl ?_
    refine j_callVv (pc := 132) hX [.int x1, .int (4 : Int32), .int x5] (mX4_set _ E hX.2.2.2.2.2.2.2.2.1 fu k0 hk0 x1 (4 : Int32) x5 M) qX4_set tw_395 (hh hk0).1 hk0 (ci := 4) (T := TX4) (N := 2) rfl (jb rfl) rfl ⟨rfl, rfl⟩ ⟨(Nat.le_of_ble_eq_true rfl), (Nat.le_of_ble_eq_true rfl)⟩ (Nat.le_of_ble_eq_true rfl) dX4_arrive_132 rfl (fun M9 => ?_)
    exact j_vret (pc := 135) hX rfl dX4_arrive_135
  · refine j_aload_n (pc := 119) hX 0 dX4_arrive_119 rfl rfl ?_
    refine j_iload_n (pc := 120) hX 1 dX4_arrive_120 rfl rfl ?_
    refine j_callVv (pc := 121) hX [.int x1] (mX4_end _ E hX.2.2.2.2.2.2.2.2.1 fu k0 hk0 x1 M) qX4_end tw_607 (hh hk0).1 hk0 (ci := 4) (T := TX4) (N := 2) rfl (jb rfl) rfl ⟨rfl, rfl⟩ ⟨(Nat.le_of_ble_eq_true rfl), (Nat.le_of_ble_eq_true rfl)⟩ (Nat.le_of_ble_eq_true rfl) dX4_arrive_121 rfl (fun M10 => ?_)
    refine j_goto (pc := 124) hX 135 dX4_arrive_124 (by decide) ?_
    exact j_vret (pc := 135) hX rfl dX4_arrive_135
def pX4_arrive_95 (fu : Nat) (k0 : Nat) (x1 : Int32) (x2 : Int32) (x3 : Int32) (x5 : Int32) (M : Mem)  : Res :=
  bI (pX4_get fu k0 x1 (8 : Int32) M) fun r12 M11 =>
  bV (pX4_set fu k0 x1 (8 : Int32) (r12 + (1 : Int32)) M11) fun M13 =>
  pX4_arrive_114 fu k0 x1 x2 x3 (x5 + (2 : Int32)) M13 
set_option maxRecDepth 100000 in
theorem wX4_arrive_95 {E : jE} {X : jC} (hX : jOk X uX4_arrive (gX E)) (fu : Nat) (k0 : Nat) (hk0 : tX k0 = 4) (x1 : Int32) (x2 : Int32) (x3 : Int32) (x5 : Int32) (M : Mem)   : J X uX4_arrive (gX E) 95 [(0, .ref (gad (gX E) k0)), (1, .int x1), (2, .int x2), (3, .int x3), (5, .int x5)] [] M (pX4_arrive_95 fu k0 x1 x2 x3 x5 M ) := by
  unfold pX4_arrive_95
  refine j_aload_n (pc := 95) hX 0 dX4_arrive_95 rfl rfl ?_
  refine j_iload_n (pc := 96) hX 1 dX4_arrive_96 rfl rfl ?_
  refine j_bipush (pc := 97) (v := (8 : Int32)) hX dX4_arrive_97 cb_8 ?_
  refine j_aload_n (pc := 99) hX 0 dX4_arrive_99 rfl rfl ?_
  refine j_iload_n (pc := 100) hX 1 dX4_arrive_100 rfl rfl ?_
  refine j_bipush (pc := 101) (v := (8 : Int32)) hX dX4_arrive_101 cb_8 ?_
  refine j_callV (pc := 103) hX [.int x1, .int (8 : Int32)] (mX4_get _ E hX.2.2.2.2.2.2.2.2.1 fu k0 hk0 x1 (8 : Int32) M) qX4_get tw_496 (hh hk0).1 hk0 (ci := 4) (T := TX4) (N := 2) rfl (jb rfl) rfl ⟨rfl, rfl⟩ ⟨(Nat.le_of_ble_eq_true rfl), (Nat.le_of_ble_eq_true rfl)⟩ (Nat.le_of_ble_eq_true rfl) dX4_arrive_103 (fun _ => rfl) rfl (fun r12 M11 => ?_)
  refine j_iconst (pc := 106) (v := (1 : Int32)) hX dX4_arrive_106 ci_1 ?_
  refine j_iadd (pc := 107) hX dX4_arrive_107 ?_
  refine j_callVv (pc := 108) hX [.int x1, .int (8 : Int32), .int (r12 + (1 : Int32))] (mX4_set _ E hX.2.2.2.2.2.2.2.2.1 fu k0 hk0 x1 (8 : Int32) (r12 + (1 : Int32)) M11) qX4_set tw_395 (hh hk0).1 hk0 (ci := 4) (T := TX4) (N := 2) rfl (jb rfl) rfl ⟨rfl, rfl⟩ ⟨(Nat.le_of_ble_eq_true rfl), (Nat.le_of_ble_eq_true rfl)⟩ (Nat.le_of_ble_eq_true rfl) dX4_arrive_108 rfl (fun M13 => ?_)
  refine j_iinc (pc := 111) (v := (x5 + (2 : Int32))) (lv' := [(5, .int (x5 + (2 : Int32))), (0, .ref (gad (gX E) k0)), (1, .int x1), (2, .int x2), (3, .int x3)]) hX 4 dX4_arrive_111 rfl (by rw [ci_2]) (jb rfl) rfl ?_
  exact j_sub [1, 2, 3, 4, 0] rfl (wX4_arrive_114 hX fu k0 hk0 x1 x2 x3 (x5 + (2 : Int32)) M13  )
def pX4_arrive_73 (fu : Nat) (k0 : Nat) (x1 : Int32) (x2 : Int32) (x3 : Int32) (x4 : Int32) (x5 : Int32) (M : Mem)  : Res :=
  bI (pX1_hasMare fu 5 x2 M) fun r8 M7 =>
  if r8 = 0 then (
    pX4_arrive_114 fu k0 x1 x2 x3 x5 M7 )
  else
  if x4 = 0 then (
    pX4_arrive_95 fu k0 x1 x2 x3 x5 M7 )
  else
  if x4 = (2 : Int32) then (
    pX4_arrive_95 fu k0 x1 x2 x3 x5 M7 )
  else
  pX4_arrive_114 fu k0 x1 x2 x3 x5 M7 
set_option maxRecDepth 100000 in
theorem wX4_arrive_73 {E : jE} {X : jC} (hX : jOk X uX4_arrive (gX E)) (fu : Nat) (k0 : Nat) (hk0 : tX k0 = 4) (x1 : Int32) (x2 : Int32) (x3 : Int32) (x4 : Int32) (x5 : Int32) (M : Mem)   : J X uX4_arrive (gX E) 73 [(0, .ref (gad (gX E) k0)), (1, .int x1), (2, .int x2), (3, .int x3), (4, .int x4), (5, .int x5)] [] M (pX4_arrive_73 fu k0 x1 x2 x3 x4 x5 M ) := by
  unfold pX4_arrive_73
  refine j_aload_n (pc := 73) hX 0 dX4_arrive_73 rfl rfl ?_
  refine j_getR (pc := 74) (t := 5) hX (hh hk0).1 hk0 (ci := 4) (C := RX4) (T := TX4) (N := 2) rfl (jb rfl) inX4 (j := 0) (jb rfl) (rf_h0 hk0) tw_166 dX4_arrive_74 ?_
  refine j_iload_n (pc := 77) hX 2 dX4_arrive_77 rfl rfl ?_
  refine j_callV (pc := 78) hX [.int x2] (mX1_hasMare _ E hX.2.2.2.2.2.2.2.2.1 fu 5 rfl x2 M) qX1_hasMare tw_622 (jb rfl) rfl (ci := 1) (T := TX1) (N := 13) rfl (jb rfl) rfl ⟨rfl, rfl⟩ ⟨(Nat.le_of_ble_eq_true rfl), (Nat.le_of_ble_eq_true rfl)⟩ (Nat.le_of_ble_eq_true rfl) dX4_arrive_78 (fun _ => rfl) rfl (fun r8 M7 => ?_)
  refine j_if_eq (pc := 81) hX 114 dX4_arrive_81 (by decide) ?_ ?_
  · exact j_sub [0, 1, 2, 3, 5] rfl (wX4_arrive_114 hX fu k0 hk0 x1 x2 x3 x5 M7  )
  · refine j_iload (pc := 84) hX 4 dX4_arrive_84 rfl ?_
    refine j_if_eq (pc := 86) hX 95 dX4_arrive_86 (by decide) ?_ ?_
    · exact j_sub [0, 1, 2, 3, 5] rfl (wX4_arrive_95 hX fu k0 hk0 x1 x2 x3 x5 M7  )
    · refine j_iload (pc := 89) hX 4 dX4_arrive_89 rfl ?_
      refine j_iconst (pc := 91) (v := (2 : Int32)) hX dX4_arrive_91 ci_2 ?_
      refine j_icmp_ne (pc := 92) hX 114 dX4_arrive_92 (by decide) ?_ ?_
      · exact j_sub [0, 1, 2, 3, 5] rfl (wX4_arrive_114 hX fu k0 hk0 x1 x2 x3 x5 M7  )
      · exact j_sub [0, 1, 2, 3, 5] rfl (wX4_arrive_95 hX fu k0 hk0 x1 x2 x3 x5 M7  )
def pX4_arrive (fu : Nat) (k0 : Nat) (x1 : Int32) (x2 : Int32) (x3 : Int32) (M : Mem) : Res :=
  bV (pX4_set fu k0 x1 (2 : Int32) x2 M) fun M1 =>
  bV (pX4_set fu k0 x1 (3 : Int32) (-4 : Int32) M1) fun M2 =>
  bI (pX1_kind fu 5 x1 M2) fun r4 M3 =>
  bI (pX4_carrotsIn fu k0 x2 M3) fun r6 M5 =>
  if r6 ≤ 0 then (
    pX4_arrive_73 fu k0 x1 x2 x3 r4 (0 : Int32) M5 )
  else
  if r4 = (3 : Int32) then (
    pX4_arrive_73 fu k0 x1 x2 x3 r4 (0 : Int32) M5 )
  else
  bI (pX4_carrotsIn fu k0 x2 M5) fun r15 M14 =>
  bV (pX4_putCarrots fu k0 x2 (r15 - (1 : Int32)) M14) fun M16 =>
  bI (pX4_get fu k0 x1 (7 : Int32) M16) fun r18 M17 =>
  bV (pX4_set fu k0 x1 (7 : Int32) (r18 + (1 : Int32)) M17) fun M19 =>
  pX4_arrive_73 fu k0 x1 x2 x3 r4 ((0 : Int32) + (1 : Int32)) M19 
set_option maxRecDepth 100000 in
theorem wX4_arrive {E : jE} {X : jC} (hX : jOk X uX4_arrive (gX E)) (fu : Nat) (k0 : Nat) (hk0 : tX k0 = 4) (x1 : Int32) (x2 : Int32) (x3 : Int32) (M : Mem) : J X uX4_arrive (gX E) 0 [(0, .ref (gad (gX E) k0)), (1, .int x1), (2, .int x2), (3, .int x3)] [] M (pX4_arrive fu k0 x1 x2 x3 M) := by
  unfold pX4_arrive
  refine j_aload_n (pc := 0) hX 0 dX4_arrive_0 rfl rfl ?_
  refine j_iload_n (pc := 1) hX 1 dX4_arrive_1 rfl rfl ?_
  refine j_iconst (pc := 2) (v := (2 : Int32)) hX dX4_arrive_2 ci_2 ?_
  refine j_iload_n (pc := 3) hX 2 dX4_arrive_3 rfl rfl ?_
  refine j_callVv (pc := 4) hX [.int x1, .int (2 : Int32), .int x2] (mX4_set _ E hX.2.2.2.2.2.2.2.2.1 fu k0 hk0 x1 (2 : Int32) x2 M) qX4_set tw_395 (hh hk0).1 hk0 (ci := 4) (T := TX4) (N := 2) rfl (jb rfl) rfl ⟨rfl, rfl⟩ ⟨(Nat.le_of_ble_eq_true rfl), (Nat.le_of_ble_eq_true rfl)⟩ (Nat.le_of_ble_eq_true rfl) dX4_arrive_4 rfl (fun M1 => ?_)
  refine j_aload_n (pc := 7) hX 0 dX4_arrive_7 rfl rfl ?_
  refine j_iload_n (pc := 8) hX 1 dX4_arrive_8 rfl rfl ?_
  refine j_iconst (pc := 9) (v := (3 : Int32)) hX dX4_arrive_9 ci_3 ?_
  refine j_bipush (pc := 10) (v := (-4 : Int32)) hX dX4_arrive_10 cb_m4 ?_
  refine j_callVv (pc := 12) hX [.int x1, .int (3 : Int32), .int (-4 : Int32)] (mX4_set _ E hX.2.2.2.2.2.2.2.2.1 fu k0 hk0 x1 (3 : Int32) (-4 : Int32) M1) qX4_set tw_395 (hh hk0).1 hk0 (ci := 4) (T := TX4) (N := 2) rfl (jb rfl) rfl ⟨rfl, rfl⟩ ⟨(Nat.le_of_ble_eq_true rfl), (Nat.le_of_ble_eq_true rfl)⟩ (Nat.le_of_ble_eq_true rfl) dX4_arrive_12 rfl (fun M2 => ?_)
  refine j_aload_n (pc := 15) hX 0 dX4_arrive_15 rfl rfl ?_
  refine j_getR (pc := 16) (t := 5) hX (hh hk0).1 hk0 (ci := 4) (C := RX4) (T := TX4) (N := 2) rfl (jb rfl) inX4 (j := 0) (jb rfl) (rf_h0 hk0) tw_166 dX4_arrive_16 ?_
  refine j_iload_n (pc := 19) hX 1 dX4_arrive_19 rfl rfl ?_
  refine j_callV (pc := 20) hX [.int x1] (mX1_kind _ E hX.2.2.2.2.2.2.2.2.1 fu 5 rfl x1 M2) qX1_kind tw_554 (jb rfl) rfl (ci := 1) (T := TX1) (N := 13) rfl (jb rfl) rfl ⟨rfl, rfl⟩ ⟨(Nat.le_of_ble_eq_true rfl), (Nat.le_of_ble_eq_true rfl)⟩ (Nat.le_of_ble_eq_true rfl) dX4_arrive_20 (fun _ => rfl) rfl (fun r4 M3 => ?_)
  refine j_istore (pc := 23) (lv' := [(4, .int r4), (0, .ref (gad (gX E) k0)), (1, .int x1), (2, .int x2), (3, .int x3)]) hX dX4_arrive_23 (jb rfl) rfl ?_
  refine j_iconst (pc := 25) (v := (0 : Int32)) hX dX4_arrive_25 ci_0 ?_
  refine j_istore (pc := 26) (lv' := [(5, .int (0 : Int32)), (4, .int r4), (0, .ref (gad (gX E) k0)), (1, .int x1), (2, .int x2), (3, .int x3)]) hX dX4_arrive_26 (jb rfl) rfl ?_
  refine j_aload_n (pc := 28) hX 2 dX4_arrive_28 rfl rfl ?_
  refine j_iload_n (pc := 29) hX 4 dX4_arrive_29 rfl rfl ?_
  refine j_callV (pc := 30) hX [.int x2] (mX4_carrotsIn _ E hX.2.2.2.2.2.2.2.2.1 fu k0 hk0 x2 M3) qX4_carrotsIn tw_621 (hh hk0).1 hk0 (ci := 4) (T := TX4) (N := 2) rfl (jb rfl) rfl ⟨rfl, rfl⟩ ⟨(Nat.le_of_ble_eq_true rfl), (Nat.le_of_ble_eq_true rfl)⟩ (Nat.le_of_ble_eq_true rfl) dX4_arrive_30 (fun _ => rfl) rfl (fun r6 M5 => ?_)
  refine j_if_le (pc := 33) hX 73 dX4_arrive_33 (by decide) ?_ ?_
  · exact j_sub [2, 3, 4, 5, 1, 0] rfl (wX4_arrive_73 hX fu k0 hk0 x1 x2 x3 r4 (0 : Int32) M5  )
  · refine j_iload (pc := 36) hX 1 dX4_arrive_36 rfl ?_
    refine j_iconst (pc := 38) (v := (3 : Int32)) hX dX4_arrive_38 ci_3 ?_
    refine j_icmp_eq (pc := 39) hX 73 dX4_arrive_39 (by decide) ?_ ?_
    · exact j_sub [2, 3, 4, 5, 1, 0] rfl (wX4_arrive_73 hX fu k0 hk0 x1 x2 x3 r4 (0 : Int32) M5  )
    · refine j_aload_n (pc := 42) hX 2 dX4_arrive_42 rfl rfl ?_
      refine j_iload_n (pc := 43) hX 4 dX4_arrive_43 rfl rfl ?_
      refine j_aload_n (pc := 44) hX 2 dX4_arrive_44 rfl rfl ?_
      refine j_iload_n (pc := 45) hX 4 dX4_arrive_45 rfl rfl ?_
      refine j_callV (pc := 46) hX [.int x2] (mX4_carrotsIn _ E hX.2.2.2.2.2.2.2.2.1 fu k0 hk0 x2 M5) qX4_carrotsIn tw_621 (hh hk0).1 hk0 (ci := 4) (T := TX4) (N := 2) rfl (jb rfl) rfl ⟨rfl, rfl⟩ ⟨(Nat.le_of_ble_eq_true rfl), (Nat.le_of_ble_eq_true rfl)⟩ (Nat.le_of_ble_eq_true rfl) dX4_arrive_46 (fun _ => rfl) rfl (fun r15 M14 => ?_)
      refine j_iconst (pc := 49) (v := (1 : Int32)) hX dX4_arrive_49 ci_1 ?_
      refine j_isub (pc := 50) hX dX4_arrive_50 ?_
      refine j_callVv (pc := 51) hX [.int x2, .int (r15 - (1 : Int32))] (mX4_putCarrots _ E hX.2.2.2.2.2.2.2.2.1 fu k0 hk0 x2 (r15 - (1 : Int32)) M14) qX4_putCarrots tw_407 (hh hk0).1 hk0 (ci := 4) (T := TX4) (N := 2) rfl (jb rfl) rfl ⟨rfl, rfl⟩ ⟨(Nat.le_of_ble_eq_true rfl), (Nat.le_of_ble_eq_true rfl)⟩ (Nat.le_of_ble_eq_true rfl) dX4_arrive_51 rfl (fun M16 => ?_)
      refine j_aload_n (pc := 54) hX 2 dX4_arrive_54 rfl rfl ?_
      refine j_iload_n (pc := 55) hX 3 dX4_arrive_55 rfl rfl ?_
      refine j_bipush (pc := 56) (v := (7 : Int32)) hX dX4_arrive_56 cb_7 ?_
      refine j_aload_n (pc := 58) hX 2 dX4_arrive_58 rfl rfl ?_
      refine j_iload_n (pc := 59) hX 3 dX4_arrive_59 rfl rfl ?_
      refine j_bipush (pc := 60) (v := (7 : Int32)) hX dX4_arrive_60 cb_7 ?_
      refine j_callV (pc := 62) hX [.int x1, .int (7 : Int32)] (mX4_get _ E hX.2.2.2.2.2.2.2.2.1 fu k0 hk0 x1 (7 : Int32) M16) qX4_get tw_496 (hh hk0).1 hk0 (ci := 4) (T := TX4) (N := 2) rfl (jb rfl) rfl ⟨rfl, rfl⟩ ⟨(Nat.le_of_ble_eq_true rfl), (Nat.le_of_ble_eq_true rfl)⟩ (Nat.le_of_ble_eq_true rfl) dX4_arrive_62 (fun _ => rfl) rfl (fun r18 M17 => ?_)
      refine j_iconst (pc := 65) (v := (1 : Int32)) hX dX4_arrive_65 ci_1 ?_
      refine j_iadd (pc := 66) hX dX4_arrive_66 ?_
      refine j_callVv (pc := 67) hX [.int x1, .int (7 : Int32), .int (r18 + (1 : Int32))] (mX4_set _ E hX.2.2.2.2.2.2.2.2.1 fu k0 hk0 x1 (7 : Int32) (r18 + (1 : Int32)) M17) qX4_set tw_395 (hh hk0).1 hk0 (ci := 4) (T := TX4) (N := 2) rfl (jb rfl) rfl ⟨rfl, rfl⟩ ⟨(Nat.le_of_ble_eq_true rfl), (Nat.le_of_ble_eq_true rfl)⟩ (Nat.le_of_ble_eq_true rfl) dX4_arrive_67 rfl (fun M19 => ?_)
      refine j_iinc (pc := 70) (v := ((0 : Int32) + (1 : Int32))) (lv' := [(5, .int ((0 : Int32) + (1 : Int32))), (4, .int r4), (0, .ref (gad (gX E) k0)), (1, .int x1), (2, .int x2), (3, .int x3)]) hX 0 dX4_arrive_70 rfl (by rw [ci_1]) (jb rfl) rfl ?_
      exact j_sub [2, 3, 4, 5, 1, 0] rfl (wX4_arrive_73 hX fu k0 hk0 x1 x2 x3 r4 ((0 : Int32) + (1 : Int32)) M19  )
theorem mX4_arrive (l : Launch) (E : jE) (hI : jInj (gX E)) (fu : Nat) (k0 : Nat) (hk0 : tX k0 = 4) (x1 : Int32) (x2 : Int32) (x3 : Int32) (M : Mem) : jMet l (gX E) yX4_arrive cX4_arrive 6 none rX4_arrive [.ref (gad (gX E) k0), .int x1, .int x2, .int x3] M (pX4_arrive fu k0 x1 x2 x3 M) :=
  j_entry hI (by decide +kernel) (Nat.le_of_ble_eq_true rfl) rfl (fun X _ hX => wX4_arrive hX fu k0 hk0 x1 x2 x3 M)
theorem qX4_move : jYv yX4_move cX4_move 6 none 1 := ⟨tw_605, tw_6, tw_61, tw_606, ⟨by decide +kernel, by decide +kernel, by decide +kernel⟩⟩
abbrev rX4_move : Room := { frames := 3, cells := 0, slots := 0, locals := 70 }
def uX4_move : jM := (cX4_move, 6, RX4, none, rX4_move)
def pX4_move_101 (fu : Nat) (k0 : Nat) (x1 : Int32) (x2 : Int32) (x3 : Int32) (M : Mem)  : Res :=
  bV (pX4_set fu k0 x1 (4 : Int32) (x3 - (1 : Int32)) M) fun M7 =>
  if (1 : Int32) < x3 then (
    some (0, M7))
  else
  bI (pX4_get fu k0 x1 (3 : Int32) M7) fun r9 M8 =>
  bV (pX4_arrive fu k0 x1 r9 x2 M8) fun M10 =>
  some (0, M10)
set_option maxRecDepth 100000 in
theorem wX4_move_101 {E : jE} {X : jC} (hX : jOk X uX4_move (gX E)) (fu : Nat) (k0 : Nat) (hk0 : tX k0 = 4) (x1 : Int32) (x2 : Int32) (x3 : Int32) (M : Mem)   : J X uX4_move (gX E) 101 [(0, .ref (gad (gX E) k0)), (1, .int x1), (2, .int x2), (3, .int x3)] [] M (pX4_move_101 fu k0 x1 x2 x3 M ) := by
  unfold pX4_move_101
  refine j_aload_n (pc := 101) hX 0 dX4_move_101 rfl rfl ?_
  refine j_iload_n (pc := 102) hX 1 dX4_move_102 rfl rfl ?_
  refine j_iconst (pc := 103) (v := (4 : Int32)) hX dX4_move_103 ci_4 ?_
  refine j_iload_n (pc := 104) hX 3 dX4_move_104 rfl rfl ?_
  refine j_iconst (pc := 105) (v := (1 : Int32)) hX dX4_move_105 ci_1 ?_
  refine j_isub (pc := 106) hX dX4_move_106 ?_
  refine j_callVv (pc := 107) hX [.int x1, .int (4 : Int32), .int (x3 - (1 : Int32))] (mX4_set _ E hX.2.2.2.2.2.2.2.2.1 fu k0 hk0 x1 (4 : Int32) (x3 - (1 : Int32)) M) qX4_set tw_395 (hh hk0).1 hk0 (ci := 4) (T := TX4) (N := 2) rfl (jb rfl) rfl ⟨rfl, rfl⟩ ⟨(Nat.le_of_ble_eq_true rfl), (Nat.le_of_ble_eq_true rfl)⟩ (Nat.le_of_ble_eq_true rfl) dX4_move_107 rfl (fun M7 => ?_)
  refine j_iload_n (pc := 110) hX 3 dX4_move_110 rfl rfl ?_
  refine j_iconst (pc := 111) (v := (1 : Int32)) hX dX4_move_111 ci_1 ?_
  refine j_icmp_gt (pc := 112) hX 127 dX4_move_112 (by decide) ?_ ?_
  · exact j_vret (pc := 127) hX rfl dX4_move_127
  · refine j_aload_n (pc := 115) hX 0 dX4_move_115 rfl rfl ?_
    refine j_iload_n (pc := 116) hX 1 dX4_move_116 rfl rfl ?_
    refine j_aload_n (pc := 117) hX 0 dX4_move_117 rfl rfl ?_
    refine j_iload_n (pc := 118) hX 1 dX4_move_118 rfl rfl ?_
    refine j_iconst (pc := 119) (v := (3 : Int32)) hX dX4_move_119 ci_3 ?_
    refine j_callV (pc := 120) hX [.int x1, .int (3 : Int32)] (mX4_get _ E hX.2.2.2.2.2.2.2.2.1 fu k0 hk0 x1 (3 : Int32) M7) qX4_get tw_496 (hh hk0).1 hk0 (ci := 4) (T := TX4) (N := 2) rfl (jb rfl) rfl ⟨rfl, rfl⟩ ⟨(Nat.le_of_ble_eq_true rfl), (Nat.le_of_ble_eq_true rfl)⟩ (Nat.le_of_ble_eq_true rfl) dX4_move_120 (fun _ => rfl) rfl (fun r9 M8 => ?_)
    refine j_iload_n (pc := 123) hX 2 dX4_move_123 rfl rfl ?_
    refine j_callVv (pc := 124) hX [.int x1, .int r9, .int x2] (mX4_arrive _ E hX.2.2.2.2.2.2.2.2.1 fu k0 hk0 x1 r9 x2 M8) qX4_arrive tw_617 (hh hk0).1 hk0 (ci := 4) (T := TX4) (N := 2) rfl (jb rfl) rfl ⟨rfl, rfl⟩ ⟨(Nat.le_of_ble_eq_true rfl), (Nat.le_of_ble_eq_true rfl)⟩ (Nat.le_of_ble_eq_true rfl) dX4_move_124 rfl (fun M10 => ?_)
    exact j_vret (pc := 127) hX rfl dX4_move_127
def pX4_move (fu : Nat) (k0 : Nat) (x1 : Int32) (M : Mem) : Res :=
  bI (pX4_get fu k0 x1 (10 : Int32) M) fun r2 M1 =>
  bI (pX4_get fu k0 x1 (4 : Int32) M1) fun r4 M3 =>
  bI (pX4_get fu k0 x1 (3 : Int32) M3) fun r6 M5 =>
  if r6 = (-4 : Int32) then (
    bI (pX4_get fu k0 x1 (2 : Int32) M5) fun r12 M11 =>
    if r4 ≤ 0 then (
      if r12 = r2 then (
        bV (pX4_end fu k0 x1 M11) fun M20 =>
        some (0, M20))
      else
      bI (pX1_hop fu 5 r12 r2 M11) fun r14 M13 =>
      bV (pX4_set fu k0 x1 (3 : Int32) r14 M13) fun M15 =>
      bI (pX1_lengthOf fu 5 r12 r14 M15) fun r17 M16 =>
      bI (pX1_pace fu 5 x1 M16) fun r19 M18 =>
      pX4_move_101 fu k0 x1 r2 (r17 * r19) M18 )
    else
    bV (pX4_set fu k0 x1 (4 : Int32) (r4 - (1 : Int32)) M11) fun M21 =>
    some (0, M21))
  else
  pX4_move_101 fu k0 x1 r2 r4 M5 
set_option maxRecDepth 100000 in
theorem wX4_move {E : jE} {X : jC} (hX : jOk X uX4_move (gX E)) (fu : Nat) (k0 : Nat) (hk0 : tX k0 = 4) (x1 : Int32) (M : Mem) : J X uX4_move (gX E) 0 [(0, .ref (gad (gX E) k0)), (1, .int x1)] [] M (pX4_move fu k0 x1 M) := by
  unfold pX4_move
  refine j_aload_n (pc := 0) hX 0 dX4_move_0 rfl rfl ?_
  refine j_iload_n (pc := 1) hX 1 dX4_move_1 rfl rfl ?_
  refine j_bipush (pc := 2) (v := (10 : Int32)) hX dX4_move_2 cb_10 ?_
  refine j_callV (pc := 4) hX [.int x1, .int (10 : Int32)] (mX4_get _ E hX.2.2.2.2.2.2.2.2.1 fu k0 hk0 x1 (10 : Int32) M) qX4_get tw_496 (hh hk0).1 hk0 (ci := 4) (T := TX4) (N := 2) rfl (jb rfl) rfl ⟨rfl, rfl⟩ ⟨(Nat.le_of_ble_eq_true rfl), (Nat.le_of_ble_eq_true rfl)⟩ (Nat.le_of_ble_eq_true rfl) dX4_move_4 (fun _ => rfl) rfl (fun r2 M1 => ?_)
  refine j_istore_n (pc := 7) (lv' := [(2, .int r2), (0, .ref (gad (gX E) k0)), (1, .int x1)]) hX dX4_move_7 rfl (jb rfl) rfl ?_
  refine j_aload_n (pc := 8) hX 1 dX4_move_8 rfl rfl ?_
  refine j_iload_n (pc := 9) hX 2 dX4_move_9 rfl rfl ?_
  refine j_iconst (pc := 10) (v := (4 : Int32)) hX dX4_move_10 ci_4 ?_
  refine j_callV (pc := 11) hX [.int x1, .int (4 : Int32)] (mX4_get _ E hX.2.2.2.2.2.2.2.2.1 fu k0 hk0 x1 (4 : Int32) M1) qX4_get tw_496 (hh hk0).1 hk0 (ci := 4) (T := TX4) (N := 2) rfl (jb rfl) rfl ⟨rfl, rfl⟩ ⟨(Nat.le_of_ble_eq_true rfl), (Nat.le_of_ble_eq_true rfl)⟩ (Nat.le_of_ble_eq_true rfl) dX4_move_11 (fun _ => rfl) rfl (fun r4 M3 => ?_)
  refine j_istore_n (pc := 14) (lv' := [(3, .int r4), (2, .int r2), (0, .ref (gad (gX E) k0)), (1, .int x1)]) hX dX4_move_14 rfl (jb rfl) rfl ?_
  refine j_aload_n (pc := 15) hX 2 dX4_move_15 rfl rfl ?_
  refine j_iload_n (pc := 16) hX 3 dX4_move_16 rfl rfl ?_
  refine j_iconst (pc := 17) (v := (3 : Int32)) hX dX4_move_17 ci_3 ?_
  refine j_callV (pc := 18) hX [.int x1, .int (3 : Int32)] (mX4_get _ E hX.2.2.2.2.2.2.2.2.1 fu k0 hk0 x1 (3 : Int32) M3) qX4_get tw_496 (hh hk0).1 hk0 (ci := 4) (T := TX4) (N := 2) rfl (jb rfl) rfl ⟨rfl, rfl⟩ ⟨(Nat.le_of_ble_eq_true rfl), (Nat.le_of_ble_eq_true rfl)⟩ (Nat.le_of_ble_eq_true rfl) dX4_move_18 (fun _ => rfl) rfl (fun r6 M5 => ?_)
  refine j_bipush (pc := 21) (v := (-4 : Int32)) hX dX4_move_21 cb_m4 ?_
  refine j_icmp_ne (pc := 23) hX 101 dX4_move_23 (by decide) ?_ ?_
  · exact j_sub [2, 3, 1, 0] rfl (wX4_move_101 hX fu k0 hk0 x1 r2 r4 M5  )
  · refine j_aload_n (pc := 26) hX 2 dX4_move_26 rfl rfl ?_
    refine j_iload_n (pc := 27) hX 3 dX4_move_27 rfl rfl ?_
    refine j_iconst (pc := 28) (v := (2 : Int32)) hX dX4_move_28 ci_2 ?_
    refine j_callV (pc := 29) hX [.int x1, .int (2 : Int32)] (mX4_get _ E hX.2.2.2.2.2.2.2.2.1 fu k0 hk0 x1 (2 : Int32) M5) qX4_get tw_496 (hh hk0).1 hk0 (ci := 4) (T := TX4) (N := 2) rfl (jb rfl) rfl ⟨rfl, rfl⟩ ⟨(Nat.le_of_ble_eq_true rfl), (Nat.le_of_ble_eq_true rfl)⟩ (Nat.le_of_ble_eq_true rfl) dX4_move_29 (fun _ => rfl) rfl (fun r12 M11 => ?_)
    refine j_istore (pc := 32) (lv' := [(4, .int r12), (3, .int r4), (2, .int r2), (0, .ref (gad (gX E) k0)), (1, .int x1)]) hX dX4_move_32 (jb rfl) rfl ?_
    refine j_iload_n (pc := 34) hX 1 dX4_move_34 rfl rfl ?_
    refine j_if_le (pc := 35) hX 48 dX4_move_35 (by decide) ?_ ?_
    · refine j_iload (pc := 48) hX 0 dX4_move_48 rfl ?_
      refine j_iload_n (pc := 50) hX 2 dX4_move_50 rfl rfl ?_
      refine j_icmp_ne (pc := 51) hX 60 dX4_move_51 (by decide) ?_ ?_
      · refine j_aload_n (pc := 60) hX 3 dX4_move_60 rfl rfl ?_
        refine j_getR (pc := 61) (t := 5) hX (hh hk0).1 hk0 (ci := 4) (C := RX4) (T := TX4) (N := 2) rfl (jb rfl) inX4 (j := 0) (jb rfl) (rf_h0 hk0) tw_166 dX4_move_61 ?_
        refine j_iload (pc := 64) hX 0 dX4_move_64 rfl ?_
        refine j_iload_n (pc := 66) hX 2 dX4_move_66 rfl rfl ?_
        refine j_callV (pc := 67) hX [.int r12, .int r2] (mX1_hop _ E hX.2.2.2.2.2.2.2.2.1 fu 5 rfl r12 r2 M11) qX1_hop tw_611 (jb rfl) rfl (ci := 1) (T := TX1) (N := 13) rfl (jb rfl) rfl ⟨rfl, rfl⟩ ⟨(Nat.le_of_ble_eq_true rfl), (Nat.le_of_ble_eq_true rfl)⟩ (Nat.le_of_ble_eq_true rfl) dX4_move_67 (fun _ => rfl) rfl (fun r14 M13 => ?_)
        refine j_istore (pc := 70) (lv' := [(5, .int r14), (4, .int r12), (3, .int r4), (2, .int r2), (0, .ref (gad (gX E) k0)), (1, .int x1)]) hX dX4_move_70 (jb rfl) rfl ?_
        refine j_aload_n (pc := 72) hX 4 dX4_move_72 rfl rfl ?_
        refine j_iload_n (pc := 73) hX 5 dX4_move_73 rfl rfl ?_
        refine j_iconst (pc := 74) (v := (3 : Int32)) hX dX4_move_74 ci_3 ?_
        refine j_iload (pc := 75) hX 0 dX4_move_75 rfl ?_
        refine j_callVv (pc := 77) hX [.int x1, .int (3 : Int32), .int r14] (mX4_set _ E hX.2.2.2.2.2.2.2.2.1 fu k0 hk0 x1 (3 : Int32) r14 M13) qX4_set tw_395 (hh hk0).1 hk0 (ci := 4) (T := TX4) (N := 2) rfl (jb rfl) rfl ⟨rfl, rfl⟩ ⟨(Nat.le_of_ble_eq_true rfl), (Nat.le_of_ble_eq_true rfl)⟩ (Nat.le_of_ble_eq_true rfl) dX4_move_77 rfl (fun M15 => ?_)
        refine j_aload_n (pc := 80) hX 4 dX4_move_80 rfl rfl ?_
        refine j_getR (pc := 81) (t := 5) hX (hh hk0).1 hk0 (ci := 4) (C := RX4) (T := TX4) (N := 2) rfl (jb rfl) inX4 (j := 0) (jb rfl) (rf_h0 hk0) tw_166 dX4_move_81 ?_
        refine j_iload (pc := 84) hX 1 dX4_move_84 rfl ?_
        refine j_iload (pc := 86) hX 0 dX4_move_86 rfl ?_
        refine j_callV (pc := 88) hX [.int r12, .int r14] (mX1_lengthOf _ E hX.2.2.2.2.2.2.2.2.1 fu 5 rfl r12 r14 M15) qX1_lengthOf tw_615 (jb rfl) rfl (ci := 1) (T := TX1) (N := 13) rfl (jb rfl) rfl ⟨rfl, rfl⟩ ⟨(Nat.le_of_ble_eq_true rfl), (Nat.le_of_ble_eq_true rfl)⟩ (Nat.le_of_ble_eq_true rfl) dX4_move_88 (fun _ => rfl) rfl (fun r17 M16 => ?_)
        refine j_aload_n (pc := 91) hX 4 dX4_move_91 rfl rfl ?_
        refine j_getR (pc := 92) (t := 5) hX (hh hk0).1 hk0 (ci := 4) (C := RX4) (T := TX4) (N := 2) rfl (jb rfl) inX4 (j := 0) (jb rfl) (rf_h0 hk0) tw_166 dX4_move_92 ?_
        refine j_iload_n (pc := 95) hX 5 dX4_move_95 rfl rfl ?_
        refine j_callV (pc := 96) hX [.int x1] (mX1_pace _ E hX.2.2.2.2.2.2.2.2.1 fu 5 rfl x1 M16) qX1_pace tw_616 (jb rfl) rfl (ci := 1) (T := TX1) (N := 13) rfl (jb rfl) rfl ⟨rfl, rfl⟩ ⟨(Nat.le_of_ble_eq_true rfl), (Nat.le_of_ble_eq_true rfl)⟩ (Nat.le_of_ble_eq_true rfl) dX4_move_96 (fun _ => rfl) rfl (fun r19 M18 => ?_)
        refine j_imul (pc := 99) hX dX4_move_99 ?_
        refine j_istore_n (pc := 100) (lv' := [(3, .int (r17 * r19)), (5, .int r14), (4, .int r12), (2, .int r2), (0, .ref (gad (gX E) k0)), (1, .int x1)]) hX dX4_move_100 rfl (jb rfl) rfl ?_
        exact j_sub [4, 5, 3, 0] rfl (wX4_move_101 hX fu k0 hk0 x1 r2 (r17 * r19) M18  )
      · refine j_aload_n (pc := 54) hX 3 dX4_move_54 rfl rfl ?_
        refine j_iload_n (pc := 55) hX 4 dX4_move_55 rfl rfl ?_
        refine j_callVv (pc := 56) hX [.int x1] (mX4_end _ E hX.2.2.2.2.2.2.2.2.1 fu k0 hk0 x1 M11) qX4_end tw_607 (hh hk0).1 hk0 (ci := 4) (T := TX4) (N := 2) rfl (jb rfl) rfl ⟨rfl, rfl⟩ ⟨(Nat.le_of_ble_eq_true rfl), (Nat.le_of_ble_eq_true rfl)⟩ (Nat.le_of_ble_eq_true rfl) dX4_move_56 rfl (fun M20 => ?_)
        exact j_vret (pc := 59) hX rfl dX4_move_59
    · refine j_aload_n (pc := 38) hX 3 dX4_move_38 rfl rfl ?_
      refine j_iload_n (pc := 39) hX 4 dX4_move_39 rfl rfl ?_
      refine j_iconst (pc := 40) (v := (4 : Int32)) hX dX4_move_40 ci_4 ?_
      refine j_iload_n (pc := 41) hX 1 dX4_move_41 rfl rfl ?_
      refine j_iconst (pc := 42) (v := (1 : Int32)) hX dX4_move_42 ci_1 ?_
      refine j_isub (pc := 43) hX dX4_move_43 ?_
      refine j_callVv (pc := 44) hX [.int x1, .int (4 : Int32), .int (r4 - (1 : Int32))] (mX4_set _ E hX.2.2.2.2.2.2.2.2.1 fu k0 hk0 x1 (4 : Int32) (r4 - (1 : Int32)) M11) qX4_set tw_395 (hh hk0).1 hk0 (ci := 4) (T := TX4) (N := 2) rfl (jb rfl) rfl ⟨rfl, rfl⟩ ⟨(Nat.le_of_ble_eq_true rfl), (Nat.le_of_ble_eq_true rfl)⟩ (Nat.le_of_ble_eq_true rfl) dX4_move_44 rfl (fun M21 => ?_)
      exact j_vret (pc := 47) hX rfl dX4_move_47
theorem mX4_move (l : Launch) (E : jE) (hI : jInj (gX E)) (fu : Nat) (k0 : Nat) (hk0 : tX k0 = 4) (x1 : Int32) (M : Mem) : jMet l (gX E) yX4_move cX4_move 6 none rX4_move [.ref (gad (gX E) k0), .int x1] M (pX4_move fu k0 x1 M) :=
  j_entry hI (by decide +kernel) (Nat.le_of_ble_eq_true rfl) rfl (fun X _ hX => wX4_move hX fu k0 hk0 x1 M)
theorem qX4_hours : jYv yX4_hours cX4_hours 1 (some .int) 0 := ⟨tw_624, tw_625, tw_61, tw_626, ⟨by decide +kernel, by decide +kernel, by decide +kernel⟩⟩
abbrev rX4_hours : Room := { frames := 1, cells := 0, slots := 0, locals := 21 }
def uX4_hours : jM := (cX4_hours, 1, RX4, (some .int), rX4_hours)
def pX4_hours (fu : Nat) (k0 : Nat)  (M : Mem) : Res :=
  bI (pX6_at fu (k0 + 1) 64 (63 : Int32) M) fun r2 M1 =>
  some (r2, M1)
set_option maxRecDepth 100000 in
theorem wX4_hours {E : jE} {X : jC} (hX : jOk X uX4_hours (gX E)) (fu : Nat) (k0 : Nat) (hk0 : tX k0 = 4)  (M : Mem) : J X uX4_hours (gX E) 0 [(0, .ref (gad (gX E) k0))] [] M (pX4_hours fu k0  M) := by
  unfold pX4_hours
  refine j_aload_n (pc := 0) hX 0 dX4_hours_0 rfl rfl ?_
  refine j_getR (pc := 1) (t := (k0 + 1)) hX (hh hk0).1 hk0 (ci := 4) (C := RX4) (T := TX4) (N := 2) rfl (jb rfl) inX4 (j := 1) (jb rfl) (rf_h1 hk0) tw_167 dX4_hours_1 ?_
  refine j_bipush (pc := 4) (v := (63 : Int32)) hX dX4_hours_4 cb_63 ?_
  refine j_callS (pc := 6) hX [.ref (gad (gX E) (k0 + 1)), .int (63 : Int32)] (mX6_at _ E hX.2.2.2.2.2.2.2.2.1 fu (k0 + 1) 64 (hh hk0).2.1 (hh hk0).2.2.1 (63 : Int32) M) qX6_at tw_483 rfl ⟨rfl, rfl⟩ ⟨(Nat.le_of_ble_eq_true rfl), (Nat.le_of_ble_eq_true rfl)⟩ (Nat.le_of_ble_eq_true rfl) dX4_hours_6 (fun _ => rfl) rfl (fun r2 M1 => ?_)
  exact j_iret (pc := 9) hX rfl dX4_hours_9
theorem mX4_hours (l : Launch) (E : jE) (hI : jInj (gX E)) (fu : Nat) (k0 : Nat) (hk0 : tX k0 = 4)  (M : Mem) : jMet l (gX E) yX4_hours cX4_hours 1 (some .int) rX4_hours [.ref (gad (gX E) k0)] M (pX4_hours fu k0  M) :=
  j_entry hI (by decide +kernel) (Nat.le_of_ble_eq_true rfl) rfl (fun X _ hX => wX4_hours hX fu k0 hk0  M)
theorem qX4_goOn : jYv yX4_goOn cX4_goOn 3 none 1 := ⟨tw_596, tw_597, tw_61, tw_598, ⟨by decide +kernel, by decide +kernel, by decide +kernel⟩⟩
abbrev rX4_goOn : Room := { frames := 4, cells := 0, slots := 0, locals := 95 }
def uX4_goOn : jM := (cX4_goOn, 3, RX4, none, rX4_goOn)
def pX4_goOn_31 (fu : Nat) (k0 : Nat) (x1 : Int32) (x2 : Int32) (M : Mem) (c2 : Int32 → Int32 → Mem → Res) : Res :=
  c2 x1 (x2 + (1 : Int32)) M
set_option maxRecDepth 100000 in
theorem wX4_goOn_31 {E : jE} {X : jC} (hX : jOk X uX4_goOn (gX E)) (fu : Nat) (k0 : Nat) (hk0 : tX k0 = 4) (x1 : Int32) (x2 : Int32) (M : Mem) (c2 : Int32 → Int32 → Mem → Res) (hc2 : ∀ (x1 : Int32) (x2 : Int32) (M : Mem), J X uX4_goOn (gX E) 2 [(0, .ref (gad (gX E) k0)), (1, .int x1), (2, .int x2)] [] M (c2 x1 x2 M)) : J X uX4_goOn (gX E) 31 [(0, .ref (gad (gX E) k0)), (1, .int x1), (2, .int x2)] [] M (pX4_goOn_31 fu k0 x1 x2 M c2) := by
  unfold pX4_goOn_31
  refine j_iinc (pc := 31) (v := (x2 + (1 : Int32))) (lv' := [(2, .int (x2 + (1 : Int32))), (0, .ref (gad (gX E) k0)), (1, .int x1)]) hX 2 dX4_goOn_31 rfl (by rw [ci_1]) (jb rfl) rfl ?_
  refine j_goto (pc := 34) hX 2 dX4_goOn_34 (by decide) ?_
  exact j_sub [1, 2, 0] rfl (hc2 x1 (x2 + (1 : Int32)) M)
def pX4_goOn_2b (fu : Nat) (k0 : Nat) (x1 : Int32) (x2 : Int32) (M : Mem) (c2 : Int32 → Int32 → Mem → Res) (c37 : Mem → Res) : Res :=
  bI (pX1_beasts fu 5 M) fun r2 M1 =>
  if r2 ≤ x2 then (
    c37 M1)
  else
  if x2 = x1 then (
    pX4_goOn_31 fu k0 x1 x2 M1 c2)
  else
  bI (pX4_isUnderWay fu k0 x2 M1) fun r4 M3 =>
  if r4 = 0 then (
    pX4_goOn_31 fu k0 x1 x2 M3 c2)
  else
  bV (pX4_move fu k0 x2 M3) fun M5 =>
  pX4_goOn_31 fu k0 x1 x2 M5 c2
set_option maxRecDepth 100000 in
theorem wX4_goOn_2b {E : jE} {X : jC} (hX : jOk X uX4_goOn (gX E)) (fu : Nat) (k0 : Nat) (hk0 : tX k0 = 4) (x1 : Int32) (x2 : Int32) (M : Mem) (c2 : Int32 → Int32 → Mem → Res) (c37 : Mem → Res) (hc2 : ∀ (x1 : Int32) (x2 : Int32) (M : Mem), J X uX4_goOn (gX E) 2 [(0, .ref (gad (gX E) k0)), (1, .int x1), (2, .int x2)] [] M (c2 x1 x2 M)) (hc37 : ∀  (M : Mem), J X uX4_goOn (gX E) 37 [(0, .ref (gad (gX E) k0))] [] M (c37  M)) : J X uX4_goOn (gX E) 2 [(0, .ref (gad (gX E) k0)), (1, .int x1), (2, .int x2)] [] M (pX4_goOn_2b fu k0 x1 x2 M c2 c37) := by
  unfold pX4_goOn_2b
  refine j_iload_n (pc := 2) hX 2 dX4_goOn_2 rfl rfl ?_
  refine j_aload_n (pc := 3) hX 0 dX4_goOn_3 rfl rfl ?_
  refine j_getR (pc := 4) (t := 5) hX (hh hk0).1 hk0 (ci := 4) (C := RX4) (T := TX4) (N := 2) rfl (jb rfl) inX4 (j := 0) (jb rfl) (rf_h0 hk0) tw_166 dX4_goOn_4 ?_
  refine j_callV (pc := 7) hX [] (mX1_beasts _ E hX.2.2.2.2.2.2.2.2.1 fu 5 rfl  M) qX1_beasts tw_387 (jb rfl) rfl (ci := 1) (T := TX1) (N := 13) rfl (jb rfl) rfl ⟨rfl, rfl⟩ ⟨(Nat.le_of_ble_eq_true rfl), (Nat.le_of_ble_eq_true rfl)⟩ (Nat.le_of_ble_eq_true rfl) dX4_goOn_7 (fun _ => rfl) rfl (fun r2 M1 => ?_)
  refine j_icmp_ge (pc := 10) hX 37 dX4_goOn_10 (by decide) ?_ ?_
  · exact j_sub [0] rfl (hc37  M1)
  · refine j_iload_n (pc := 13) hX 2 dX4_goOn_13 rfl rfl ?_
    refine j_iload_n (pc := 14) hX 1 dX4_goOn_14 rfl rfl ?_
    refine j_icmp_eq (pc := 15) hX 31 dX4_goOn_15 (by decide) ?_ ?_
    · exact j_sub [0, 1, 2] rfl (wX4_goOn_31 hX fu k0 hk0 x1 x2 M1 c2 hc2)
    · refine j_aload_n (pc := 18) hX 0 dX4_goOn_18 rfl rfl ?_
      refine j_iload_n (pc := 19) hX 2 dX4_goOn_19 rfl rfl ?_
      refine j_callV (pc := 20) hX [.int x2] (mX4_isUnderWay _ E hX.2.2.2.2.2.2.2.2.1 fu k0 hk0 x2 M1) qX4_isUnderWay tw_599 (hh hk0).1 hk0 (ci := 4) (T := TX4) (N := 2) rfl (jb rfl) rfl ⟨rfl, rfl⟩ ⟨(Nat.le_of_ble_eq_true rfl), (Nat.le_of_ble_eq_true rfl)⟩ (Nat.le_of_ble_eq_true rfl) dX4_goOn_20 (fun _ => rfl) rfl (fun r4 M3 => ?_)
      refine j_if_eq (pc := 23) hX 31 dX4_goOn_23 (by decide) ?_ ?_
      · exact j_sub [0, 1, 2] rfl (wX4_goOn_31 hX fu k0 hk0 x1 x2 M3 c2 hc2)
      · refine j_aload_n (pc := 26) hX 0 dX4_goOn_26 rfl rfl ?_
        refine j_iload_n (pc := 27) hX 2 dX4_goOn_27 rfl rfl ?_
        refine j_callVv (pc := 28) hX [.int x2] (mX4_move _ E hX.2.2.2.2.2.2.2.2.1 fu k0 hk0 x2 M3) qX4_move tw_603 (hh hk0).1 hk0 (ci := 4) (T := TX4) (N := 2) rfl (jb rfl) rfl ⟨rfl, rfl⟩ ⟨(Nat.le_of_ble_eq_true rfl), (Nat.le_of_ble_eq_true rfl)⟩ (Nat.le_of_ble_eq_true rfl) dX4_goOn_28 rfl (fun M5 => ?_)
        exact j_sub [0, 1, 2] rfl (wX4_goOn_31 hX fu k0 hk0 x1 x2 M5 c2 hc2)
def pX4_goOn_2 (fu : Nat) (k0 : Nat) (c37 : Mem → Res) : Nat → Int32 → Int32 → Mem → Res
  | 0, _, _, _ => none
  | n + 1, x1, x2, M => pX4_goOn_2b fu k0 x1 x2 M (pX4_goOn_2 fu k0 c37 n) c37
theorem wX4_goOn_2 {E : jE} {X : jC} (hX : jOk X uX4_goOn (gX E)) (fu : Nat) (k0 : Nat) (hk0 : tX k0 = 4) (c37 : Mem → Res) (hc37 : ∀  (M : Mem), J X uX4_goOn (gX E) 37 [(0, .ref (gad (gX E) k0))] [] M (c37  M)) : ∀ (n : Nat) (x1 : Int32) (x2 : Int32) (M : Mem), J X uX4_goOn (gX E) 2 [(0, .ref (gad (gX E) k0)), (1, .int x1), (2, .int x2)] [] M (pX4_goOn_2 fu k0 c37 n x1 x2 M) := by
  intro n
  induction n with
  | zero => intro x1 x2 M; exact j_none
  | succ n ih => intro x1 x2 M; exact wX4_goOn_2b hX fu k0 hk0 x1 x2 M (pX4_goOn_2 fu k0 c37 n) c37 ih hc37
def pX4_goOn (fu : Nat) (k0 : Nat) (x1 : Int32) (M : Mem) : Res :=
  pX4_goOn_2 fu k0
    (fun  M6 =>
      bI (pX4_hours fu k0 M6) fun r8 M7 =>
      bV (pX6_put fu (k0 + 1) 64 (63 : Int32) (r8 + (1 : Int32)) M7) fun M9 =>
      some (0, M9))
    fu x1 (0 : Int32) M
set_option maxRecDepth 100000 in
theorem wX4_goOn {E : jE} {X : jC} (hX : jOk X uX4_goOn (gX E)) (fu : Nat) (k0 : Nat) (hk0 : tX k0 = 4) (x1 : Int32) (M : Mem) : J X uX4_goOn (gX E) 0 [(0, .ref (gad (gX E) k0)), (1, .int x1)] [] M (pX4_goOn fu k0 x1 M) := by
  unfold pX4_goOn
  refine j_iconst (pc := 0) (v := (0 : Int32)) hX dX4_goOn_0 ci_0 ?_
  refine j_istore_n (pc := 1) (lv' := [(2, .int (0 : Int32)), (0, .ref (gad (gX E) k0)), (1, .int x1)]) hX dX4_goOn_1 rfl (jb rfl) rfl ?_
  refine j_sub [1, 2, 0] rfl (wX4_goOn_2 hX fu k0 hk0 _ ?_ fu x1 (0 : Int32) M)
  · intro  M6
    refine j_aload_n (pc := 37) hX 0 dX4_goOn_37 rfl rfl ?_
    refine j_getR (pc := 38) (t := (k0 + 1)) hX (hh hk0).1 hk0 (ci := 4) (C := RX4) (T := TX4) (N := 2) rfl (jb rfl) inX4 (j := 1) (jb rfl) (rf_h1 hk0) tw_167 dX4_goOn_38 ?_
    refine j_bipush (pc := 41) (v := (63 : Int32)) hX dX4_goOn_41 cb_63 ?_
    refine j_aload_n (pc := 43) hX 0 dX4_goOn_43 rfl rfl ?_
    refine j_callV (pc := 44) hX [] (mX4_hours _ E hX.2.2.2.2.2.2.2.2.1 fu k0 hk0  M6) qX4_hours tw_623 (hh hk0).1 hk0 (ci := 4) (T := TX4) (N := 2) rfl (jb rfl) rfl ⟨rfl, rfl⟩ ⟨(Nat.le_of_ble_eq_true rfl), (Nat.le_of_ble_eq_true rfl)⟩ (Nat.le_of_ble_eq_true rfl) dX4_goOn_44 (fun _ => rfl) rfl (fun r8 M7 => ?_)
    refine j_iconst (pc := 47) (v := (1 : Int32)) hX dX4_goOn_47 ci_1 ?_
    refine j_iadd (pc := 48) hX dX4_goOn_48 ?_
    refine j_callSv (pc := 49) hX [.ref (gad (gX E) (k0 + 1)), .int (63 : Int32), .int (r8 + (1 : Int32))] (mX6_put _ E hX.2.2.2.2.2.2.2.2.1 fu (k0 + 1) 64 (hh hk0).2.1 (hh hk0).2.2.1 (63 : Int32) (r8 + (1 : Int32)) M7) qX6_put tw_411 rfl ⟨rfl, rfl⟩ ⟨(Nat.le_of_ble_eq_true rfl), (Nat.le_of_ble_eq_true rfl)⟩ (Nat.le_of_ble_eq_true rfl) dX4_goOn_49 rfl (fun M9 => ?_)
    exact j_vret (pc := 52) hX rfl dX4_goOn_52
theorem mX4_goOn (l : Launch) (E : jE) (hI : jInj (gX E)) (fu : Nat) (k0 : Nat) (hk0 : tX k0 = 4) (x1 : Int32) (M : Mem) : jMet l (gX E) yX4_goOn cX4_goOn 3 none rX4_goOn [.ref (gad (gX E) k0), .int x1] M (pX4_goOn fu k0 x1 M) :=
  j_entry hI (by decide +kernel) (Nat.le_of_ble_eq_true rfl) rfl (fun X _ hX => wX4_goOn hX fu k0 hk0 x1 M)
theorem qX4_canBeSent : jYv yX4_canBeSent cX4_canBeSent 3 (some .boolean) 2 := ⟨tw_567, tw_568, tw_61, tw_569, ⟨by decide +kernel, by decide +kernel, by decide +kernel⟩⟩
abbrev rX4_canBeSent : Room := { frames := 3, cells := 0, slots := 0, locals := 65 }
def uX4_canBeSent : jM := (cX4_canBeSent, 3, RX4, (some .boolean), rX4_canBeSent)
def pX4_canBeSent (fu : Nat) (k0 : Nat) (x1 : Int32) (x2 : Int32) (M : Mem) : Res :=
  bI (pX4_is fu k0 x1 (0 : Int32) M) fun r2 M1 =>
  if r2 = 0 then (
    rtz (0 : Int32) M1)
  else
  bI (pX4_get fu k0 x1 (2 : Int32) M1) fun r4 M3 =>
  bI (pX1_doorPlace fu 5 x2 M3) fun r6 M5 =>
  bI (pX1_isReached fu 5 r4 r6 M5) fun r8 M7 =>
  if r8 = 0 then (
    rtz (0 : Int32) M7)
  else
  rtz (1 : Int32) M7
set_option maxRecDepth 100000 in
theorem wX4_canBeSent {E : jE} {X : jC} (hX : jOk X uX4_canBeSent (gX E)) (fu : Nat) (k0 : Nat) (hk0 : tX k0 = 4) (x1 : Int32) (x2 : Int32) (M : Mem) : J X uX4_canBeSent (gX E) 0 [(0, .ref (gad (gX E) k0)), (1, .int x1), (2, .int x2)] [] M (pX4_canBeSent fu k0 x1 x2 M) := by
  unfold pX4_canBeSent
  refine j_aload_n (pc := 0) hX 0 dX4_canBeSent_0 rfl rfl ?_
  refine j_iload_n (pc := 1) hX 1 dX4_canBeSent_1 rfl rfl ?_
  refine j_iconst (pc := 2) (v := (0 : Int32)) hX dX4_canBeSent_2 ci_0 ?_
  refine j_callV (pc := 3) hX [.int x1, .int (0 : Int32)] (mX4_is _ E hX.2.2.2.2.2.2.2.2.1 fu k0 hk0 x1 (0 : Int32) M) qX4_is tw_546 (hh hk0).1 hk0 (ci := 4) (T := TX4) (N := 2) rfl (jb rfl) rfl ⟨rfl, rfl⟩ ⟨(Nat.le_of_ble_eq_true rfl), (Nat.le_of_ble_eq_true rfl)⟩ (Nat.le_of_ble_eq_true rfl) dX4_canBeSent_3 (fun _ => rfl) rfl (fun r2 M1 => ?_)
  refine j_if_eq (pc := 6) hX 37 dX4_canBeSent_6 (by decide) ?_ ?_
  · refine j_iconst (pc := 37) (v := (0 : Int32)) hX dX4_canBeSent_37 ci_0 ?_
    exact j_zret (pc := 38) hX rfl dX4_canBeSent_38
  · refine j_aload_n (pc := 9) hX 0 dX4_canBeSent_9 rfl rfl ?_
    refine j_getR (pc := 10) (t := 5) hX (hh hk0).1 hk0 (ci := 4) (C := RX4) (T := TX4) (N := 2) rfl (jb rfl) inX4 (j := 0) (jb rfl) (rf_h0 hk0) tw_166 dX4_canBeSent_10 ?_
    refine j_aload_n (pc := 13) hX 0 dX4_canBeSent_13 rfl rfl ?_
    refine j_iload_n (pc := 14) hX 1 dX4_canBeSent_14 rfl rfl ?_
    refine j_iconst (pc := 15) (v := (2 : Int32)) hX dX4_canBeSent_15 ci_2 ?_
    refine j_callV (pc := 16) hX [.int x1, .int (2 : Int32)] (mX4_get _ E hX.2.2.2.2.2.2.2.2.1 fu k0 hk0 x1 (2 : Int32) M1) qX4_get tw_496 (hh hk0).1 hk0 (ci := 4) (T := TX4) (N := 2) rfl (jb rfl) rfl ⟨rfl, rfl⟩ ⟨(Nat.le_of_ble_eq_true rfl), (Nat.le_of_ble_eq_true rfl)⟩ (Nat.le_of_ble_eq_true rfl) dX4_canBeSent_16 (fun _ => rfl) rfl (fun r4 M3 => ?_)
    refine j_aload_n (pc := 19) hX 0 dX4_canBeSent_19 rfl rfl ?_
    refine j_getR (pc := 20) (t := 5) hX (hh hk0).1 hk0 (ci := 4) (C := RX4) (T := TX4) (N := 2) rfl (jb rfl) inX4 (j := 0) (jb rfl) (rf_h0 hk0) tw_166 dX4_canBeSent_20 ?_
    refine j_iload_n (pc := 23) hX 2 dX4_canBeSent_23 rfl rfl ?_
    refine j_callV (pc := 24) hX [.int x2] (mX1_doorPlace _ E hX.2.2.2.2.2.2.2.2.1 fu 5 rfl x2 M3) qX1_doorPlace tw_570 (jb rfl) rfl (ci := 1) (T := TX1) (N := 13) rfl (jb rfl) rfl ⟨rfl, rfl⟩ ⟨(Nat.le_of_ble_eq_true rfl), (Nat.le_of_ble_eq_true rfl)⟩ (Nat.le_of_ble_eq_true rfl) dX4_canBeSent_24 (fun _ => rfl) rfl (fun r6 M5 => ?_)
    refine j_callV (pc := 27) hX [.int r4, .int r6] (mX1_isReached _ E hX.2.2.2.2.2.2.2.2.1 fu 5 rfl r4 r6 M5) qX1_isReached tw_571 (jb rfl) rfl (ci := 1) (T := TX1) (N := 13) rfl (jb rfl) rfl ⟨rfl, rfl⟩ ⟨(Nat.le_of_ble_eq_true rfl), (Nat.le_of_ble_eq_true rfl)⟩ (Nat.le_of_ble_eq_true rfl) dX4_canBeSent_27 (fun _ => rfl) rfl (fun r8 M7 => ?_)
    refine j_if_eq (pc := 30) hX 37 dX4_canBeSent_30 (by decide) ?_ ?_
    · refine j_iconst (pc := 37) (v := (0 : Int32)) hX dX4_canBeSent_37 ci_0 ?_
      exact j_zret (pc := 38) hX rfl dX4_canBeSent_38
    · refine j_iconst (pc := 33) (v := (1 : Int32)) hX dX4_canBeSent_33 ci_1 ?_
      refine j_goto (pc := 34) hX 38 dX4_canBeSent_34 (by decide) ?_
      exact j_zret (pc := 38) hX rfl dX4_canBeSent_38
theorem mX4_canBeSent (l : Launch) (E : jE) (hI : jInj (gX E)) (fu : Nat) (k0 : Nat) (hk0 : tX k0 = 4) (x1 : Int32) (x2 : Int32) (M : Mem) : jMet l (gX E) yX4_canBeSent cX4_canBeSent 3 (some .boolean) rX4_canBeSent [.ref (gad (gX E) k0), .int x1, .int x2] M (pX4_canBeSent fu k0 x1 x2 M) :=
  j_entry hI (by decide +kernel) (Nat.le_of_ble_eq_true rfl) rfl (fun X _ hX => wX4_canBeSent hX fu k0 hk0 x1 x2 M)
theorem qX4_dispatch : jYv yX4_dispatch cX4_dispatch 5 none 3 := ⟨tw_588, tw_589, tw_61, tw_590, ⟨by decide +kernel, by decide +kernel, by decide +kernel⟩⟩
abbrev rX4_dispatch : Room := { frames := 2, cells := 0, slots := 0, locals := 42 }
def uX4_dispatch : jM := (cX4_dispatch, 5, RX4, none, rX4_dispatch)
def pX4_dispatch (fu : Nat) (k0 : Nat) (x1 : Int32) (x2 : Int32) (x3 : Int32) (M : Mem) : Res :=
  bI (pX4_get fu k0 x1 (0 : Int32) M) fun r2 M1 =>
  bV (pX4_set fu k0 x1 (9 : Int32) r2 M1) fun M3 =>
  bV (pX4_set fu k0 x1 (0 : Int32) (irm (r2 + (1 : Int32)) (10 : Int32)) M3) fun M4 =>
  bV (pX4_set fu k0 x1 (1 : Int32) (1 : Int32) M4) fun M5 =>
  bI (pX1_doorPlace fu 5 x3 M5) fun r7 M6 =>
  bV (pX4_set fu k0 x1 (10 : Int32) r7 M6) fun M8 =>
  bV (pX4_set fu k0 x1 (5 : Int32) x3 M8) fun M9 =>
  bV (pX4_set fu k0 x1 (6 : Int32) x2 M9) fun M10 =>
  bV (pX4_set fu k0 x1 (7 : Int32) (0 : Int32) M10) fun M11 =>
  bV (pX4_set fu k0 x1 (8 : Int32) (0 : Int32) M11) fun M12 =>
  some (0, M12)
set_option maxRecDepth 100000 in
theorem wX4_dispatch {E : jE} {X : jC} (hX : jOk X uX4_dispatch (gX E)) (fu : Nat) (k0 : Nat) (hk0 : tX k0 = 4) (x1 : Int32) (x2 : Int32) (x3 : Int32) (M : Mem) : J X uX4_dispatch (gX E) 0 [(0, .ref (gad (gX E) k0)), (1, .int x1), (2, .int x2), (3, .int x3)] [] M (pX4_dispatch fu k0 x1 x2 x3 M) := by
  unfold pX4_dispatch
  refine j_aload_n (pc := 0) hX 0 dX4_dispatch_0 rfl rfl ?_
  refine j_iload_n (pc := 1) hX 1 dX4_dispatch_1 rfl rfl ?_
  refine j_iconst (pc := 2) (v := (0 : Int32)) hX dX4_dispatch_2 ci_0 ?_
  refine j_callV (pc := 3) hX [.int x1, .int (0 : Int32)] (mX4_get _ E hX.2.2.2.2.2.2.2.2.1 fu k0 hk0 x1 (0 : Int32) M) qX4_get tw_496 (hh hk0).1 hk0 (ci := 4) (T := TX4) (N := 2) rfl (jb rfl) rfl ⟨rfl, rfl⟩ ⟨(Nat.le_of_ble_eq_true rfl), (Nat.le_of_ble_eq_true rfl)⟩ (Nat.le_of_ble_eq_true rfl) dX4_dispatch_3 (fun _ => rfl) rfl (fun r2 M1 => ?_)
  refine j_istore (pc := 6) (lv' := [(4, .int r2), (0, .ref (gad (gX E) k0)), (1, .int x1), (2, .int x2), (3, .int x3)]) hX dX4_dispatch_6 (jb rfl) rfl ?_
  refine j_aload_n (pc := 8) hX 1 dX4_dispatch_8 rfl rfl ?_
  refine j_iload_n (pc := 9) hX 2 dX4_dispatch_9 rfl rfl ?_
  refine j_bipush (pc := 10) (v := (9 : Int32)) hX dX4_dispatch_10 cb_9 ?_
  refine j_iload (pc := 12) hX 0 dX4_dispatch_12 rfl ?_
  refine j_callVv (pc := 14) hX [.int x1, .int (9 : Int32), .int r2] (mX4_set _ E hX.2.2.2.2.2.2.2.2.1 fu k0 hk0 x1 (9 : Int32) r2 M1) qX4_set tw_395 (hh hk0).1 hk0 (ci := 4) (T := TX4) (N := 2) rfl (jb rfl) rfl ⟨rfl, rfl⟩ ⟨(Nat.le_of_ble_eq_true rfl), (Nat.le_of_ble_eq_true rfl)⟩ (Nat.le_of_ble_eq_true rfl) dX4_dispatch_14 rfl (fun M3 => ?_)
  refine j_aload_n (pc := 17) hX 1 dX4_dispatch_17 rfl rfl ?_
  refine j_iload_n (pc := 18) hX 2 dX4_dispatch_18 rfl rfl ?_
  refine j_iconst (pc := 19) (v := (0 : Int32)) hX dX4_dispatch_19 ci_0 ?_
  refine j_iload (pc := 20) hX 0 dX4_dispatch_20 rfl ?_
  refine j_iconst (pc := 22) (v := (1 : Int32)) hX dX4_dispatch_22 ci_1 ?_
  refine j_iadd (pc := 23) hX dX4_dispatch_23 ?_
  refine j_bipush (pc := 24) (v := (10 : Int32)) hX dX4_dispatch_24 cb_10 ?_
  refine j_iremC (pc := 26) hX dX4_dispatch_26 (by decide) ?_
  refine j_callVv (pc := 27) hX [.int x1, .int (0 : Int32), .int (irm (r2 + (1 : Int32)) (10 : Int32))] (mX4_set _ E hX.2.2.2.2.2.2.2.2.1 fu k0 hk0 x1 (0 : Int32) (irm (r2 + (1 : Int32)) (10 : Int32)) M3) qX4_set tw_395 (hh hk0).1 hk0 (ci := 4) (T := TX4) (N := 2) rfl (jb rfl) rfl ⟨rfl, rfl⟩ ⟨(Nat.le_of_ble_eq_true rfl), (Nat.le_of_ble_eq_true rfl)⟩ (Nat.le_of_ble_eq_true rfl) dX4_dispatch_27 rfl (fun M4 => ?_)
  refine j_aload_n (pc := 30) hX 1 dX4_dispatch_30 rfl rfl ?_
  refine j_iload_n (pc := 31) hX 2 dX4_dispatch_31 rfl rfl ?_
  refine j_iconst (pc := 32) (v := (1 : Int32)) hX dX4_dispatch_32 ci_1 ?_
  refine j_iconst (pc := 33) (v := (1 : Int32)) hX dX4_dispatch_33 ci_1 ?_
  refine j_callVv (pc := 34) hX [.int x1, .int (1 : Int32), .int (1 : Int32)] (mX4_set _ E hX.2.2.2.2.2.2.2.2.1 fu k0 hk0 x1 (1 : Int32) (1 : Int32) M4) qX4_set tw_395 (hh hk0).1 hk0 (ci := 4) (T := TX4) (N := 2) rfl (jb rfl) rfl ⟨rfl, rfl⟩ ⟨(Nat.le_of_ble_eq_true rfl), (Nat.le_of_ble_eq_true rfl)⟩ (Nat.le_of_ble_eq_true rfl) dX4_dispatch_34 rfl (fun M5 => ?_)
  refine j_aload_n (pc := 37) hX 1 dX4_dispatch_37 rfl rfl ?_
  refine j_iload_n (pc := 38) hX 2 dX4_dispatch_38 rfl rfl ?_
  refine j_bipush (pc := 39) (v := (10 : Int32)) hX dX4_dispatch_39 cb_10 ?_
  refine j_aload_n (pc := 41) hX 1 dX4_dispatch_41 rfl rfl ?_
  refine j_getR (pc := 42) (t := 5) hX (hh hk0).1 hk0 (ci := 4) (C := RX4) (T := TX4) (N := 2) rfl (jb rfl) inX4 (j := 0) (jb rfl) (rf_h0 hk0) tw_166 dX4_dispatch_42 ?_
  refine j_iload_n (pc := 45) hX 4 dX4_dispatch_45 rfl rfl ?_
  refine j_callV (pc := 46) hX [.int x3] (mX1_doorPlace _ E hX.2.2.2.2.2.2.2.2.1 fu 5 rfl x3 M5) qX1_doorPlace tw_570 (jb rfl) rfl (ci := 1) (T := TX1) (N := 13) rfl (jb rfl) rfl ⟨rfl, rfl⟩ ⟨(Nat.le_of_ble_eq_true rfl), (Nat.le_of_ble_eq_true rfl)⟩ (Nat.le_of_ble_eq_true rfl) dX4_dispatch_46 (fun _ => rfl) rfl (fun r7 M6 => ?_)
  refine j_callVv (pc := 49) hX [.int x1, .int (10 : Int32), .int r7] (mX4_set _ E hX.2.2.2.2.2.2.2.2.1 fu k0 hk0 x1 (10 : Int32) r7 M6) qX4_set tw_395 (hh hk0).1 hk0 (ci := 4) (T := TX4) (N := 2) rfl (jb rfl) rfl ⟨rfl, rfl⟩ ⟨(Nat.le_of_ble_eq_true rfl), (Nat.le_of_ble_eq_true rfl)⟩ (Nat.le_of_ble_eq_true rfl) dX4_dispatch_49 rfl (fun M8 => ?_)
  refine j_aload_n (pc := 52) hX 1 dX4_dispatch_52 rfl rfl ?_
  refine j_iload_n (pc := 53) hX 2 dX4_dispatch_53 rfl rfl ?_
  refine j_iconst (pc := 54) (v := (5 : Int32)) hX dX4_dispatch_54 ci_5 ?_
  refine j_iload_n (pc := 55) hX 4 dX4_dispatch_55 rfl rfl ?_
  refine j_callVv (pc := 56) hX [.int x1, .int (5 : Int32), .int x3] (mX4_set _ E hX.2.2.2.2.2.2.2.2.1 fu k0 hk0 x1 (5 : Int32) x3 M8) qX4_set tw_395 (hh hk0).1 hk0 (ci := 4) (T := TX4) (N := 2) rfl (jb rfl) rfl ⟨rfl, rfl⟩ ⟨(Nat.le_of_ble_eq_true rfl), (Nat.le_of_ble_eq_true rfl)⟩ (Nat.le_of_ble_eq_true rfl) dX4_dispatch_56 rfl (fun M9 => ?_)
  refine j_aload_n (pc := 59) hX 1 dX4_dispatch_59 rfl rfl ?_
  refine j_iload_n (pc := 60) hX 2 dX4_dispatch_60 rfl rfl ?_
  refine j_bipush (pc := 61) (v := (6 : Int32)) hX dX4_dispatch_61 cb_6 ?_
  refine j_iload_n (pc := 63) hX 3 dX4_dispatch_63 rfl rfl ?_
  refine j_callVv (pc := 64) hX [.int x1, .int (6 : Int32), .int x2] (mX4_set _ E hX.2.2.2.2.2.2.2.2.1 fu k0 hk0 x1 (6 : Int32) x2 M9) qX4_set tw_395 (hh hk0).1 hk0 (ci := 4) (T := TX4) (N := 2) rfl (jb rfl) rfl ⟨rfl, rfl⟩ ⟨(Nat.le_of_ble_eq_true rfl), (Nat.le_of_ble_eq_true rfl)⟩ (Nat.le_of_ble_eq_true rfl) dX4_dispatch_64 rfl (fun M10 => ?_)
  refine j_aload_n (pc := 67) hX 1 dX4_dispatch_67 rfl rfl ?_
  refine j_iload_n (pc := 68) hX 2 dX4_dispatch_68 rfl rfl ?_
  refine j_bipush (pc := 69) (v := (7 : Int32)) hX dX4_dispatch_69 cb_7 ?_
  refine j_iconst (pc := 71) (v := (0 : Int32)) hX dX4_dispatch_71 ci_0 ?_
  refine j_callVv (pc := 72) hX [.int x1, .int (7 : Int32), .int (0 : Int32)] (mX4_set _ E hX.2.2.2.2.2.2.2.2.1 fu k0 hk0 x1 (7 : Int32) (0 : Int32) M10) qX4_set tw_395 (hh hk0).1 hk0 (ci := 4) (T := TX4) (N := 2) rfl (jb rfl) rfl ⟨rfl, rfl⟩ ⟨(Nat.le_of_ble_eq_true rfl), (Nat.le_of_ble_eq_true rfl)⟩ (Nat.le_of_ble_eq_true rfl) dX4_dispatch_72 rfl (fun M11 => ?_)
  refine j_aload_n (pc := 75) hX 1 dX4_dispatch_75 rfl rfl ?_
  refine j_iload_n (pc := 76) hX 2 dX4_dispatch_76 rfl rfl ?_
  refine j_bipush (pc := 77) (v := (8 : Int32)) hX dX4_dispatch_77 cb_8 ?_
  refine j_iconst (pc := 79) (v := (0 : Int32)) hX dX4_dispatch_79 ci_0 ?_
  refine j_callVv (pc := 80) hX [.int x1, .int (8 : Int32), .int (0 : Int32)] (mX4_set _ E hX.2.2.2.2.2.2.2.2.1 fu k0 hk0 x1 (8 : Int32) (0 : Int32) M11) qX4_set tw_395 (hh hk0).1 hk0 (ci := 4) (T := TX4) (N := 2) rfl (jb rfl) rfl ⟨rfl, rfl⟩ ⟨(Nat.le_of_ble_eq_true rfl), (Nat.le_of_ble_eq_true rfl)⟩ (Nat.le_of_ble_eq_true rfl) dX4_dispatch_80 rfl (fun M12 => ?_)
  exact j_vret (pc := 83) hX rfl dX4_dispatch_83
theorem mX4_dispatch (l : Launch) (E : jE) (hI : jInj (gX E)) (fu : Nat) (k0 : Nat) (hk0 : tX k0 = 4) (x1 : Int32) (x2 : Int32) (x3 : Int32) (M : Mem) : jMet l (gX E) yX4_dispatch cX4_dispatch 5 none rX4_dispatch [.ref (gad (gX E) k0), .int x1, .int x2, .int x3] M (pX4_dispatch fu k0 x1 x2 x3 M) :=
  j_entry hI (by decide +kernel) (Nat.le_of_ble_eq_true rfl) rfl (fun X _ hX => wX4_dispatch hX fu k0 hk0 x1 x2 x3 M)
theorem qX4_signOf : jYv yX4_signOf cX4_signOf 5 (some .int) 2 := ⟨tw_551, tw_552, tw_61, tw_553, ⟨by decide +kernel, by decide +kernel, by decide +kernel⟩⟩
abbrev rX4_signOf : Room := { frames := 2, cells := 0, slots := 0, locals := 42 }
def uX4_signOf : jM := (cX4_signOf, 5, RX4, (some .int), rX4_signOf)
def pX4_signOf_63 (fu : Nat) (k0 : Nat) (x1 : Int32) (x3 : Int32) (M : Mem)  : Res :=
  bI (pX4_get fu k0 x1 (7 : Int32) M) fun r8 M7 =>
  bI (pX4_get fu k0 x1 (8 : Int32) M7) fun r10 M9 =>
  some ((imax ((x3 - r8) - ((2 : Int32) * r10)) (0 : Int32)), M9)
set_option maxRecDepth 100000 in
theorem wX4_signOf_63 {E : jE} {X : jC} (hX : jOk X uX4_signOf (gX E)) (fu : Nat) (k0 : Nat) (hk0 : tX k0 = 4) (x1 : Int32) (x3 : Int32) (M : Mem)   : J X uX4_signOf (gX E) 63 [(0, .ref (gad (gX E) k0)), (1, .int x1), (3, .int x3)] [] M (pX4_signOf_63 fu k0 x1 x3 M ) := by
  unfold pX4_signOf_63
  refine j_iload_n (pc := 63) hX 2 dX4_signOf_63 rfl rfl ?_
  refine j_aload_n (pc := 64) hX 0 dX4_signOf_64 rfl rfl ?_
  refine j_iload_n (pc := 65) hX 1 dX4_signOf_65 rfl rfl ?_
  refine j_bipush (pc := 66) (v := (7 : Int32)) hX dX4_signOf_66 cb_7 ?_
  refine j_callV (pc := 68) hX [.int x1, .int (7 : Int32)] (mX4_get _ E hX.2.2.2.2.2.2.2.2.1 fu k0 hk0 x1 (7 : Int32) M) qX4_get tw_496 (hh hk0).1 hk0 (ci := 4) (T := TX4) (N := 2) rfl (jb rfl) rfl ⟨rfl, rfl⟩ ⟨(Nat.le_of_ble_eq_true rfl), (Nat.le_of_ble_eq_true rfl)⟩ (Nat.le_of_ble_eq_true rfl) dX4_signOf_68 (fun _ => rfl) rfl (fun r8 M7 => ?_)
  refine j_isub (pc := 71) hX dX4_signOf_71 ?_
  refine j_iconst (pc := 72) (v := (2 : Int32)) hX dX4_signOf_72 ci_2 ?_
  refine j_aload_n (pc := 73) hX 0 dX4_signOf_73 rfl rfl ?_
  refine j_iload_n (pc := 74) hX 1 dX4_signOf_74 rfl rfl ?_
  refine j_bipush (pc := 75) (v := (8 : Int32)) hX dX4_signOf_75 cb_8 ?_
  refine j_callV (pc := 77) hX [.int x1, .int (8 : Int32)] (mX4_get _ E hX.2.2.2.2.2.2.2.2.1 fu k0 hk0 x1 (8 : Int32) M7) qX4_get tw_496 (hh hk0).1 hk0 (ci := 4) (T := TX4) (N := 2) rfl (jb rfl) rfl ⟨rfl, rfl⟩ ⟨(Nat.le_of_ble_eq_true rfl), (Nat.le_of_ble_eq_true rfl)⟩ (Nat.le_of_ble_eq_true rfl) dX4_signOf_77 (fun _ => rfl) rfl (fun r10 M9 => ?_)
  refine j_imul (pc := 80) hX dX4_signOf_80 ?_
  refine j_isub (pc := 81) hX dX4_signOf_81 ?_
  refine j_iconst (pc := 82) (v := (0 : Int32)) hX dX4_signOf_82 ci_0 ?_
  refine j_max (pc := 83) hX tw_556 tw_557 tw_71 tw_558 (Nat.le_of_ble_eq_true rfl) (Nat.le_of_ble_eq_true rfl) dX4_signOf_83 ?_
  exact j_iret (pc := 86) hX rfl dX4_signOf_86
def pX4_signOf_36 (fu : Nat) (k0 : Nat) (x1 : Int32) (x3 : Int32) (x4 : Int32) (M : Mem)  : Res :=
  bI (pX1_kind fu 5 x1 M) fun r6 M5 =>
  if r6 = (2 : Int32) then (
    if x4 < (5 : Int32) then (
      pX4_signOf_63 fu k0 x1 x3 M5 )
    else
    pX4_signOf_63 fu k0 x1 (imin (x3 + (1 : Int32)) (7 : Int32)) M5 )
  else
  pX4_signOf_63 fu k0 x1 x3 M5 
set_option maxRecDepth 100000 in
theorem wX4_signOf_36 {E : jE} {X : jC} (hX : jOk X uX4_signOf (gX E)) (fu : Nat) (k0 : Nat) (hk0 : tX k0 = 4) (x1 : Int32) (x3 : Int32) (x4 : Int32) (M : Mem)   : J X uX4_signOf (gX E) 36 [(0, .ref (gad (gX E) k0)), (1, .int x1), (3, .int x3), (4, .int x4)] [] M (pX4_signOf_36 fu k0 x1 x3 x4 M ) := by
  unfold pX4_signOf_36
  refine j_aload_n (pc := 36) hX 0 dX4_signOf_36 rfl rfl ?_
  refine j_getR (pc := 37) (t := 5) hX (hh hk0).1 hk0 (ci := 4) (C := RX4) (T := TX4) (N := 2) rfl (jb rfl) inX4 (j := 0) (jb rfl) (rf_h0 hk0) tw_166 dX4_signOf_37 ?_
  refine j_iload_n (pc := 40) hX 1 dX4_signOf_40 rfl rfl ?_
  refine j_callV (pc := 41) hX [.int x1] (mX1_kind _ E hX.2.2.2.2.2.2.2.2.1 fu 5 rfl x1 M) qX1_kind tw_554 (jb rfl) rfl (ci := 1) (T := TX1) (N := 13) rfl (jb rfl) rfl ⟨rfl, rfl⟩ ⟨(Nat.le_of_ble_eq_true rfl), (Nat.le_of_ble_eq_true rfl)⟩ (Nat.le_of_ble_eq_true rfl) dX4_signOf_41 (fun _ => rfl) rfl (fun r6 M5 => ?_)
  refine j_iconst (pc := 44) (v := (2 : Int32)) hX dX4_signOf_44 ci_2 ?_
  refine j_icmp_ne (pc := 45) hX 63 dX4_signOf_45 (by decide) ?_ ?_
  · exact j_sub [0, 1, 2] rfl (wX4_signOf_63 hX fu k0 hk0 x1 x3 M5  )
  · refine j_iload (pc := 48) hX 3 dX4_signOf_48 rfl ?_
    refine j_iconst (pc := 50) (v := (5 : Int32)) hX dX4_signOf_50 ci_5 ?_
    refine j_icmp_lt (pc := 51) hX 63 dX4_signOf_51 (by decide) ?_ ?_
    · exact j_sub [0, 1, 2] rfl (wX4_signOf_63 hX fu k0 hk0 x1 x3 M5  )
    · refine j_iload_n (pc := 54) hX 2 dX4_signOf_54 rfl rfl ?_
      refine j_iconst (pc := 55) (v := (1 : Int32)) hX dX4_signOf_55 ci_1 ?_
      refine j_iadd (pc := 56) hX dX4_signOf_56 ?_
      refine j_bipush (pc := 57) (v := (7 : Int32)) hX dX4_signOf_57 cb_7 ?_
      refine j_min (pc := 59) hX tw_555 tw_376 tw_71 tw_377 (Nat.le_of_ble_eq_true rfl) (Nat.le_of_ble_eq_true rfl) dX4_signOf_59 ?_
      refine j_istore_n (pc := 62) (lv' := [(3, .int (imin (x3 + (1 : Int32)) (7 : Int32))), (0, .ref (gad (gX E) k0)), (1, .int x1), (4, .int x4)]) hX dX4_signOf_62 rfl (jb rfl) rfl ?_
      exact j_sub [1, 2, 0] rfl (wX4_signOf_63 hX fu k0 hk0 x1 (imin (x3 + (1 : Int32)) (7 : Int32)) M5  )
def pX4_signOf (fu : Nat) (k0 : Nat) (x1 : Int32) (x2 : Int32) (M : Mem) : Res :=
  bI (pX4_get fu k0 x1 (9 : Int32) M) fun r2 M1 =>
  bI (pX1_kind fu 5 x1 M1) fun r4 M3 =>
  if r4 = (1 : Int32) then (
    if (irm r2 (2 : Int32)) = (1 : Int32) then (
      pX4_signOf_36 fu k0 x1 ((7 : Int32) - x2) r2 M3 )
    else
    pX4_signOf_36 fu k0 x1 x2 r2 M3 )
  else
  pX4_signOf_36 fu k0 x1 x2 r2 M3 
set_option maxRecDepth 100000 in
theorem wX4_signOf {E : jE} {X : jC} (hX : jOk X uX4_signOf (gX E)) (fu : Nat) (k0 : Nat) (hk0 : tX k0 = 4) (x1 : Int32) (x2 : Int32) (M : Mem) : J X uX4_signOf (gX E) 0 [(0, .ref (gad (gX E) k0)), (1, .int x1), (2, .int x2)] [] M (pX4_signOf fu k0 x1 x2 M) := by
  unfold pX4_signOf
  refine j_iload_n (pc := 0) hX 2 dX4_signOf_0 rfl rfl ?_
  refine j_istore_n (pc := 1) (lv' := [(3, .int x2), (0, .ref (gad (gX E) k0)), (1, .int x1), (2, .int x2)]) hX dX4_signOf_1 rfl (jb rfl) rfl ?_
  refine j_aload_n (pc := 2) hX 1 dX4_signOf_2 rfl rfl ?_
  refine j_iload_n (pc := 3) hX 2 dX4_signOf_3 rfl rfl ?_
  refine j_bipush (pc := 4) (v := (9 : Int32)) hX dX4_signOf_4 cb_9 ?_
  refine j_callV (pc := 6) hX [.int x1, .int (9 : Int32)] (mX4_get _ E hX.2.2.2.2.2.2.2.2.1 fu k0 hk0 x1 (9 : Int32) M) qX4_get tw_496 (hh hk0).1 hk0 (ci := 4) (T := TX4) (N := 2) rfl (jb rfl) rfl ⟨rfl, rfl⟩ ⟨(Nat.le_of_ble_eq_true rfl), (Nat.le_of_ble_eq_true rfl)⟩ (Nat.le_of_ble_eq_true rfl) dX4_signOf_6 (fun _ => rfl) rfl (fun r2 M1 => ?_)
  refine j_istore (pc := 9) (lv' := [(4, .int r2), (3, .int x2), (0, .ref (gad (gX E) k0)), (1, .int x1), (2, .int x2)]) hX dX4_signOf_9 (jb rfl) rfl ?_
  refine j_aload_n (pc := 11) hX 2 dX4_signOf_11 rfl rfl ?_
  refine j_getR (pc := 12) (t := 5) hX (hh hk0).1 hk0 (ci := 4) (C := RX4) (T := TX4) (N := 2) rfl (jb rfl) inX4 (j := 0) (jb rfl) (rf_h0 hk0) tw_166 dX4_signOf_12 ?_
  refine j_iload_n (pc := 15) hX 3 dX4_signOf_15 rfl rfl ?_
  refine j_callV (pc := 16) hX [.int x1] (mX1_kind _ E hX.2.2.2.2.2.2.2.2.1 fu 5 rfl x1 M1) qX1_kind tw_554 (jb rfl) rfl (ci := 1) (T := TX1) (N := 13) rfl (jb rfl) rfl ⟨rfl, rfl⟩ ⟨(Nat.le_of_ble_eq_true rfl), (Nat.le_of_ble_eq_true rfl)⟩ (Nat.le_of_ble_eq_true rfl) dX4_signOf_16 (fun _ => rfl) rfl (fun r4 M3 => ?_)
  refine j_iconst (pc := 19) (v := (1 : Int32)) hX dX4_signOf_19 ci_1 ?_
  refine j_icmp_ne (pc := 20) hX 36 dX4_signOf_20 (by decide) ?_ ?_
  · exact j_sub [2, 3, 1, 0] rfl (wX4_signOf_36 hX fu k0 hk0 x1 x2 r2 M3  )
  · refine j_iload (pc := 23) hX 0 dX4_signOf_23 rfl ?_
    refine j_iconst (pc := 25) (v := (2 : Int32)) hX dX4_signOf_25 ci_2 ?_
    refine j_iremC (pc := 26) hX dX4_signOf_26 (by decide) ?_
    refine j_iconst (pc := 27) (v := (1 : Int32)) hX dX4_signOf_27 ci_1 ?_
    refine j_icmp_ne (pc := 28) hX 36 dX4_signOf_28 (by decide) ?_ ?_
    · exact j_sub [2, 3, 1, 0] rfl (wX4_signOf_36 hX fu k0 hk0 x1 x2 r2 M3  )
    · refine j_bipush (pc := 31) (v := (7 : Int32)) hX dX4_signOf_31 cb_7 ?_
      refine j_iload_n (pc := 33) hX 1 dX4_signOf_33 rfl rfl ?_
      refine j_isub (pc := 34) hX dX4_signOf_34 ?_
      refine j_istore_n (pc := 35) (lv' := [(3, .int ((7 : Int32) - x2)), (4, .int r2), (0, .ref (gad (gX E) k0)), (1, .int x1), (2, .int x2)]) hX dX4_signOf_35 rfl (jb rfl) rfl ?_
      exact j_sub [2, 3, 0, 1] rfl (wX4_signOf_36 hX fu k0 hk0 x1 ((7 : Int32) - x2) r2 M3  )
theorem mX4_signOf (l : Launch) (E : jE) (hI : jInj (gX E)) (fu : Nat) (k0 : Nat) (hk0 : tX k0 = 4) (x1 : Int32) (x2 : Int32) (M : Mem) : jMet l (gX E) yX4_signOf cX4_signOf 5 (some .int) rX4_signOf [.ref (gad (gX E) k0), .int x1, .int x2] M (pX4_signOf fu k0 x1 x2 M) :=
  j_entry hI (by decide +kernel) (Nat.le_of_ble_eq_true rfl) rfl (fun X _ hX => wX4_signOf hX fu k0 hk0 x1 x2 M)
