theorem dX10_hour_0 : decode cX10_hour 0 = .ok (.iconst 0, 1) := by decide +kernel
theorem dX10_hour_1 : decode cX10_hour 1 = .ok (.istore_n 3, 1) := by decide +kernel
theorem dX10_hour_2 : decode cX10_hour 2 = .ok (.iload_n 3, 1) := by decide +kernel
theorem dX10_hour_3 : decode cX10_hour 3 = .ok (.aload_n 0, 1) := by decide +kernel
theorem dX10_hour_4 : decode cX10_hour 4 = .ok (.getfield 98, 3) := by decide +kernel
theorem dX10_hour_7 : decode cX10_hour 7 = .ok (.if_icmp .ge 44, 3) := by decide +kernel
theorem dX10_hour_10 : decode cX10_hour 10 = .ok (.iload_n 3, 1) := by decide +kernel
theorem dX10_hour_11 : decode cX10_hour 11 = .ok (.iload_n 2, 1) := by decide +kernel
theorem dX10_hour_12 : decode cX10_hour 12 = .ok (.if_icmp .eq 33, 3) := by decide +kernel
theorem dX10_hour_15 : decode cX10_hour 15 = .ok (.aload_n 0, 1) := by decide +kernel
theorem dX10_hour_16 : decode cX10_hour 16 = .ok (.getfield 43, 3) := by decide +kernel
theorem dX10_hour_19 : decode cX10_hour 19 = .ok (.iload_n 1, 1) := by decide +kernel
theorem dX10_hour_20 : decode cX10_hour 20 = .ok (.iload_n 3, 1) := by decide +kernel
theorem dX10_hour_21 : decode cX10_hour 21 = .ok (.iadd, 1) := by decide +kernel
theorem dX10_hour_22 : decode cX10_hour 22 = .ok (.iaload, 1) := by decide +kernel
theorem dX10_hour_23 : decode cX10_hour 23 = .ok (.iconst 1, 1) := by decide +kernel
theorem dX10_hour_24 : decode cX10_hour 24 = .ok (.if_icmp .eq 15, 3) := by decide +kernel
theorem dX10_hour_27 : decode cX10_hour 27 = .ok (.aload_n 0, 1) := by decide +kernel
theorem dX10_hour_28 : decode cX10_hour 28 = .ok (.getfield 43, 3) := by decide +kernel
theorem dX10_hour_31 : decode cX10_hour 31 = .ok (.iload_n 1, 1) := by decide +kernel
theorem dX10_hour_32 : decode cX10_hour 32 = .ok (.iload_n 3, 1) := by decide +kernel
theorem dX10_hour_33 : decode cX10_hour 33 = .ok (.iadd, 1) := by decide +kernel
theorem dX10_hour_34 : decode cX10_hour 34 = .ok (.iaload, 1) := by decide +kernel
theorem dX10_hour_35 : decode cX10_hour 35 = .ok (.iconst 3, 1) := by decide +kernel
theorem dX10_hour_36 : decode cX10_hour 36 = .ok (.if_icmp .ne 9, 3) := by decide +kernel
theorem dX10_hour_39 : decode cX10_hour 39 = .ok (.aload_n 0, 1) := by decide +kernel
theorem dX10_hour_40 : decode cX10_hour 40 = .ok (.iload_n 1, 1) := by decide +kernel
theorem dX10_hour_41 : decode cX10_hour 41 = .ok (.iload_n 3, 1) := by decide +kernel
theorem dX10_hour_42 : decode cX10_hour 42 = .ok (.invokevirtual 209, 3) := by decide +kernel
theorem dX10_hour_45 : decode cX10_hour 45 = .ok (.iinc 3 1, 3) := by decide +kernel
theorem dX10_hour_48 : decode cX10_hour 48 = .ok (.goto (-46), 3) := by decide +kernel
theorem dX10_hour_51 : decode cX10_hour 51 = .ok (.aload_n 0, 1) := by decide +kernel
theorem dX10_hour_52 : decode cX10_hour 52 = .ok (.getfield 43, 3) := by decide +kernel
theorem dX10_hour_55 : decode cX10_hour 55 = .ok (.iload_n 1, 1) := by decide +kernel
theorem dX10_hour_56 : decode cX10_hour 56 = .ok (.bipush 63, 2) := by decide +kernel
theorem dX10_hour_58 : decode cX10_hour 58 = .ok (.iadd, 1) := by decide +kernel
theorem dX10_hour_59 : decode cX10_hour 59 = .ok (.dup2, 1) := by decide +kernel
theorem dX10_hour_60 : decode cX10_hour 60 = .ok (.iaload, 1) := by decide +kernel
theorem dX10_hour_61 : decode cX10_hour 61 = .ok (.iconst 1, 1) := by decide +kernel
theorem dX10_hour_62 : decode cX10_hour 62 = .ok (.iadd, 1) := by decide +kernel
theorem dX10_hour_63 : decode cX10_hour 63 = .ok (.iastore, 1) := by decide +kernel
theorem dX10_hour_64 : decode cX10_hour 64 = .ok (.return_, 1) := by decide +kernel
theorem dX10_send_0 : decode cX10_send 0 = .ok (.aload_n 0, 1) := by decide +kernel
theorem dX10_send_1 : decode cX10_send 1 = .ok (.iload_n 1, 1) := by decide +kernel
theorem dX10_send_2 : decode cX10_send 2 = .ok (.invokevirtual 178, 3) := by decide +kernel
theorem dX10_send_5 : decode cX10_send 5 = .ok (.ifCond .eq 23, 3) := by decide +kernel
theorem dX10_send_8 : decode cX10_send 8 = .ok (.iload_n 2, 1) := by decide +kernel
theorem dX10_send_9 : decode cX10_send 9 = .ok (.i2l, 1) := by decide +kernel
theorem dX10_send_10 : decode cX10_send 10 = .ok (.lconst 0, 1) := by decide +kernel
theorem dX10_send_11 : decode cX10_send 11 = .ok (.ldc2_w 181, 3) := by decide +kernel
theorem dX10_send_14 : decode cX10_send 14 = .ok (.invokestatic 108, 3) := by decide +kernel
theorem dX10_send_17 : decode cX10_send 17 = .ok (.ifCond .eq 11, 3) := by decide +kernel
theorem dX10_send_20 : decode cX10_send 20 = .ok (.aload_n 0, 1) := by decide +kernel
theorem dX10_send_21 : decode cX10_send 21 = .ok (.iload_n 3, 1) := by decide +kernel
theorem dX10_send_22 : decode cX10_send 22 = .ok (.invokevirtual 175, 3) := by decide +kernel
theorem dX10_send_25 : decode cX10_send 25 = .ok (.ifCond .ne 5, 3) := by decide +kernel
theorem dX10_send_28 : decode cX10_send 28 = .ok (.iconst (-1), 1) := by decide +kernel
theorem dX10_send_29 : decode cX10_send 29 = .ok (.ireturn, 1) := by decide +kernel
theorem dX10_send_30 : decode cX10_send 30 = .ok (.aload_n 0, 1) := by decide +kernel
theorem dX10_send_31 : decode cX10_send 31 = .ok (.iconst 0, 1) := by decide +kernel
theorem dX10_send_32 : decode cX10_send 32 = .ok (.iload_n 1, 1) := by decide +kernel
theorem dX10_send_33 : decode cX10_send 33 = .ok (.iload_n 3, 1) := by decide +kernel
theorem dX10_send_34 : decode cX10_send 34 = .ok (.invokevirtual 212, 3) := by decide +kernel
theorem dX10_send_37 : decode cX10_send 37 = .ok (.ifCond .ne 6, 3) := by decide +kernel
theorem dX10_send_40 : decode cX10_send 40 = .ok (.bipush (-2), 2) := by decide +kernel
theorem dX10_send_42 : decode cX10_send 42 = .ok (.ireturn, 1) := by decide +kernel
theorem dX10_send_43 : decode cX10_send 43 = .ok (.aload_n 0, 1) := by decide +kernel
theorem dX10_send_44 : decode cX10_send 44 = .ok (.invokevirtual 216, 3) := by decide +kernel
theorem dX10_send_47 : decode cX10_send 47 = .ok (.aload_n 0, 1) := by decide +kernel
theorem dX10_send_48 : decode cX10_send 48 = .ok (.iconst 0, 1) := by decide +kernel
theorem dX10_send_49 : decode cX10_send 49 = .ok (.iload_n 1, 1) := by decide +kernel
theorem dX10_send_50 : decode cX10_send 50 = .ok (.iload_n 2, 1) := by decide +kernel
theorem dX10_send_51 : decode cX10_send 51 = .ok (.iload_n 3, 1) := by decide +kernel
theorem dX10_send_52 : decode cX10_send 52 = .ok (.invokevirtual 219, 3) := by decide +kernel
theorem dX10_send_55 : decode cX10_send 55 = .ok (.aload_n 0, 1) := by decide +kernel
theorem dX10_send_56 : decode cX10_send 56 = .ok (.getfield 43, 3) := by decide +kernel
theorem dX10_send_59 : decode cX10_send 59 = .ok (.bipush 40, 2) := by decide +kernel
theorem dX10_send_61 : decode cX10_send 61 = .ok (.iload_n 1, 1) := by decide +kernel
theorem dX10_send_62 : decode cX10_send 62 = .ok (.iadd, 1) := by decide +kernel
theorem dX10_send_63 : decode cX10_send 63 = .ok (.iaload, 1) := by decide +kernel
theorem dX10_send_64 : decode cX10_send 64 = .ok (.ireturn, 1) := by decide +kernel
theorem dX10_pass_0 : decode cX10_pass 0 = .ok (.iload_n 1, 1) := by decide +kernel
theorem dX10_pass_1 : decode cX10_pass 1 = .ok (.i2l, 1) := by decide +kernel
theorem dX10_pass_2 : decode cX10_pass 2 = .ok (.lconst 1, 1) := by decide +kernel
theorem dX10_pass_3 : decode cX10_pass 3 = .ok (.ldc2_w 223, 3) := by decide +kernel
theorem dX10_pass_6 : decode cX10_pass 6 = .ok (.invokestatic 108, 3) := by decide +kernel
theorem dX10_pass_9 : decode cX10_pass 9 = .ok (.ifCond .ne 5, 3) := by decide +kernel
theorem dX10_pass_12 : decode cX10_pass 12 = .ok (.iconst (-1), 1) := by decide +kernel
theorem dX10_pass_13 : decode cX10_pass 13 = .ok (.ireturn, 1) := by decide +kernel
theorem dX10_pass_14 : decode cX10_pass 14 = .ok (.aload_n 0, 1) := by decide +kernel
theorem dX10_pass_15 : decode cX10_pass 15 = .ok (.invokevirtual 216, 3) := by decide +kernel
theorem dX10_pass_18 : decode cX10_pass 18 = .ok (.iconst 0, 1) := by decide +kernel
theorem dX10_pass_19 : decode cX10_pass 19 = .ok (.istore_n 2, 1) := by decide +kernel
theorem dX10_pass_20 : decode cX10_pass 20 = .ok (.iload_n 2, 1) := by decide +kernel
theorem dX10_pass_21 : decode cX10_pass 21 = .ok (.iload_n 1, 1) := by decide +kernel
theorem dX10_pass_22 : decode cX10_pass 22 = .ok (.if_icmp .ge 15, 3) := by decide +kernel
theorem dX10_pass_25 : decode cX10_pass 25 = .ok (.aload_n 0, 1) := by decide +kernel
theorem dX10_pass_26 : decode cX10_pass 26 = .ok (.iconst 0, 1) := by decide +kernel
theorem dX10_pass_27 : decode cX10_pass 27 = .ok (.iconst (-1), 1) := by decide +kernel
theorem dX10_pass_28 : decode cX10_pass 28 = .ok (.invokevirtual 225, 3) := by decide +kernel
theorem dX10_pass_31 : decode cX10_pass 31 = .ok (.iinc 2 1, 3) := by decide +kernel
theorem dX10_pass_34 : decode cX10_pass 34 = .ok (.goto (-14), 3) := by decide +kernel
theorem dX10_pass_37 : decode cX10_pass 37 = .ok (.aload_n 0, 1) := by decide +kernel
theorem dX10_pass_38 : decode cX10_pass 38 = .ok (.getfield 43, 3) := by decide +kernel
theorem dX10_pass_41 : decode cX10_pass 41 = .ok (.bipush 63, 2) := by decide +kernel
theorem dX10_pass_43 : decode cX10_pass 43 = .ok (.iaload, 1) := by decide +kernel
theorem dX10_pass_44 : decode cX10_pass 44 = .ok (.ireturn, 1) := by decide +kernel
theorem dX10_goesHome_0 : decode cX10_goesHome 0 = .ok (.aload_n 0, 1) := by decide +kernel
theorem dX10_goesHome_1 : decode cX10_goesHome 1 = .ok (.getfield 43, 3) := by decide +kernel
theorem dX10_goesHome_4 : decode cX10_goesHome 4 = .ok (.iload_n 1, 1) := by decide +kernel
theorem dX10_goesHome_5 : decode cX10_goesHome 5 = .ok (.iload_n 2, 1) := by decide +kernel
theorem dX10_goesHome_6 : decode cX10_goesHome 6 = .ok (.iadd, 1) := by decide +kernel
theorem dX10_goesHome_7 : decode cX10_goesHome 7 = .ok (.iconst 3, 1) := by decide +kernel
theorem dX10_goesHome_8 : decode cX10_goesHome 8 = .ok (.iastore, 1) := by decide +kernel
theorem dX10_goesHome_9 : decode cX10_goesHome 9 = .ok (.aload_n 0, 1) := by decide +kernel
theorem dX10_goesHome_10 : decode cX10_goesHome 10 = .ok (.getfield 43, 3) := by decide +kernel
theorem dX10_goesHome_13 : decode cX10_goesHome 13 = .ok (.iload_n 1, 1) := by decide +kernel
theorem dX10_goesHome_14 : decode cX10_goesHome 14 = .ok (.bipush 25, 2) := by decide +kernel
theorem dX10_goesHome_16 : decode cX10_goesHome 16 = .ok (.iadd, 1) := by decide +kernel
theorem dX10_goesHome_17 : decode cX10_goesHome 17 = .ok (.iload_n 2, 1) := by decide +kernel
theorem dX10_goesHome_18 : decode cX10_goesHome 18 = .ok (.iadd, 1) := by decide +kernel
theorem dX10_goesHome_19 : decode cX10_goesHome 19 = .ok (.bipush (-4), 2) := by decide +kernel
theorem dX10_goesHome_21 : decode cX10_goesHome 21 = .ok (.iastore, 1) := by decide +kernel
theorem dX10_goesHome_22 : decode cX10_goesHome 22 = .ok (.aload_n 0, 1) := by decide +kernel
theorem dX10_goesHome_23 : decode cX10_goesHome 23 = .ok (.getfield 43, 3) := by decide +kernel
theorem dX10_goesHome_26 : decode cX10_goesHome 26 = .ok (.iload_n 1, 1) := by decide +kernel
theorem dX10_goesHome_27 : decode cX10_goesHome 27 = .ok (.bipush 20, 2) := by decide +kernel
theorem dX10_goesHome_29 : decode cX10_goesHome 29 = .ok (.iadd, 1) := by decide +kernel
theorem dX10_goesHome_30 : decode cX10_goesHome 30 = .ok (.iload_n 2, 1) := by decide +kernel
theorem dX10_goesHome_31 : decode cX10_goesHome 31 = .ok (.iadd, 1) := by decide +kernel
theorem dX10_goesHome_32 : decode cX10_goesHome 32 = .ok (.iconst 0, 1) := by decide +kernel
theorem dX10_goesHome_33 : decode cX10_goesHome 33 = .ok (.iastore, 1) := by decide +kernel
theorem dX10_goesHome_34 : decode cX10_goesHome 34 = .ok (.return_, 1) := by decide +kernel
theorem dX10_home_0 : decode cX10_home 0 = .ok (.aload_n 0, 1) := by decide +kernel
theorem dX10_home_1 : decode cX10_home 1 = .ok (.iload_n 1, 1) := by decide +kernel
theorem dX10_home_2 : decode cX10_home 2 = .ok (.invokevirtual 178, 3) := by decide +kernel
theorem dX10_home_5 : decode cX10_home 5 = .ok (.ifCond .ne 5, 3) := by decide +kernel
theorem dX10_home_8 : decode cX10_home 8 = .ok (.iconst (-1), 1) := by decide +kernel
theorem dX10_home_9 : decode cX10_home 9 = .ok (.ireturn, 1) := by decide +kernel
theorem dX10_home_10 : decode cX10_home 10 = .ok (.aload_n 0, 1) := by decide +kernel
theorem dX10_home_11 : decode cX10_home 11 = .ok (.getfield 43, 3) := by decide +kernel
theorem dX10_home_14 : decode cX10_home 14 = .ok (.iload_n 1, 1) := by decide +kernel
theorem dX10_home_15 : decode cX10_home 15 = .ok (.iaload, 1) := by decide +kernel
theorem dX10_home_16 : decode cX10_home 16 = .ok (.iconst 2, 1) := by decide +kernel
theorem dX10_home_17 : decode cX10_home 17 = .ok (.if_icmp .eq 6, 3) := by decide +kernel
theorem dX10_home_20 : decode cX10_home 20 = .ok (.bipush (-2), 2) := by decide +kernel
theorem dX10_home_22 : decode cX10_home 22 = .ok (.ireturn, 1) := by decide +kernel
theorem dX10_home_23 : decode cX10_home 23 = .ok (.aload_n 0, 1) := by decide +kernel
theorem dX10_home_24 : decode cX10_home 24 = .ok (.invokevirtual 216, 3) := by decide +kernel
theorem dX10_home_27 : decode cX10_home 27 = .ok (.aload_n 0, 1) := by decide +kernel
theorem dX10_home_28 : decode cX10_home 28 = .ok (.iconst 0, 1) := by decide +kernel
theorem dX10_home_29 : decode cX10_home 29 = .ok (.iload_n 1, 1) := by decide +kernel
theorem dX10_home_30 : decode cX10_home 30 = .ok (.invokevirtual 228, 3) := by decide +kernel
theorem dX10_home_33 : decode cX10_home 33 = .ok (.istore_n 2, 1) := by decide +kernel
theorem dX10_home_34 : decode cX10_home 34 = .ok (.aload_n 0, 1) := by decide +kernel
theorem dX10_home_35 : decode cX10_home 35 = .ok (.iconst 0, 1) := by decide +kernel
theorem dX10_home_36 : decode cX10_home 36 = .ok (.iload_n 1, 1) := by decide +kernel
theorem dX10_home_37 : decode cX10_home 37 = .ok (.invokevirtual 231, 3) := by decide +kernel
theorem dX10_home_40 : decode cX10_home 40 = .ok (.iload_n 2, 1) := by decide +kernel
theorem dX10_home_41 : decode cX10_home 41 = .ok (.ireturn, 1) := by decide +kernel
theorem dX10_carrots_0 : decode cX10_carrots 0 = .ok (.aload_n 0, 1) := by decide +kernel
theorem dX10_carrots_1 : decode cX10_carrots 1 = .ok (.iload_n 1, 1) := by decide +kernel
theorem dX10_carrots_2 : decode cX10_carrots 2 = .ok (.invokevirtual 166, 3) := by decide +kernel
theorem dX10_carrots_5 : decode cX10_carrots 5 = .ok (.ifCond .eq 15, 3) := by decide +kernel
theorem dX10_carrots_8 : decode cX10_carrots 8 = .ok (.iload_n 2, 1) := by decide +kernel
theorem dX10_carrots_9 : decode cX10_carrots 9 = .ok (.i2l, 1) := by decide +kernel
theorem dX10_carrots_10 : decode cX10_carrots 10 = .ok (.lconst 0, 1) := by decide +kernel
theorem dX10_carrots_11 : decode cX10_carrots 11 = .ok (.ldc2_w 234, 3) := by decide +kernel
theorem dX10_carrots_14 : decode cX10_carrots 14 = .ok (.invokestatic 108, 3) := by decide +kernel
theorem dX10_carrots_17 : decode cX10_carrots 17 = .ok (.ifCond .ne 5, 3) := by decide +kernel
theorem dX10_carrots_20 : decode cX10_carrots 20 = .ok (.iconst (-1), 1) := by decide +kernel
theorem dX10_carrots_21 : decode cX10_carrots 21 = .ok (.ireturn, 1) := by decide +kernel
theorem dX10_carrots_22 : decode cX10_carrots 22 = .ok (.aload_n 0, 1) := by decide +kernel
theorem dX10_carrots_23 : decode cX10_carrots 23 = .ok (.invokevirtual 216, 3) := by decide +kernel
theorem dX10_carrots_26 : decode cX10_carrots 26 = .ok (.aload_n 0, 1) := by decide +kernel
theorem dX10_carrots_27 : decode cX10_carrots 27 = .ok (.getfield 43, 3) := by decide +kernel
theorem dX10_carrots_30 : decode cX10_carrots 30 = .ok (.bipush 55, 2) := by decide +kernel
theorem dX10_carrots_32 : decode cX10_carrots 32 = .ok (.iload_n 1, 1) := by decide +kernel
theorem dX10_carrots_33 : decode cX10_carrots 33 = .ok (.iadd, 1) := by decide +kernel
theorem dX10_carrots_34 : decode cX10_carrots 34 = .ok (.iaload, 1) := by decide +kernel
theorem dX10_carrots_35 : decode cX10_carrots 35 = .ok (.istore_n 3, 1) := by decide +kernel
theorem dX10_carrots_36 : decode cX10_carrots 36 = .ok (.aload_n 0, 1) := by decide +kernel
theorem dX10_carrots_37 : decode cX10_carrots 37 = .ok (.getfield 43, 3) := by decide +kernel
theorem dX10_carrots_40 : decode cX10_carrots 40 = .ok (.bipush 55, 2) := by decide +kernel
theorem dX10_carrots_42 : decode cX10_carrots 42 = .ok (.iload_n 1, 1) := by decide +kernel
theorem dX10_carrots_43 : decode cX10_carrots 43 = .ok (.iadd, 1) := by decide +kernel
theorem dX10_carrots_44 : decode cX10_carrots 44 = .ok (.iload_n 2, 1) := by decide +kernel
theorem dX10_carrots_45 : decode cX10_carrots 45 = .ok (.iastore, 1) := by decide +kernel
theorem dX10_carrots_46 : decode cX10_carrots 46 = .ok (.iload_n 3, 1) := by decide +kernel
theorem dX10_carrots_47 : decode cX10_carrots 47 = .ok (.ireturn, 1) := by decide +kernel
theorem dX10_undo_0 : decode cX10_undo 0 = .ok (.aload_n 0, 1) := by decide +kernel
theorem dX10_undo_1 : decode cX10_undo 1 = .ok (.getfield 160, 3) := by decide +kernel
theorem dX10_undo_4 : decode cX10_undo 4 = .ok (.ifCond .ne 6, 3) := by decide +kernel
theorem dX10_undo_7 : decode cX10_undo 7 = .ok (.bipush (-2), 2) := by decide +kernel
theorem dX10_undo_9 : decode cX10_undo 9 = .ok (.ireturn, 1) := by decide +kernel
theorem dX10_undo_10 : decode cX10_undo 10 = .ok (.aload_n 0, 1) := by decide +kernel
theorem dX10_undo_11 : decode cX10_undo 11 = .ok (.aload_n 0, 1) := by decide +kernel
theorem dX10_undo_12 : decode cX10_undo 12 = .ok (.getfield 160, 3) := by decide +kernel
theorem dX10_undo_15 : decode cX10_undo 15 = .ok (.bipush 64, 2) := by decide +kernel
theorem dX10_undo_17 : decode cX10_undo 17 = .ok (.imul, 1) := by decide +kernel
theorem dX10_undo_18 : decode cX10_undo 18 = .ok (.iconst 0, 1) := by decide +kernel
theorem dX10_undo_19 : decode cX10_undo 19 = .ok (.invokevirtual 105, 3) := by decide +kernel
theorem dX10_undo_22 : decode cX10_undo 22 = .ok (.aload_n 0, 1) := by decide +kernel
theorem dX10_undo_23 : decode cX10_undo 23 = .ok (.dup, 1) := by decide +kernel
theorem dX10_undo_24 : decode cX10_undo 24 = .ok (.getfield 160, 3) := by decide +kernel
theorem dX10_undo_27 : decode cX10_undo 27 = .ok (.iconst 1, 1) := by decide +kernel
theorem dX10_undo_28 : decode cX10_undo 28 = .ok (.isub, 1) := by decide +kernel
theorem dX10_undo_29 : decode cX10_undo 29 = .ok (.putfield 160, 3) := by decide +kernel
theorem dX10_undo_32 : decode cX10_undo 32 = .ok (.aload_n 0, 1) := by decide +kernel
theorem dX10_undo_33 : decode cX10_undo 33 = .ok (.getfield 160, 3) := by decide +kernel
theorem dX10_undo_36 : decode cX10_undo 36 = .ok (.ireturn, 1) := by decide +kernel
theorem dX10_standsBehind_0 : decode cX10_standsBehind 0 = .ok (.iconst 0, 1) := by decide +kernel
theorem dX10_standsBehind_1 : decode cX10_standsBehind 1 = .ok (.istore_n 2, 1) := by decide +kernel
theorem dX10_standsBehind_2 : decode cX10_standsBehind 2 = .ok (.iload_n 2, 1) := by decide +kernel
theorem dX10_standsBehind_3 : decode cX10_standsBehind 3 = .ok (.bipush 99, 2) := by decide +kernel
theorem dX10_standsBehind_5 : decode cX10_standsBehind 5 = .ok (.if_icmp .gt 33, 3) := by decide +kernel
theorem dX10_standsBehind_8 : decode cX10_standsBehind 8 = .ok (.aload_n 0, 1) := by decide +kernel
theorem dX10_standsBehind_9 : decode cX10_standsBehind 9 = .ok (.getfield 43, 3) := by decide +kernel
theorem dX10_standsBehind_12 : decode cX10_standsBehind 12 = .ok (.sipush 704, 3) := by decide +kernel
theorem dX10_standsBehind_15 : decode cX10_standsBehind 15 = .ok (.iload_n 1, 1) := by decide +kernel
theorem dX10_standsBehind_16 : decode cX10_standsBehind 16 = .ok (.iadd, 1) := by decide +kernel
theorem dX10_standsBehind_17 : decode cX10_standsBehind 17 = .ok (.iaload, 1) := by decide +kernel
theorem dX10_standsBehind_18 : decode cX10_standsBehind 18 = .ok (.iconst 2, 1) := by decide +kernel
theorem dX10_standsBehind_19 : decode cX10_standsBehind 19 = .ok (.if_icmp .ne 5, 3) := by decide +kernel
theorem dX10_standsBehind_22 : decode cX10_standsBehind 22 = .ok (.iload_n 2, 1) := by decide +kernel
theorem dX10_standsBehind_23 : decode cX10_standsBehind 23 = .ok (.ireturn, 1) := by decide +kernel
theorem dX10_standsBehind_24 : decode cX10_standsBehind 24 = .ok (.aload_n 0, 1) := by decide +kernel
theorem dX10_standsBehind_25 : decode cX10_standsBehind 25 = .ok (.sipush 704, 3) := by decide +kernel
theorem dX10_standsBehind_28 : decode cX10_standsBehind 28 = .ok (.iconst (-1), 1) := by decide +kernel
theorem dX10_standsBehind_29 : decode cX10_standsBehind 29 = .ok (.invokevirtual 225, 3) := by decide +kernel
theorem dX10_standsBehind_32 : decode cX10_standsBehind 32 = .ok (.iinc 2 1, 3) := by decide +kernel
theorem dX10_standsBehind_35 : decode cX10_standsBehind 35 = .ok (.goto (-33), 3) := by decide +kernel
theorem dX10_standsBehind_38 : decode cX10_standsBehind 38 = .ok (.bipush (-4), 2) := by decide +kernel
theorem dX10_standsBehind_40 : decode cX10_standsBehind 40 = .ok (.ireturn, 1) := by decide +kernel
theorem dX10_arrives_0 : decode cX10_arrives 0 = .ok (.aload_n 0, 1) := by decide +kernel
theorem dX10_arrives_1 : decode cX10_arrives 1 = .ok (.iload_n 1, 1) := by decide +kernel
theorem dX10_arrives_2 : decode cX10_arrives 2 = .ok (.invokevirtual 178, 3) := by decide +kernel
theorem dX10_arrives_5 : decode cX10_arrives 5 = .ok (.ifCond .ne 5, 3) := by decide +kernel
theorem dX10_arrives_8 : decode cX10_arrives 8 = .ok (.iconst (-1), 1) := by decide +kernel
theorem dX10_arrives_9 : decode cX10_arrives 9 = .ok (.ireturn, 1) := by decide +kernel
theorem dX10_arrives_10 : decode cX10_arrives 10 = .ok (.aload_n 0, 1) := by decide +kernel
theorem dX10_arrives_11 : decode cX10_arrives 11 = .ok (.iconst 0, 1) := by decide +kernel
theorem dX10_arrives_12 : decode cX10_arrives 12 = .ok (.sipush 704, 3) := by decide +kernel
theorem dX10_arrives_15 : decode cX10_arrives 15 = .ok (.invokevirtual 105, 3) := by decide +kernel
theorem dX10_arrives_18 : decode cX10_arrives 18 = .ok (.aload_n 0, 1) := by decide +kernel
theorem dX10_arrives_19 : decode cX10_arrives 19 = .ok (.iload_n 1, 1) := by decide +kernel
theorem dX10_arrives_20 : decode cX10_arrives 20 = .ok (.invokevirtual 190, 3) := by decide +kernel
theorem dX10_arrives_23 : decode cX10_arrives 23 = .ok (.ifCond .eq 11, 3) := by decide +kernel
theorem dX10_arrives_26 : decode cX10_arrives 26 = .ok (.aload_n 0, 1) := by decide +kernel
theorem dX10_arrives_27 : decode cX10_arrives 27 = .ok (.iload_n 1, 1) := by decide +kernel
theorem dX10_arrives_28 : decode cX10_arrives 28 = .ok (.invokevirtual 236, 3) := by decide +kernel
theorem dX10_arrives_31 : decode cX10_arrives 31 = .ok (.goto 5, 3) := by decide +kernel
theorem dX10_arrives_34 : decode cX10_arrives 34 = .ok (.bipush (-2), 2) := by decide +kernel
theorem dX10_arrives_36 : decode cX10_arrives 36 = .ok (.ireturn, 1) := by decide +kernel
theorem dX10_readThen_0 : decode cX10_readThen 0 = .ok (.aload_n 0, 1) := by decide +kernel
theorem dX10_readThen_1 : decode cX10_readThen 1 = .ok (.iload_n 1, 1) := by decide +kernel
theorem dX10_readThen_2 : decode cX10_readThen 2 = .ok (.invokevirtual 236, 3) := by decide +kernel
theorem dX10_readThen_5 : decode cX10_readThen 5 = .ok (.ifCond .ge 8, 3) := by decide +kernel
theorem dX10_readThen_8 : decode cX10_readThen 8 = .ok (.bipush (-4), 2) := by decide +kernel
theorem dX10_readThen_10 : decode cX10_readThen 10 = .ok (.goto 11, 3) := by decide +kernel
theorem dX10_readThen_13 : decode cX10_readThen 13 = .ok (.aload_n 0, 1) := by decide +kernel
theorem dX10_readThen_14 : decode cX10_readThen 14 = .ok (.sipush 704, 3) := by decide +kernel
theorem dX10_readThen_17 : decode cX10_readThen 17 = .ok (.iload_n 1, 1) := by decide +kernel
theorem dX10_readThen_18 : decode cX10_readThen 18 = .ok (.invokevirtual 228, 3) := by decide +kernel
theorem dX10_readThen_21 : decode cX10_readThen 21 = .ok (.ireturn, 1) := by decide +kernel
theorem dX10_reading_0 : decode cX10_reading 0 = .ok (.aload_n 0, 1) := by decide +kernel
theorem dX10_reading_1 : decode cX10_reading 1 = .ok (.iload_n 1, 1) := by decide +kernel
theorem dX10_reading_2 : decode cX10_reading 2 = .ok (.invokevirtual 178, 3) := by decide +kernel
theorem dX10_reading_5 : decode cX10_reading 5 = .ok (.ifCond .ne 5, 3) := by decide +kernel
theorem dX10_reading_8 : decode cX10_reading 8 = .ok (.iconst (-1), 1) := by decide +kernel
theorem dX10_reading_9 : decode cX10_reading 9 = .ok (.ireturn, 1) := by decide +kernel
theorem dX10_reading_10 : decode cX10_reading 10 = .ok (.aload_n 0, 1) := by decide +kernel
theorem dX10_reading_11 : decode cX10_reading 11 = .ok (.iconst 0, 1) := by decide +kernel
theorem dX10_reading_12 : decode cX10_reading 12 = .ok (.sipush 704, 3) := by decide +kernel
theorem dX10_reading_15 : decode cX10_reading 15 = .ok (.invokevirtual 105, 3) := by decide +kernel
theorem dX10_reading_18 : decode cX10_reading 18 = .ok (.aload_n 0, 1) := by decide +kernel
theorem dX10_reading_19 : decode cX10_reading 19 = .ok (.iload_n 1, 1) := by decide +kernel
theorem dX10_reading_20 : decode cX10_reading 20 = .ok (.invokevirtual 190, 3) := by decide +kernel
theorem dX10_reading_23 : decode cX10_reading 23 = .ok (.ifCond .eq 11, 3) := by decide +kernel
theorem dX10_reading_26 : decode cX10_reading 26 = .ok (.aload_n 0, 1) := by decide +kernel
theorem dX10_reading_27 : decode cX10_reading 27 = .ok (.iload_n 1, 1) := by decide +kernel
theorem dX10_reading_28 : decode cX10_reading 28 = .ok (.invokevirtual 240, 3) := by decide +kernel
theorem dX10_reading_31 : decode cX10_reading 31 = .ok (.goto 5, 3) := by decide +kernel
theorem dX10_reading_34 : decode cX10_reading 34 = .ok (.bipush (-2), 2) := by decide +kernel
theorem dX10_reading_36 : decode cX10_reading 36 = .ok (.ireturn, 1) := by decide +kernel
theorem dX10_readSent_0 : decode cX10_readSent 0 = .ok (.aload_n 0, 1) := by decide +kernel
theorem dX10_readSent_1 : decode cX10_readSent 1 = .ok (.iconst 0, 1) := by decide +kernel
theorem dX10_readSent_2 : decode cX10_readSent 2 = .ok (.iload_n 1, 1) := by decide +kernel
theorem dX10_readSent_3 : decode cX10_readSent 3 = .ok (.iload_n 3, 1) := by decide +kernel
theorem dX10_readSent_4 : decode cX10_readSent 4 = .ok (.invokevirtual 212, 3) := by decide +kernel
theorem dX10_readSent_7 : decode cX10_readSent 7 = .ok (.ifCond .ne 6, 3) := by decide +kernel
theorem dX10_readSent_10 : decode cX10_readSent 10 = .ok (.bipush (-4), 2) := by decide +kernel
theorem dX10_readSent_12 : decode cX10_readSent 12 = .ok (.ireturn, 1) := by decide +kernel
theorem dX10_readSent_13 : decode cX10_readSent 13 = .ok (.aload_n 0, 1) := by decide +kernel
theorem dX10_readSent_14 : decode cX10_readSent 14 = .ok (.iconst 0, 1) := by decide +kernel
theorem dX10_readSent_15 : decode cX10_readSent 15 = .ok (.sipush 704, 3) := by decide +kernel
theorem dX10_readSent_18 : decode cX10_readSent 18 = .ok (.invokevirtual 105, 3) := by decide +kernel
theorem dX10_readSent_21 : decode cX10_readSent 21 = .ok (.aload_n 0, 1) := by decide +kernel
theorem dX10_readSent_22 : decode cX10_readSent 22 = .ok (.sipush 704, 3) := by decide +kernel
theorem dX10_readSent_25 : decode cX10_readSent 25 = .ok (.iload_n 1, 1) := by decide +kernel
theorem dX10_readSent_26 : decode cX10_readSent 26 = .ok (.iload_n 2, 1) := by decide +kernel
theorem dX10_readSent_27 : decode cX10_readSent 27 = .ok (.iload_n 3, 1) := by decide +kernel
theorem dX10_readSent_28 : decode cX10_readSent 28 = .ok (.invokevirtual 219, 3) := by decide +kernel
theorem dX10_readSent_31 : decode cX10_readSent 31 = .ok (.aload_n 0, 1) := by decide +kernel
theorem dX10_readSent_32 : decode cX10_readSent 32 = .ok (.iload_n 1, 1) := by decide +kernel
theorem dX10_readSent_33 : decode cX10_readSent 33 = .ok (.invokevirtual 240, 3) := by decide +kernel
theorem dX10_readSent_36 : decode cX10_readSent 36 = .ok (.ireturn, 1) := by decide +kernel
theorem dX10_right_0 : decode cX10_right 0 = .ok (.aload_n 0, 1) := by decide +kernel
theorem dX10_right_1 : decode cX10_right 1 = .ok (.iload_n 1, 1) := by decide +kernel
theorem dX10_right_2 : decode cX10_right 2 = .ok (.invokevirtual 175, 3) := by decide +kernel
theorem dX10_right_5 : decode cX10_right 5 = .ok (.ifCond .eq 15, 3) := by decide +kernel
theorem dX10_right_8 : decode cX10_right 8 = .ok (.iload_n 2, 1) := by decide +kernel
theorem dX10_right_9 : decode cX10_right 9 = .ok (.i2l, 1) := by decide +kernel
theorem dX10_right_10 : decode cX10_right 10 = .ok (.lconst 0, 1) := by decide +kernel
theorem dX10_right_11 : decode cX10_right 11 = .ok (.ldc2_w 181, 3) := by decide +kernel
theorem dX10_right_14 : decode cX10_right 14 = .ok (.invokestatic 108, 3) := by decide +kernel
theorem dX10_right_17 : decode cX10_right 17 = .ok (.ifCond .ne 5, 3) := by decide +kernel
theorem dX10_right_20 : decode cX10_right 20 = .ok (.iconst (-1), 1) := by decide +kernel
theorem dX10_right_21 : decode cX10_right 21 = .ok (.ireturn, 1) := by decide +kernel
theorem dX10_right_22 : decode cX10_right 22 = .ok (.iconst 0, 1) := by decide +kernel
theorem dX10_right_23 : decode cX10_right 23 = .ok (.istore_n 3, 1) := by decide +kernel
theorem dX10_right_24 : decode cX10_right 24 = .ok (.iconst 0, 1) := by decide +kernel
theorem dX10_right_25 : decode cX10_right 25 = .ok (.istore 4, 2) := by decide +kernel
theorem dX10_right_27 : decode cX10_right 27 = .ok (.iload 4, 2) := by decide +kernel
theorem dX10_right_29 : decode cX10_right 29 = .ok (.aload_n 0, 1) := by decide +kernel
theorem dX10_right_30 : decode cX10_right 30 = .ok (.getfield 98, 3) := by decide +kernel
theorem dX10_right_33 : decode cX10_right 33 = .ok (.if_icmp .ge 32, 3) := by decide +kernel
theorem dX10_right_36 : decode cX10_right 36 = .ok (.iload_n 3, 1) := by decide +kernel
theorem dX10_right_37 : decode cX10_right 37 = .ok (.aload_n 0, 1) := by decide +kernel
theorem dX10_right_38 : decode cX10_right 38 = .ok (.iload 4, 2) := by decide +kernel
theorem dX10_right_40 : decode cX10_right 40 = .ok (.iload_n 2, 1) := by decide +kernel
theorem dX10_right_41 : decode cX10_right 41 = .ok (.iload_n 1, 1) := by decide +kernel
theorem dX10_right_42 : decode cX10_right 42 = .ok (.invokevirtual 243, 3) := by decide +kernel
theorem dX10_right_45 : decode cX10_right 45 = .ok (.iload_n 2, 1) := by decide +kernel
theorem dX10_right_46 : decode cX10_right 46 = .ok (.if_icmp .ne 10, 3) := by decide +kernel
theorem dX10_right_49 : decode cX10_right 49 = .ok (.iconst 1, 1) := by decide +kernel
theorem dX10_right_50 : decode cX10_right 50 = .ok (.iload 4, 2) := by decide +kernel
theorem dX10_right_52 : decode cX10_right 52 = .ok (.ishl, 1) := by decide +kernel
theorem dX10_right_53 : decode cX10_right 53 = .ok (.goto 4, 3) := by decide +kernel
theorem dX10_right_56 : decode cX10_right 56 = .ok (.iconst 0, 1) := by decide +kernel
theorem dX10_right_57 : decode cX10_right 57 = .ok (.ior, 1) := by decide +kernel
theorem dX10_right_58 : decode cX10_right 58 = .ok (.istore_n 3, 1) := by decide +kernel
theorem dX10_right_59 : decode cX10_right 59 = .ok (.iinc 4 1, 3) := by decide +kernel
theorem dX10_right_62 : decode cX10_right 62 = .ok (.goto (-35), 3) := by decide +kernel
theorem dX10_right_65 : decode cX10_right 65 = .ok (.iload_n 3, 1) := by decide +kernel
theorem dX10_right_66 : decode cX10_right 66 = .ok (.ireturn, 1) := by decide +kernel
theorem dX10_soonest_0 : decode cX10_soonest 0 = .ok (.aload_n 0, 1) := by decide +kernel
theorem dX10_soonest_1 : decode cX10_soonest 1 = .ok (.iload_n 1, 1) := by decide +kernel
theorem dX10_soonest_2 : decode cX10_soonest 2 = .ok (.invokevirtual 175, 3) := by decide +kernel
theorem dX10_soonest_5 : decode cX10_soonest 5 = .ok (.ifCond .eq 15, 3) := by decide +kernel
theorem dX10_soonest_8 : decode cX10_soonest 8 = .ok (.iload_n 2, 1) := by decide +kernel
theorem dX10_soonest_9 : decode cX10_soonest 9 = .ok (.i2l, 1) := by decide +kernel
theorem dX10_soonest_10 : decode cX10_soonest 10 = .ok (.lconst 0, 1) := by decide +kernel
theorem dX10_soonest_11 : decode cX10_soonest 11 = .ok (.ldc2_w 181, 3) := by decide +kernel
theorem dX10_soonest_14 : decode cX10_soonest 14 = .ok (.invokestatic 108, 3) := by decide +kernel
theorem dX10_soonest_17 : decode cX10_soonest 17 = .ok (.ifCond .ne 5, 3) := by decide +kernel
theorem dX10_soonest_20 : decode cX10_soonest 20 = .ok (.iconst (-1), 1) := by decide +kernel
theorem dX10_soonest_21 : decode cX10_soonest 21 = .ok (.ireturn, 1) := by decide +kernel
theorem dX10_soonest_22 : decode cX10_soonest 22 = .ok (.bipush (-4), 2) := by decide +kernel
theorem dX10_soonest_24 : decode cX10_soonest 24 = .ok (.istore_n 3, 1) := by decide +kernel
theorem dX10_soonest_25 : decode cX10_soonest 25 = .ok (.sipush 9999, 3) := by decide +kernel
theorem dX10_soonest_28 : decode cX10_soonest 28 = .ok (.istore 4, 2) := by decide +kernel
theorem dX10_soonest_30 : decode cX10_soonest 30 = .ok (.iconst 0, 1) := by decide +kernel
theorem dX10_soonest_31 : decode cX10_soonest 31 = .ok (.istore 5, 2) := by decide +kernel
theorem dX10_soonest_33 : decode cX10_soonest 33 = .ok (.iload 5, 2) := by decide +kernel
theorem dX10_soonest_35 : decode cX10_soonest 35 = .ok (.aload_n 0, 1) := by decide +kernel
theorem dX10_soonest_36 : decode cX10_soonest 36 = .ok (.getfield 98, 3) := by decide +kernel
theorem dX10_soonest_39 : decode cX10_soonest 39 = .ok (.if_icmp .ge 71, 3) := by decide +kernel
theorem dX10_soonest_42 : decode cX10_soonest 42 = .ok (.aload_n 0, 1) := by decide +kernel
theorem dX10_soonest_43 : decode cX10_soonest 43 = .ok (.iload 5, 2) := by decide +kernel
theorem dX10_soonest_45 : decode cX10_soonest 45 = .ok (.iload_n 2, 1) := by decide +kernel
theorem dX10_soonest_46 : decode cX10_soonest 46 = .ok (.iload_n 1, 1) := by decide +kernel
theorem dX10_soonest_47 : decode cX10_soonest 47 = .ok (.invokevirtual 243, 3) := by decide +kernel
theorem dX10_soonest_50 : decode cX10_soonest 50 = .ok (.iload_n 2, 1) := by decide +kernel
theorem dX10_soonest_51 : decode cX10_soonest 51 = .ok (.if_icmp .ne 53, 3) := by decide +kernel
theorem dX10_soonest_54 : decode cX10_soonest 54 = .ok (.aload_n 0, 1) := by decide +kernel
theorem dX10_soonest_55 : decode cX10_soonest 55 = .ok (.iconst 0, 1) := by decide +kernel
theorem dX10_soonest_56 : decode cX10_soonest 56 = .ok (.sipush 704, 3) := by decide +kernel
theorem dX10_soonest_59 : decode cX10_soonest 59 = .ok (.invokevirtual 105, 3) := by decide +kernel
theorem dX10_soonest_62 : decode cX10_soonest 62 = .ok (.aload_n 0, 1) := by decide +kernel
theorem dX10_soonest_63 : decode cX10_soonest 63 = .ok (.sipush 704, 3) := by decide +kernel
theorem dX10_soonest_66 : decode cX10_soonest 66 = .ok (.iload 5, 2) := by decide +kernel
theorem dX10_soonest_68 : decode cX10_soonest 68 = .ok (.iload_n 2, 1) := by decide +kernel
theorem dX10_soonest_69 : decode cX10_soonest 69 = .ok (.iload_n 1, 1) := by decide +kernel
theorem dX10_soonest_70 : decode cX10_soonest 70 = .ok (.invokevirtual 219, 3) := by decide +kernel
theorem dX10_soonest_73 : decode cX10_soonest 73 = .ok (.aload_n 0, 1) := by decide +kernel
theorem dX10_soonest_74 : decode cX10_soonest 74 = .ok (.iload 5, 2) := by decide +kernel
theorem dX10_soonest_76 : decode cX10_soonest 76 = .ok (.invokevirtual 236, 3) := by decide +kernel
theorem dX10_soonest_79 : decode cX10_soonest 79 = .ok (.istore 6, 2) := by decide +kernel
theorem dX10_soonest_81 : decode cX10_soonest 81 = .ok (.iload 6, 2) := by decide +kernel
theorem dX10_soonest_83 : decode cX10_soonest 83 = .ok (.iload 4, 2) := by decide +kernel
theorem dX10_soonest_85 : decode cX10_soonest 85 = .ok (.if_icmp .ge 8, 3) := by decide +kernel
theorem dX10_soonest_88 : decode cX10_soonest 88 = .ok (.iload 5, 2) := by decide +kernel
theorem dX10_soonest_90 : decode cX10_soonest 90 = .ok (.goto 4, 3) := by decide +kernel
theorem dX10_soonest_93 : decode cX10_soonest 93 = .ok (.iload_n 3, 1) := by decide +kernel
theorem dX10_soonest_94 : decode cX10_soonest 94 = .ok (.istore_n 3, 1) := by decide +kernel
theorem dX10_soonest_95 : decode cX10_soonest 95 = .ok (.iload 6, 2) := by decide +kernel
theorem dX10_soonest_97 : decode cX10_soonest 97 = .ok (.iload 4, 2) := by decide +kernel
theorem dX10_soonest_99 : decode cX10_soonest 99 = .ok (.invokestatic 101, 3) := by decide +kernel
theorem dX10_soonest_102 : decode cX10_soonest 102 = .ok (.istore 4, 2) := by decide +kernel
theorem dX10_soonest_104 : decode cX10_soonest 104 = .ok (.iinc 5 1, 3) := by decide +kernel
theorem dX10_soonest_107 : decode cX10_soonest 107 = .ok (.goto (-74), 3) := by decide +kernel
theorem dX10_soonest_110 : decode cX10_soonest 110 = .ok (.iload_n 3, 1) := by decide +kernel
theorem dX10_soonest_111 : decode cX10_soonest 111 = .ok (.ireturn, 1) := by decide +kernel
theorem dX10_tell_0 : decode cX10_tell 0 = .ok (.aload_n 0, 1) := by decide +kernel
theorem dX10_tell_1 : decode cX10_tell 1 = .ok (.iload_n 1, 1) := by decide +kernel
theorem dX10_tell_2 : decode cX10_tell 2 = .ok (.invokevirtual 178, 3) := by decide +kernel
theorem dX10_tell_5 : decode cX10_tell 5 = .ok (.ifCond .eq 23, 3) := by decide +kernel
theorem dX10_tell_8 : decode cX10_tell 8 = .ok (.aload_n 0, 1) := by decide +kernel
theorem dX10_tell_9 : decode cX10_tell 9 = .ok (.iload_n 2, 1) := by decide +kernel
theorem dX10_tell_10 : decode cX10_tell 10 = .ok (.invokevirtual 175, 3) := by decide +kernel
theorem dX10_tell_13 : decode cX10_tell 13 = .ok (.ifCond .eq 15, 3) := by decide +kernel
theorem dX10_tell_16 : decode cX10_tell 16 = .ok (.iload_n 3, 1) := by decide +kernel
theorem dX10_tell_17 : decode cX10_tell 17 = .ok (.i2l, 1) := by decide +kernel
theorem dX10_tell_18 : decode cX10_tell 18 = .ok (.lconst 0, 1) := by decide +kernel
theorem dX10_tell_19 : decode cX10_tell 19 = .ok (.ldc2_w 181, 3) := by decide +kernel
theorem dX10_tell_22 : decode cX10_tell 22 = .ok (.invokestatic 108, 3) := by decide +kernel
theorem dX10_tell_25 : decode cX10_tell 25 = .ok (.ifCond .ne 5, 3) := by decide +kernel
theorem dX10_tell_28 : decode cX10_tell 28 = .ok (.iconst (-1), 1) := by decide +kernel
theorem dX10_tell_29 : decode cX10_tell 29 = .ok (.ireturn, 1) := by decide +kernel
theorem dX10_tell_30 : decode cX10_tell 30 = .ok (.aload_n 0, 1) := by decide +kernel
theorem dX10_tell_31 : decode cX10_tell 31 = .ok (.getfield 43, 3) := by decide +kernel
theorem dX10_tell_34 : decode cX10_tell 34 = .ok (.iload_n 1, 1) := by decide +kernel
theorem dX10_tell_35 : decode cX10_tell 35 = .ok (.iaload, 1) := by decide +kernel
theorem dX10_tell_36 : decode cX10_tell 36 = .ok (.ifCond .eq 6, 3) := by decide +kernel
theorem dX10_tell_39 : decode cX10_tell 39 = .ok (.bipush (-2), 2) := by decide +kernel
theorem dX10_tell_41 : decode cX10_tell 41 = .ok (.ireturn, 1) := by decide +kernel
theorem dX10_tell_42 : decode cX10_tell 42 = .ok (.iconst 0, 1) := by decide +kernel
theorem dX10_tell_43 : decode cX10_tell 43 = .ok (.istore 4, 2) := by decide +kernel
theorem dX10_tell_45 : decode cX10_tell 45 = .ok (.iload 4, 2) := by decide +kernel
theorem dX10_tell_47 : decode cX10_tell 47 = .ok (.bipush 8, 2) := by decide +kernel
theorem dX10_tell_49 : decode cX10_tell 49 = .ok (.if_icmp .ge 24, 3) := by decide +kernel
theorem dX10_tell_52 : decode cX10_tell 52 = .ok (.aload_n 0, 1) := by decide +kernel
theorem dX10_tell_53 : decode cX10_tell 53 = .ok (.iload_n 1, 1) := by decide +kernel
theorem dX10_tell_54 : decode cX10_tell 54 = .ok (.iload 4, 2) := by decide +kernel
theorem dX10_tell_56 : decode cX10_tell 56 = .ok (.iload_n 2, 1) := by decide +kernel
theorem dX10_tell_57 : decode cX10_tell 57 = .ok (.invokevirtual 243, 3) := by decide +kernel
theorem dX10_tell_60 : decode cX10_tell 60 = .ok (.iload_n 3, 1) := by decide +kernel
theorem dX10_tell_61 : decode cX10_tell 61 = .ok (.if_icmp .ne 6, 3) := by decide +kernel
theorem dX10_tell_64 : decode cX10_tell 64 = .ok (.iload 4, 2) := by decide +kernel
theorem dX10_tell_66 : decode cX10_tell 66 = .ok (.ireturn, 1) := by decide +kernel
theorem dX10_tell_67 : decode cX10_tell 67 = .ok (.iinc 4 1, 3) := by decide +kernel
theorem dX10_tell_70 : decode cX10_tell 70 = .ok (.goto (-25), 3) := by decide +kernel
theorem dX10_tell_73 : decode cX10_tell 73 = .ok (.bipush (-4), 2) := by decide +kernel
theorem dX10_tell_75 : decode cX10_tell 75 = .ok (.ireturn, 1) := by decide +kernel
theorem qX10_hour : jYv yX10_hour cX10_hour 4 none 2 := ⟨tw_1138, tw_40, tw_72, tw_1139, ⟨by decide +kernel, by decide +kernel, by decide +kernel⟩⟩
abbrev rX10_hour : Room := { frames := 3, cells := 0, slots := 0, locals := 70 }
def uX10_hour : jM := (cX10_hour, 4, RX10, none, rX10_hour)
def pX10_hour_45 (fu : Nat) (x1 : Int32) (x2 : Int32) (x3 : Int32) (M : Mem) (c2 : Int32 → Int32 → Int32 → Mem → Res) : Res :=
  c2 x1 x2 (x3 + (1 : Int32)) M
set_option maxRecDepth 100000 in
theorem wX10_hour_45 {E : jE} {X : jC} (hX : jOk X uX10_hour (gM E)) (fu : Nat)  (x1 : Int32) (x2 : Int32) (x3 : Int32) (M : Mem) (c2 : Int32 → Int32 → Int32 → Mem → Res) (hc2 : ∀ (x1 : Int32) (x2 : Int32) (x3 : Int32) (M : Mem), J X uX10_hour (gM E) 2 [(0, .ref (gad (gM E) 0)), (1, .int x1), (2, .int x2), (3, .int x3)] [] M (c2 x1 x2 x3 M)) : J X uX10_hour (gM E) 45 [(0, .ref (gad (gM E) 0)), (1, .int x1), (2, .int x2), (3, .int x3)] [] M (pX10_hour_45 fu  x1 x2 x3 M c2) := by
  unfold pX10_hour_45
  refine j_iinc (pc := 45) (v := (x3 + (1 : Int32))) (lv' := [(3, .int (x3 + (1 : Int32))), (0, .ref (gad (gM E) 0)), (1, .int x1), (2, .int x2)]) hX 3 dX10_hour_45 rfl (by rw [ci_1]) (jb rfl) rfl ?_
  refine j_goto (pc := 48) hX 2 dX10_hour_48 (by decide) ?_
  exact j_sub [1, 2, 3, 0] rfl (hc2 x1 x2 (x3 + (1 : Int32)) M)
def pX10_hour_39 (fu : Nat) (x1 : Int32) (x2 : Int32) (x3 : Int32) (M : Mem) (c2 : Int32 → Int32 → Int32 → Mem → Res) : Res :=
  bV (pX10_goesOn fu x1 x3 M) fun M2 =>
  pX10_hour_45 fu  x1 x2 x3 M2 c2
set_option maxRecDepth 100000 in
theorem wX10_hour_39 {E : jE} {X : jC} (hX : jOk X uX10_hour (gM E)) (fu : Nat)  (x1 : Int32) (x2 : Int32) (x3 : Int32) (M : Mem) (c2 : Int32 → Int32 → Int32 → Mem → Res) (hc2 : ∀ (x1 : Int32) (x2 : Int32) (x3 : Int32) (M : Mem), J X uX10_hour (gM E) 2 [(0, .ref (gad (gM E) 0)), (1, .int x1), (2, .int x2), (3, .int x3)] [] M (c2 x1 x2 x3 M)) : J X uX10_hour (gM E) 39 [(0, .ref (gad (gM E) 0)), (1, .int x1), (2, .int x2), (3, .int x3)] [] M (pX10_hour_39 fu  x1 x2 x3 M c2) := by
  unfold pX10_hour_39
  refine j_aload_n (pc := 39) hX 0 dX10_hour_39 rfl rfl ?_
  refine j_iload_n (pc := 40) hX 1 dX10_hour_40 rfl rfl ?_
  refine j_iload_n (pc := 41) hX 3 dX10_hour_41 rfl rfl ?_
  refine j_callVv (pc := 42) hX [.int x1, .int x3] (mX10_goesOn _ E hX.2.2.2.2.2.2.2.2.1 fu   x1 x3 M) qX10_goesOn tw_1140 (jb rfl) rfl (ci := 9) (T := TX10) (N := 30) rfl (jb rfl) rfl ⟨rfl, rfl⟩ ⟨(Nat.le_of_ble_eq_true rfl), (Nat.le_of_ble_eq_true rfl)⟩ (Nat.le_of_ble_eq_true rfl) dX10_hour_42 rfl (fun M2 => ?_)
  exact j_sub [0, 1, 2, 3] rfl (wX10_hour_45 hX fu   x1 x2 x3 M2 c2 hc2)
def pX10_hour_2b (fu : Nat) (x1 : Int32) (x2 : Int32) (x3 : Int32) (M : Mem) (c2 : Int32 → Int32 → Int32 → Mem → Res) (c51 : Int32 → Mem → Res) : Res :=
  if (M 0 7) ≤ x3 then (
    c51 x1 M)
  else
  if x3 = x2 then (
    pX10_hour_45 fu  x1 x2 x3 M c2)
  else
  ld M 12 768 (x1 + x3) fun v1 =>
  if v1 = (1 : Int32) then (
    pX10_hour_39 fu  x1 x2 x3 M c2)
  else
  ld M 12 768 (x1 + x3) fun v3 =>
  if v3 = (3 : Int32) then (
    pX10_hour_39 fu  x1 x2 x3 M c2)
  else
  pX10_hour_45 fu  x1 x2 x3 M c2
set_option maxRecDepth 100000 in
theorem wX10_hour_2b {E : jE} {X : jC} (hX : jOk X uX10_hour (gM E)) (fu : Nat)  (x1 : Int32) (x2 : Int32) (x3 : Int32) (M : Mem) (c2 : Int32 → Int32 → Int32 → Mem → Res) (c51 : Int32 → Mem → Res) (hc2 : ∀ (x1 : Int32) (x2 : Int32) (x3 : Int32) (M : Mem), J X uX10_hour (gM E) 2 [(0, .ref (gad (gM E) 0)), (1, .int x1), (2, .int x2), (3, .int x3)] [] M (c2 x1 x2 x3 M)) (hc51 : ∀ (x1 : Int32) (M : Mem), J X uX10_hour (gM E) 51 [(0, .ref (gad (gM E) 0)), (1, .int x1)] [] M (c51 x1 M)) : J X uX10_hour (gM E) 2 [(0, .ref (gad (gM E) 0)), (1, .int x1), (2, .int x2), (3, .int x3)] [] M (pX10_hour_2b fu  x1 x2 x3 M c2 c51) := by
  unfold pX10_hour_2b
  refine j_iload_n (pc := 2) hX 3 dX10_hour_2 rfl rfl ?_
  refine j_aload_n (pc := 3) hX 0 dX10_hour_3 rfl rfl ?_
  refine j_getI (pc := 4) hX (jb rfl) rfl (ci := 9) (C := RX10) (T := TX10) (N := 30) rfl (jb rfl) inX10 (j := 7) (jb rfl) rfl tw_927 dX10_hour_4 ?_
  refine j_icmp_ge (pc := 7) hX 51 dX10_hour_7 (by decide) ?_ ?_
  · exact j_sub [0, 1] rfl (hc51 x1 M)
  · refine j_iload_n (pc := 10) hX 3 dX10_hour_10 rfl rfl ?_
    refine j_iload_n (pc := 11) hX 2 dX10_hour_11 rfl rfl ?_
    refine j_icmp_eq (pc := 12) hX 45 dX10_hour_12 (by decide) ?_ ?_
    · exact j_sub [0, 1, 2, 3] rfl (wX10_hour_45 hX fu   x1 x2 x3 M c2 hc2)
    · refine j_aload_n (pc := 15) hX 0 dX10_hour_15 rfl rfl ?_
      refine j_getR (pc := 16) (t := 12) hX (jb rfl) rfl (ci := 9) (C := RX10) (T := TX10) (N := 30) rfl (jb rfl) inX10 (j := 19) (jb rfl) rfl tw_939 dX10_hour_16 ?_
      refine j_iload_n (pc := 19) hX 1 dX10_hour_19 rfl rfl ?_
      refine j_iload_n (pc := 20) hX 3 dX10_hour_20 rfl rfl ?_
      refine j_iadd (pc := 21) hX dX10_hour_21 ?_
      refine j_iald (pc := 22) hX (jb rfl) rfl rfl dX10_hour_22 (fun v1 => ?_)
      refine j_iconst (pc := 23) (v := (1 : Int32)) hX dX10_hour_23 ci_1 ?_
      refine j_icmp_eq (pc := 24) hX 39 dX10_hour_24 (by decide) ?_ ?_
      · exact j_sub [0, 1, 2, 3] rfl (wX10_hour_39 hX fu   x1 x2 x3 M c2 hc2)
      · refine j_aload_n (pc := 27) hX 0 dX10_hour_27 rfl rfl ?_
        refine j_getR (pc := 28) (t := 12) hX (jb rfl) rfl (ci := 9) (C := RX10) (T := TX10) (N := 30) rfl (jb rfl) inX10 (j := 19) (jb rfl) rfl tw_939 dX10_hour_28 ?_
        refine j_iload_n (pc := 31) hX 1 dX10_hour_31 rfl rfl ?_
        refine j_iload_n (pc := 32) hX 3 dX10_hour_32 rfl rfl ?_
        refine j_iadd (pc := 33) hX dX10_hour_33 ?_
        refine j_iald (pc := 34) hX (jb rfl) rfl rfl dX10_hour_34 (fun v3 => ?_)
        refine j_iconst (pc := 35) (v := (3 : Int32)) hX dX10_hour_35 ci_3 ?_
        refine j_icmp_ne (pc := 36) hX 45 dX10_hour_36 (by decide) ?_ ?_
        · exact j_sub [0, 1, 2, 3] rfl (wX10_hour_45 hX fu   x1 x2 x3 M c2 hc2)
        · exact j_sub [0, 1, 2, 3] rfl (wX10_hour_39 hX fu   x1 x2 x3 M c2 hc2)
def pX10_hour_2 (fu : Nat) (c51 : Int32 → Mem → Res) : Nat → Int32 → Int32 → Int32 → Mem → Res
  | 0, _, _, _, _ => none
  | n + 1, x1, x2, x3, M => pX10_hour_2b fu  x1 x2 x3 M (pX10_hour_2 fu  c51 n) c51
theorem wX10_hour_2 {E : jE} {X : jC} (hX : jOk X uX10_hour (gM E)) (fu : Nat)  (c51 : Int32 → Mem → Res) (hc51 : ∀ (x1 : Int32) (M : Mem), J X uX10_hour (gM E) 51 [(0, .ref (gad (gM E) 0)), (1, .int x1)] [] M (c51 x1 M)) : ∀ (n : Nat) (x1 : Int32) (x2 : Int32) (x3 : Int32) (M : Mem), J X uX10_hour (gM E) 2 [(0, .ref (gad (gM E) 0)), (1, .int x1), (2, .int x2), (3, .int x3)] [] M (pX10_hour_2 fu  c51 n x1 x2 x3 M) := by
  intro n
  induction n with
  | zero => intro x1 x2 x3 M; exact j_none
  | succ n ih => intro x1 x2 x3 M; exact wX10_hour_2b hX fu   x1 x2 x3 M (pX10_hour_2 fu  c51 n) c51 ih hc51
def pX10_hour (fu : Nat) (x1 : Int32) (x2 : Int32) (M : Mem) : Res :=
  pX10_hour_2 fu
    (fun y4 M5 =>
      ld M5 12 768 (y4 + (63 : Int32)) fun v6 =>
      sto M5 12 768 (y4 + (63 : Int32)) (v6 + (1 : Int32)) fun M7 =>
      some (0, M7))
    fu x1 x2 (0 : Int32) M
set_option maxRecDepth 100000 in
theorem wX10_hour {E : jE} {X : jC} (hX : jOk X uX10_hour (gM E)) (fu : Nat)  (x1 : Int32) (x2 : Int32) (M : Mem) : J X uX10_hour (gM E) 0 [(0, .ref (gad (gM E) 0)), (1, .int x1), (2, .int x2)] [] M (pX10_hour fu  x1 x2 M) := by
  unfold pX10_hour
  refine j_iconst (pc := 0) (v := (0 : Int32)) hX dX10_hour_0 ci_0 ?_
  refine j_istore_n (pc := 1) (lv' := [(3, .int (0 : Int32)), (0, .ref (gad (gM E) 0)), (1, .int x1), (2, .int x2)]) hX dX10_hour_1 rfl (jb rfl) rfl ?_
  refine j_sub [1, 2, 3, 0] rfl (wX10_hour_2 hX fu   _ ?_ fu x1 x2 (0 : Int32) M)
  · intro y4 M5
    refine j_aload_n (pc := 51) hX 0 dX10_hour_51 rfl rfl ?_
    refine j_getR (pc := 52) (t := 12) hX (jb rfl) rfl (ci := 9) (C := RX10) (T := TX10) (N := 30) rfl (jb rfl) inX10 (j := 19) (jb rfl) rfl tw_939 dX10_hour_52 ?_
    refine j_iload_n (pc := 55) hX 1 dX10_hour_55 rfl rfl ?_
    refine j_bipush (pc := 56) (v := (63 : Int32)) hX dX10_hour_56 cb_63 ?_
    refine j_iadd (pc := 58) hX dX10_hour_58 ?_
    refine j_dup2 (pc := 59) hX dX10_hour_59 rfl rfl ?_
    refine j_iald (pc := 60) hX (jb rfl) rfl rfl dX10_hour_60 (fun v6 => ?_)
    refine j_iconst (pc := 61) (v := (1 : Int32)) hX dX10_hour_61 ci_1 ?_
    refine j_iadd (pc := 62) hX dX10_hour_62 ?_
    refine j_iast (pc := 63) hX (jb rfl) rfl rfl dX10_hour_63 (fun M7 => ?_)
    exact j_vret (pc := 64) hX rfl dX10_hour_64
theorem mX10_hour (l : Launch) (E : jE) (hI : jInj (gM E)) (fu : Nat)  (x1 : Int32) (x2 : Int32) (M : Mem) : jMet l (gM E) yX10_hour cX10_hour 4 none rX10_hour [.ref (gad (gM E) 0), .int x1, .int x2] M (pX10_hour fu  x1 x2 M) :=
  j_entry hI (by decide +kernel) (Nat.le_of_ble_eq_true rfl) rfl (fun X _ hX => wX10_hour hX fu   x1 x2 M)
theorem qX10_send : jYv yX10_send cX10_send 4 (some .int) 3 := ⟨tw_1116, tw_1117, tw_72, tw_1118, ⟨by decide +kernel, by decide +kernel, by decide +kernel⟩⟩
abbrev rX10_send : Room := { frames := 2, cells := 0, slots := 0, locals := 46 }
def uX10_send : jM := (cX10_send, 4, RX10, (some .int), rX10_send)
def pX10_send (fu : Nat) (x1 : Int32) (x2 : Int32) (x3 : Int32) (M : Mem) : Res :=
  bI (pX10_isBeast fu x1 M) fun r2 M1 =>
  if r2 = 0 then (
    some ((-1 : Int32), M1))
  else
  bI (pX10_in fu (x2).toInt64 (0 : Int64) (7 : Int64) M1) fun r4 M3 =>
  if r4 = 0 then (
    some ((-1 : Int32), M3))
  else
  bI (pX10_isDoor fu x3 M3) fun r6 M5 =>
  if r6 = 0 then (
    some ((-1 : Int32), M5))
  else
  bI (pX10_canSend fu (0 : Int32) x1 x3 M5) fun r8 M7 =>
  if r8 = 0 then (
    some ((-2 : Int32), M7))
  else
  bV (pX10_known fu  M7) fun M9 =>
  bV (pX10_sends fu (0 : Int32) x1 x2 x3 M9) fun M10 =>
  ld M10 12 768 ((40 : Int32) + x1) fun v11 =>
  some (v11, M10)
set_option maxRecDepth 100000 in
theorem wX10_send {E : jE} {X : jC} (hX : jOk X uX10_send (gM E)) (fu : Nat)  (x1 : Int32) (x2 : Int32) (x3 : Int32) (M : Mem) : J X uX10_send (gM E) 0 [(0, .ref (gad (gM E) 0)), (1, .int x1), (2, .int x2), (3, .int x3)] [] M (pX10_send fu  x1 x2 x3 M) := by
  unfold pX10_send
  refine j_aload_n (pc := 0) hX 0 dX10_send_0 rfl rfl ?_
  refine j_iload_n (pc := 1) hX 1 dX10_send_1 rfl rfl ?_
  refine j_callV (pc := 2) hX [.int x1] (mX10_isBeast _ E hX.2.2.2.2.2.2.2.2.1 fu   x1 M) qX10_isBeast tw_1095 (jb rfl) rfl (ci := 9) (T := TX10) (N := 30) rfl (jb rfl) rfl ⟨rfl, rfl⟩ ⟨(Nat.le_of_ble_eq_true rfl), (Nat.le_of_ble_eq_true rfl)⟩ (Nat.le_of_ble_eq_true rfl) dX10_send_2 (fun _ => rfl) rfl (fun r2 M1 => ?_)
  refine j_if_eq (pc := 5) hX 28 dX10_send_5 (by decide) ?_ ?_
  · refine j_iconst (pc := 28) (v := (-1 : Int32)) hX dX10_send_28 ci_m1 ?_
    exact j_iret (pc := 29) hX rfl dX10_send_29
  · refine j_iload_n (pc := 8) hX 2 dX10_send_8 rfl rfl ?_
    refine j_i2l (pc := 9) hX dX10_send_9 ?_
    refine j_lconst (pc := 10) (v := (0 : Int64)) hX dX10_send_10 rfl ?_
    refine j_ldc2 (pc := 11) (v := (7 : Int64)) hX tw_1099 dX10_send_11 ?_
    refine j_callS (pc := 14) hX [.long (x2).toInt64, .long (0 : Int64), .long (7 : Int64)] (mX10_in _ E hX.2.2.2.2.2.2.2.2.1 fu   (x2).toInt64 (0 : Int64) (7 : Int64) M1) qX10_in tw_1017 rfl ⟨rfl, rfl⟩ ⟨(Nat.le_of_ble_eq_true rfl), (Nat.le_of_ble_eq_true rfl)⟩ (Nat.le_of_ble_eq_true rfl) dX10_send_14 (fun _ => rfl) rfl (fun r4 M3 => ?_)
    refine j_if_eq (pc := 17) hX 28 dX10_send_17 (by decide) ?_ ?_
    · refine j_iconst (pc := 28) (v := (-1 : Int32)) hX dX10_send_28 ci_m1 ?_
      exact j_iret (pc := 29) hX rfl dX10_send_29
    · refine j_aload_n (pc := 20) hX 0 dX10_send_20 rfl rfl ?_
      refine j_iload_n (pc := 21) hX 3 dX10_send_21 rfl rfl ?_
      refine j_callV (pc := 22) hX [.int x3] (mX10_isDoor _ E hX.2.2.2.2.2.2.2.2.1 fu   x3 M3) qX10_isDoor tw_1087 (jb rfl) rfl (ci := 9) (T := TX10) (N := 30) rfl (jb rfl) rfl ⟨rfl, rfl⟩ ⟨(Nat.le_of_ble_eq_true rfl), (Nat.le_of_ble_eq_true rfl)⟩ (Nat.le_of_ble_eq_true rfl) dX10_send_22 (fun _ => rfl) rfl (fun r6 M5 => ?_)
      refine j_if_ne (pc := 25) hX 30 dX10_send_25 (by decide) ?_ ?_
      · refine j_aload_n (pc := 30) hX 0 dX10_send_30 rfl rfl ?_
        refine j_iconst (pc := 31) (v := (0 : Int32)) hX dX10_send_31 ci_0 ?_
        refine j_iload_n (pc := 32) hX 1 dX10_send_32 rfl rfl ?_
        refine j_iload_n (pc := 33) hX 3 dX10_send_33 rfl rfl ?_
        refine j_callV (pc := 34) hX [.int (0 : Int32), .int x1, .int x3] (mX10_canSend _ E hX.2.2.2.2.2.2.2.2.1 fu   (0 : Int32) x1 x3 M5) qX10_canSend tw_1119 (jb rfl) rfl (ci := 9) (T := TX10) (N := 30) rfl (jb rfl) rfl ⟨rfl, rfl⟩ ⟨(Nat.le_of_ble_eq_true rfl), (Nat.le_of_ble_eq_true rfl)⟩ (Nat.le_of_ble_eq_true rfl) dX10_send_34 (fun _ => rfl) rfl (fun r8 M7 => ?_)
        refine j_if_ne (pc := 37) hX 43 dX10_send_37 (by decide) ?_ ?_
        · refine j_aload_n (pc := 43) hX 0 dX10_send_43 rfl rfl ?_
          refine j_callVv (pc := 44) hX [] (mX10_known _ E hX.2.2.2.2.2.2.2.2.1 fu    M7) qX10_known tw_1123 (jb rfl) rfl (ci := 9) (T := TX10) (N := 30) rfl (jb rfl) rfl ⟨rfl, rfl⟩ ⟨(Nat.le_of_ble_eq_true rfl), (Nat.le_of_ble_eq_true rfl)⟩ (Nat.le_of_ble_eq_true rfl) dX10_send_44 rfl (fun M9 => ?_)
          refine j_aload_n (pc := 47) hX 0 dX10_send_47 rfl rfl ?_
          refine j_iconst (pc := 48) (v := (0 : Int32)) hX dX10_send_48 ci_0 ?_
          refine j_iload_n (pc := 49) hX 1 dX10_send_49 rfl rfl ?_
          refine j_iload_n (pc := 50) hX 2 dX10_send_50 rfl rfl ?_
          refine j_iload_n (pc := 51) hX 3 dX10_send_51 rfl rfl ?_
          refine j_callVv (pc := 52) hX [.int (0 : Int32), .int x1, .int x2, .int x3] (mX10_sends _ E hX.2.2.2.2.2.2.2.2.1 fu   (0 : Int32) x1 x2 x3 M9) qX10_sends tw_1127 (jb rfl) rfl (ci := 9) (T := TX10) (N := 30) rfl (jb rfl) rfl ⟨rfl, rfl⟩ ⟨(Nat.le_of_ble_eq_true rfl), (Nat.le_of_ble_eq_true rfl)⟩ (Nat.le_of_ble_eq_true rfl) dX10_send_52 rfl (fun M10 => ?_)
          refine j_aload_n (pc := 55) hX 0 dX10_send_55 rfl rfl ?_
          refine j_getR (pc := 56) (t := 12) hX (jb rfl) rfl (ci := 9) (C := RX10) (T := TX10) (N := 30) rfl (jb rfl) inX10 (j := 19) (jb rfl) rfl tw_939 dX10_send_56 ?_
          refine j_bipush (pc := 59) (v := (40 : Int32)) hX dX10_send_59 cb_40 ?_
          refine j_iload_n (pc := 61) hX 1 dX10_send_61 rfl rfl ?_
          refine j_iadd (pc := 62) hX dX10_send_62 ?_
          refine j_iald (pc := 63) hX (jb rfl) rfl rfl dX10_send_63 (fun v11 => ?_)
          exact j_iret (pc := 64) hX rfl dX10_send_64
        · refine j_bipush (pc := 40) (v := (-2 : Int32)) hX dX10_send_40 cb_m2 ?_
          exact j_iret (pc := 42) hX rfl dX10_send_42
      · refine j_iconst (pc := 28) (v := (-1 : Int32)) hX dX10_send_28 ci_m1 ?_
        exact j_iret (pc := 29) hX rfl dX10_send_29
theorem mX10_send (l : Launch) (E : jE) (hI : jInj (gM E)) (fu : Nat)  (x1 : Int32) (x2 : Int32) (x3 : Int32) (M : Mem) : jMet l (gM E) yX10_send cX10_send 4 (some .int) rX10_send [.ref (gad (gM E) 0), .int x1, .int x2, .int x3] M (pX10_send fu  x1 x2 x3 M) :=
  j_entry hI (by decide +kernel) (Nat.le_of_ble_eq_true rfl) rfl (fun X _ hX => wX10_send hX fu   x1 x2 x3 M)
theorem qX10_pass : jYv yX10_pass cX10_pass 3 (some .int) 1 := ⟨tw_1132, tw_1133, tw_72, tw_1134, ⟨by decide +kernel, by decide +kernel, by decide +kernel⟩⟩
abbrev rX10_pass : Room := { frames := 4, cells := 0, slots := 0, locals := 93 }
def uX10_pass : jM := (cX10_pass, 3, RX10, (some .int), rX10_pass)
def pX10_pass_20b (fu : Nat) (x1 : Int32) (x2 : Int32) (M : Mem) (c20 : Int32 → Int32 → Mem → Res) (c37 : Mem → Res) : Res :=
  if x1 ≤ x2 then (
    c37 M)
  else
  bV (pX10_hour fu (0 : Int32) (-1 : Int32) M) fun M4 =>
  c20 x1 (x2 + (1 : Int32)) M4
set_option maxRecDepth 100000 in
theorem wX10_pass_20b {E : jE} {X : jC} (hX : jOk X uX10_pass (gM E)) (fu : Nat)  (x1 : Int32) (x2 : Int32) (M : Mem) (c20 : Int32 → Int32 → Mem → Res) (c37 : Mem → Res) (hc20 : ∀ (x1 : Int32) (x2 : Int32) (M : Mem), J X uX10_pass (gM E) 20 [(0, .ref (gad (gM E) 0)), (1, .int x1), (2, .int x2)] [] M (c20 x1 x2 M)) (hc37 : ∀  (M : Mem), J X uX10_pass (gM E) 37 [(0, .ref (gad (gM E) 0))] [] M (c37  M)) : J X uX10_pass (gM E) 20 [(0, .ref (gad (gM E) 0)), (1, .int x1), (2, .int x2)] [] M (pX10_pass_20b fu  x1 x2 M c20 c37) := by
  unfold pX10_pass_20b
  refine j_iload_n (pc := 20) hX 2 dX10_pass_20 rfl rfl ?_
  refine j_iload_n (pc := 21) hX 1 dX10_pass_21 rfl rfl ?_
  refine j_icmp_ge (pc := 22) hX 37 dX10_pass_22 (by decide) ?_ ?_
  · exact j_sub [0] rfl (hc37  M)
  · refine j_aload_n (pc := 25) hX 0 dX10_pass_25 rfl rfl ?_
    refine j_iconst (pc := 26) (v := (0 : Int32)) hX dX10_pass_26 ci_0 ?_
    refine j_iconst (pc := 27) (v := (-1 : Int32)) hX dX10_pass_27 ci_m1 ?_
    refine j_callVv (pc := 28) hX [.int (0 : Int32), .int (-1 : Int32)] (mX10_hour _ E hX.2.2.2.2.2.2.2.2.1 fu   (0 : Int32) (-1 : Int32) M) qX10_hour tw_1136 (jb rfl) rfl (ci := 9) (T := TX10) (N := 30) rfl (jb rfl) rfl ⟨rfl, rfl⟩ ⟨(Nat.le_of_ble_eq_true rfl), (Nat.le_of_ble_eq_true rfl)⟩ (Nat.le_of_ble_eq_true rfl) dX10_pass_28 rfl (fun M4 => ?_)
    refine j_iinc (pc := 31) (v := (x2 + (1 : Int32))) (lv' := [(2, .int (x2 + (1 : Int32))), (0, .ref (gad (gM E) 0)), (1, .int x1)]) hX 2 dX10_pass_31 rfl (by rw [ci_1]) (jb rfl) rfl ?_
    refine j_goto (pc := 34) hX 20 dX10_pass_34 (by decide) ?_
    exact j_sub [1, 2, 0] rfl (hc20 x1 (x2 + (1 : Int32)) M4)
def pX10_pass_20 (fu : Nat) (c37 : Mem → Res) : Nat → Int32 → Int32 → Mem → Res
  | 0, _, _, _ => none
  | n + 1, x1, x2, M => pX10_pass_20b fu  x1 x2 M (pX10_pass_20 fu  c37 n) c37
theorem wX10_pass_20 {E : jE} {X : jC} (hX : jOk X uX10_pass (gM E)) (fu : Nat)  (c37 : Mem → Res) (hc37 : ∀  (M : Mem), J X uX10_pass (gM E) 37 [(0, .ref (gad (gM E) 0))] [] M (c37  M)) : ∀ (n : Nat) (x1 : Int32) (x2 : Int32) (M : Mem), J X uX10_pass (gM E) 20 [(0, .ref (gad (gM E) 0)), (1, .int x1), (2, .int x2)] [] M (pX10_pass_20 fu  c37 n x1 x2 M) := by
  intro n
  induction n with
  | zero => intro x1 x2 M; exact j_none
  | succ n ih => intro x1 x2 M; exact wX10_pass_20b hX fu   x1 x2 M (pX10_pass_20 fu  c37 n) c37 ih hc37
def pX10_pass (fu : Nat) (x1 : Int32) (M : Mem) : Res :=
  bI (pX10_in fu (x1).toInt64 (1 : Int64) (24 : Int64) M) fun r2 M1 =>
  if r2 = 0 then (
    some ((-1 : Int32), M1))
  else
  bV (pX10_known fu  M1) fun M3 =>
  pX10_pass_20 fu
    (fun  M5 =>
      ld M5 12 768 (63 : Int32) fun v6 =>
      some (v6, M5))
    fu x1 (0 : Int32) M3
set_option maxRecDepth 100000 in
theorem wX10_pass {E : jE} {X : jC} (hX : jOk X uX10_pass (gM E)) (fu : Nat)  (x1 : Int32) (M : Mem) : J X uX10_pass (gM E) 0 [(0, .ref (gad (gM E) 0)), (1, .int x1)] [] M (pX10_pass fu  x1 M) := by
  unfold pX10_pass
  refine j_iload_n (pc := 0) hX 1 dX10_pass_0 rfl rfl ?_
  refine j_i2l (pc := 1) hX dX10_pass_1 ?_
  refine j_lconst (pc := 2) (v := (1 : Int64)) hX dX10_pass_2 rfl ?_
  refine j_ldc2 (pc := 3) (v := (24 : Int64)) hX tw_1135 dX10_pass_3 ?_
  refine j_callS (pc := 6) hX [.long (x1).toInt64, .long (1 : Int64), .long (24 : Int64)] (mX10_in _ E hX.2.2.2.2.2.2.2.2.1 fu   (x1).toInt64 (1 : Int64) (24 : Int64) M) qX10_in tw_1017 rfl ⟨rfl, rfl⟩ ⟨(Nat.le_of_ble_eq_true rfl), (Nat.le_of_ble_eq_true rfl)⟩ (Nat.le_of_ble_eq_true rfl) dX10_pass_6 (fun _ => rfl) rfl (fun r2 M1 => ?_)
  refine j_if_ne (pc := 9) hX 14 dX10_pass_9 (by decide) ?_ ?_
  · refine j_aload_n (pc := 14) hX 0 dX10_pass_14 rfl rfl ?_
    refine j_callVv (pc := 15) hX [] (mX10_known _ E hX.2.2.2.2.2.2.2.2.1 fu    M1) qX10_known tw_1123 (jb rfl) rfl (ci := 9) (T := TX10) (N := 30) rfl (jb rfl) rfl ⟨rfl, rfl⟩ ⟨(Nat.le_of_ble_eq_true rfl), (Nat.le_of_ble_eq_true rfl)⟩ (Nat.le_of_ble_eq_true rfl) dX10_pass_15 rfl (fun M3 => ?_)
    refine j_iconst (pc := 18) (v := (0 : Int32)) hX dX10_pass_18 ci_0 ?_
    refine j_istore_n (pc := 19) (lv' := [(2, .int (0 : Int32)), (0, .ref (gad (gM E) 0)), (1, .int x1)]) hX dX10_pass_19 rfl (jb rfl) rfl ?_
    refine j_sub [1, 2, 0] rfl (wX10_pass_20 hX fu   _ ?_ fu x1 (0 : Int32) M3)
    · intro  M5
      refine j_aload_n (pc := 37) hX 0 dX10_pass_37 rfl rfl ?_
      refine j_getR (pc := 38) (t := 12) hX (jb rfl) rfl (ci := 9) (C := RX10) (T := TX10) (N := 30) rfl (jb rfl) inX10 (j := 19) (jb rfl) rfl tw_939 dX10_pass_38 ?_
      refine j_bipush (pc := 41) (v := (63 : Int32)) hX dX10_pass_41 cb_63 ?_
      refine j_iald (pc := 43) hX (jb rfl) rfl rfl dX10_pass_43 (fun v6 => ?_)
      exact j_iret (pc := 44) hX rfl dX10_pass_44
  · refine j_iconst (pc := 12) (v := (-1 : Int32)) hX dX10_pass_12 ci_m1 ?_
    exact j_iret (pc := 13) hX rfl dX10_pass_13
theorem mX10_pass (l : Launch) (E : jE) (hI : jInj (gM E)) (fu : Nat)  (x1 : Int32) (M : Mem) : jMet l (gM E) yX10_pass cX10_pass 3 (some .int) rX10_pass [.ref (gad (gM E) 0), .int x1] M (pX10_pass fu  x1 M) :=
  j_entry hI (by decide +kernel) (Nat.le_of_ble_eq_true rfl) rfl (fun X _ hX => wX10_pass hX fu   x1 M)
theorem qX10_goesHome : jYv yX10_goesHome cX10_goesHome 3 none 2 := ⟨tw_1173, tw_47, tw_72, tw_1174, ⟨by decide +kernel, by decide +kernel, by decide +kernel⟩⟩
abbrev rX10_goesHome : Room := { frames := 0, cells := 0, slots := 0, locals := 0 }
def uX10_goesHome : jM := (cX10_goesHome, 3, RX10, none, rX10_goesHome)
def pX10_goesHome (fu : Nat) (x1 : Int32) (x2 : Int32) (M : Mem) : Res :=
  sto M 12 768 (x1 + x2) (3 : Int32) fun M1 =>
  sto M1 12 768 ((x1 + (25 : Int32)) + x2) (-4 : Int32) fun M2 =>
  sto M2 12 768 ((x1 + (20 : Int32)) + x2) (0 : Int32) fun M3 =>
  some (0, M3)
set_option maxRecDepth 100000 in
theorem wX10_goesHome {E : jE} {X : jC} (hX : jOk X uX10_goesHome (gM E)) (fu : Nat)  (x1 : Int32) (x2 : Int32) (M : Mem) : J X uX10_goesHome (gM E) 0 [(0, .ref (gad (gM E) 0)), (1, .int x1), (2, .int x2)] [] M (pX10_goesHome fu  x1 x2 M) := by
  unfold pX10_goesHome
  refine j_aload_n (pc := 0) hX 0 dX10_goesHome_0 rfl rfl ?_
  refine j_getR (pc := 1) (t := 12) hX (jb rfl) rfl (ci := 9) (C := RX10) (T := TX10) (N := 30) rfl (jb rfl) inX10 (j := 19) (jb rfl) rfl tw_939 dX10_goesHome_1 ?_
  refine j_iload_n (pc := 4) hX 1 dX10_goesHome_4 rfl rfl ?_
  refine j_iload_n (pc := 5) hX 2 dX10_goesHome_5 rfl rfl ?_
  refine j_iadd (pc := 6) hX dX10_goesHome_6 ?_
  refine j_iconst (pc := 7) (v := (3 : Int32)) hX dX10_goesHome_7 ci_3 ?_
  refine j_iast (pc := 8) hX (jb rfl) rfl rfl dX10_goesHome_8 (fun M1 => ?_)
  refine j_aload_n (pc := 9) hX 0 dX10_goesHome_9 rfl rfl ?_
  refine j_getR (pc := 10) (t := 12) hX (jb rfl) rfl (ci := 9) (C := RX10) (T := TX10) (N := 30) rfl (jb rfl) inX10 (j := 19) (jb rfl) rfl tw_939 dX10_goesHome_10 ?_
  refine j_iload_n (pc := 13) hX 1 dX10_goesHome_13 rfl rfl ?_
  refine j_bipush (pc := 14) (v := (25 : Int32)) hX dX10_goesHome_14 cb_25 ?_
  refine j_iadd (pc := 16) hX dX10_goesHome_16 ?_
  refine j_iload_n (pc := 17) hX 2 dX10_goesHome_17 rfl rfl ?_
  refine j_iadd (pc := 18) hX dX10_goesHome_18 ?_
  refine j_bipush (pc := 19) (v := (-4 : Int32)) hX dX10_goesHome_19 cb_m4 ?_
  refine j_iast (pc := 21) hX (jb rfl) rfl rfl dX10_goesHome_21 (fun M2 => ?_)
  refine j_aload_n (pc := 22) hX 0 dX10_goesHome_22 rfl rfl ?_
  refine j_getR (pc := 23) (t := 12) hX (jb rfl) rfl (ci := 9) (C := RX10) (T := TX10) (N := 30) rfl (jb rfl) inX10 (j := 19) (jb rfl) rfl tw_939 dX10_goesHome_23 ?_
  refine j_iload_n (pc := 26) hX 1 dX10_goesHome_26 rfl rfl ?_
  refine j_bipush (pc := 27) (v := (20 : Int32)) hX dX10_goesHome_27 cb_20 ?_
  refine j_iadd (pc := 29) hX dX10_goesHome_29 ?_
  refine j_iload_n (pc := 30) hX 2 dX10_goesHome_30 rfl rfl ?_
  refine j_iadd (pc := 31) hX dX10_goesHome_31 ?_
  refine j_iconst (pc := 32) (v := (0 : Int32)) hX dX10_goesHome_32 ci_0 ?_
  refine j_iast (pc := 33) hX (jb rfl) rfl rfl dX10_goesHome_33 (fun M3 => ?_)
  exact j_vret (pc := 34) hX rfl dX10_goesHome_34
theorem mX10_goesHome (l : Launch) (E : jE) (hI : jInj (gM E)) (fu : Nat)  (x1 : Int32) (x2 : Int32) (M : Mem) : jMet l (gM E) yX10_goesHome cX10_goesHome 3 none rX10_goesHome [.ref (gad (gM E) 0), .int x1, .int x2] M (pX10_goesHome fu  x1 x2 M) :=
  j_entry hI (by decide +kernel) (Nat.le_of_ble_eq_true rfl) rfl (fun X _ hX => wX10_goesHome hX fu   x1 x2 M)
theorem qX10_home : jYv yX10_home cX10_home 3 (some .int) 1 := ⟨tw_1164, tw_1165, tw_72, tw_1166, ⟨by decide +kernel, by decide +kernel, by decide +kernel⟩⟩
abbrev rX10_home : Room := { frames := 3, cells := 0, slots := 0, locals := 70 }
def uX10_home : jM := (cX10_home, 3, RX10, (some .int), rX10_home)
def pX10_home (fu : Nat) (x1 : Int32) (M : Mem) : Res :=
  bI (pX10_isBeast fu x1 M) fun r2 M1 =>
  if r2 = 0 then (
    some ((-1 : Int32), M1))
  else
  ld M1 12 768 x1 fun v3 =>
  if v3 = (2 : Int32) then (
    bV (pX10_known fu  M1) fun M4 =>
    bI (pX10_read fu (0 : Int32) x1 M4) fun r6 M5 =>
    bV (pX10_goesHome fu (0 : Int32) x1 M5) fun M7 =>
    some (r6, M7))
  else
  some ((-2 : Int32), M1)
set_option maxRecDepth 100000 in
theorem wX10_home {E : jE} {X : jC} (hX : jOk X uX10_home (gM E)) (fu : Nat)  (x1 : Int32) (M : Mem) : J X uX10_home (gM E) 0 [(0, .ref (gad (gM E) 0)), (1, .int x1)] [] M (pX10_home fu  x1 M) := by
  unfold pX10_home
  refine j_aload_n (pc := 0) hX 0 dX10_home_0 rfl rfl ?_
  refine j_iload_n (pc := 1) hX 1 dX10_home_1 rfl rfl ?_
  refine j_callV (pc := 2) hX [.int x1] (mX10_isBeast _ E hX.2.2.2.2.2.2.2.2.1 fu   x1 M) qX10_isBeast tw_1095 (jb rfl) rfl (ci := 9) (T := TX10) (N := 30) rfl (jb rfl) rfl ⟨rfl, rfl⟩ ⟨(Nat.le_of_ble_eq_true rfl), (Nat.le_of_ble_eq_true rfl)⟩ (Nat.le_of_ble_eq_true rfl) dX10_home_2 (fun _ => rfl) rfl (fun r2 M1 => ?_)
  refine j_if_ne (pc := 5) hX 10 dX10_home_5 (by decide) ?_ ?_
  · refine j_aload_n (pc := 10) hX 0 dX10_home_10 rfl rfl ?_
    refine j_getR (pc := 11) (t := 12) hX (jb rfl) rfl (ci := 9) (C := RX10) (T := TX10) (N := 30) rfl (jb rfl) inX10 (j := 19) (jb rfl) rfl tw_939 dX10_home_11 ?_
    refine j_iload_n (pc := 14) hX 1 dX10_home_14 rfl rfl ?_
    refine j_iald (pc := 15) hX (jb rfl) rfl rfl dX10_home_15 (fun v3 => ?_)
    refine j_iconst (pc := 16) (v := (2 : Int32)) hX dX10_home_16 ci_2 ?_
    refine j_icmp_eq (pc := 17) hX 23 dX10_home_17 (by decide) ?_ ?_
    · refine j_aload_n (pc := 23) hX 0 dX10_home_23 rfl rfl ?_
      refine j_callVv (pc := 24) hX [] (mX10_known _ E hX.2.2.2.2.2.2.2.2.1 fu    M1) qX10_known tw_1123 (jb rfl) rfl (ci := 9) (T := TX10) (N := 30) rfl (jb rfl) rfl ⟨rfl, rfl⟩ ⟨(Nat.le_of_ble_eq_true rfl), (Nat.le_of_ble_eq_true rfl)⟩ (Nat.le_of_ble_eq_true rfl) dX10_home_24 rfl (fun M4 => ?_)
      refine j_aload_n (pc := 27) hX 0 dX10_home_27 rfl rfl ?_
      refine j_iconst (pc := 28) (v := (0 : Int32)) hX dX10_home_28 ci_0 ?_
      refine j_iload_n (pc := 29) hX 1 dX10_home_29 rfl rfl ?_
      refine j_callV (pc := 30) hX [.int (0 : Int32), .int x1] (mX10_read _ E hX.2.2.2.2.2.2.2.2.1 fu   (0 : Int32) x1 M4) qX10_read tw_1167 (jb rfl) rfl (ci := 9) (T := TX10) (N := 30) rfl (jb rfl) rfl ⟨rfl, rfl⟩ ⟨(Nat.le_of_ble_eq_true rfl), (Nat.le_of_ble_eq_true rfl)⟩ (Nat.le_of_ble_eq_true rfl) dX10_home_30 (fun _ => rfl) rfl (fun r6 M5 => ?_)
      refine j_istore_n (pc := 33) (lv' := [(2, .int r6), (0, .ref (gad (gM E) 0)), (1, .int x1)]) hX dX10_home_33 rfl (jb rfl) rfl ?_
      refine j_aload_n (pc := 34) hX 1 dX10_home_34 rfl rfl ?_
      refine j_iconst (pc := 35) (v := (0 : Int32)) hX dX10_home_35 ci_0 ?_
      refine j_iload_n (pc := 36) hX 2 dX10_home_36 rfl rfl ?_
      refine j_callVv (pc := 37) hX [.int (0 : Int32), .int x1] (mX10_goesHome _ E hX.2.2.2.2.2.2.2.2.1 fu   (0 : Int32) x1 M5) qX10_goesHome tw_1171 (jb rfl) rfl (ci := 9) (T := TX10) (N := 30) rfl (jb rfl) rfl ⟨rfl, rfl⟩ ⟨(Nat.le_of_ble_eq_true rfl), (Nat.le_of_ble_eq_true rfl)⟩ (Nat.le_of_ble_eq_true rfl) dX10_home_37 rfl (fun M7 => ?_)
      refine j_iload_n (pc := 40) hX 0 dX10_home_40 rfl rfl ?_
      exact j_iret (pc := 41) hX rfl dX10_home_41
    · refine j_bipush (pc := 20) (v := (-2 : Int32)) hX dX10_home_20 cb_m2 ?_
      exact j_iret (pc := 22) hX rfl dX10_home_22
  · refine j_iconst (pc := 8) (v := (-1 : Int32)) hX dX10_home_8 ci_m1 ?_
    exact j_iret (pc := 9) hX rfl dX10_home_9
theorem mX10_home (l : Launch) (E : jE) (hI : jInj (gM E)) (fu : Nat)  (x1 : Int32) (M : Mem) : jMet l (gM E) yX10_home cX10_home 3 (some .int) rX10_home [.ref (gad (gM E) 0), .int x1] M (pX10_home fu  x1 M) :=
  j_entry hI (by decide +kernel) (Nat.le_of_ble_eq_true rfl) rfl (fun X _ hX => wX10_home hX fu   x1 M)
theorem qX10_carrots : jYv yX10_carrots cX10_carrots 4 (some .int) 2 := ⟨tw_1176, tw_1177, tw_72, tw_1178, ⟨by decide +kernel, by decide +kernel, by decide +kernel⟩⟩
abbrev rX10_carrots : Room := { frames := 2, cells := 0, slots := 0, locals := 46 }
def uX10_carrots : jM := (cX10_carrots, 4, RX10, (some .int), rX10_carrots)
def pX10_carrots (fu : Nat) (x1 : Int32) (x2 : Int32) (M : Mem) : Res :=
  bI (pX10_isPlace fu x1 M) fun r2 M1 =>
  if r2 = 0 then (
    some ((-1 : Int32), M1))
  else
  bI (pX10_in fu (x2).toInt64 (0 : Int64) (9 : Int64) M1) fun r4 M3 =>
  if r4 = 0 then (
    some ((-1 : Int32), M3))
  else
  bV (pX10_known fu  M3) fun M5 =>
  ld M5 12 768 ((55 : Int32) + x1) fun v6 =>
  sto M5 12 768 ((55 : Int32) + x1) x2 fun M7 =>
  some (v6, M7)
set_option maxRecDepth 100000 in
theorem wX10_carrots {E : jE} {X : jC} (hX : jOk X uX10_carrots (gM E)) (fu : Nat)  (x1 : Int32) (x2 : Int32) (M : Mem) : J X uX10_carrots (gM E) 0 [(0, .ref (gad (gM E) 0)), (1, .int x1), (2, .int x2)] [] M (pX10_carrots fu  x1 x2 M) := by
  unfold pX10_carrots
  refine j_aload_n (pc := 0) hX 0 dX10_carrots_0 rfl rfl ?_
  refine j_iload_n (pc := 1) hX 1 dX10_carrots_1 rfl rfl ?_
  refine j_callV (pc := 2) hX [.int x1] (mX10_isPlace _ E hX.2.2.2.2.2.2.2.2.1 fu   x1 M) qX10_isPlace tw_1070 (jb rfl) rfl (ci := 9) (T := TX10) (N := 30) rfl (jb rfl) rfl ⟨rfl, rfl⟩ ⟨(Nat.le_of_ble_eq_true rfl), (Nat.le_of_ble_eq_true rfl)⟩ (Nat.le_of_ble_eq_true rfl) dX10_carrots_2 (fun _ => rfl) rfl (fun r2 M1 => ?_)
  refine j_if_eq (pc := 5) hX 20 dX10_carrots_5 (by decide) ?_ ?_
  · refine j_iconst (pc := 20) (v := (-1 : Int32)) hX dX10_carrots_20 ci_m1 ?_
    exact j_iret (pc := 21) hX rfl dX10_carrots_21
  · refine j_iload_n (pc := 8) hX 2 dX10_carrots_8 rfl rfl ?_
    refine j_i2l (pc := 9) hX dX10_carrots_9 ?_
    refine j_lconst (pc := 10) (v := (0 : Int64)) hX dX10_carrots_10 rfl ?_
    refine j_ldc2 (pc := 11) (v := (9 : Int64)) hX tw_1179 dX10_carrots_11 ?_
    refine j_callS (pc := 14) hX [.long (x2).toInt64, .long (0 : Int64), .long (9 : Int64)] (mX10_in _ E hX.2.2.2.2.2.2.2.2.1 fu   (x2).toInt64 (0 : Int64) (9 : Int64) M1) qX10_in tw_1017 rfl ⟨rfl, rfl⟩ ⟨(Nat.le_of_ble_eq_true rfl), (Nat.le_of_ble_eq_true rfl)⟩ (Nat.le_of_ble_eq_true rfl) dX10_carrots_14 (fun _ => rfl) rfl (fun r4 M3 => ?_)
    refine j_if_ne (pc := 17) hX 22 dX10_carrots_17 (by decide) ?_ ?_
    · refine j_aload_n (pc := 22) hX 0 dX10_carrots_22 rfl rfl ?_
      refine j_callVv (pc := 23) hX [] (mX10_known _ E hX.2.2.2.2.2.2.2.2.1 fu    M3) qX10_known tw_1123 (jb rfl) rfl (ci := 9) (T := TX10) (N := 30) rfl (jb rfl) rfl ⟨rfl, rfl⟩ ⟨(Nat.le_of_ble_eq_true rfl), (Nat.le_of_ble_eq_true rfl)⟩ (Nat.le_of_ble_eq_true rfl) dX10_carrots_23 rfl (fun M5 => ?_)
      refine j_aload_n (pc := 26) hX 0 dX10_carrots_26 rfl rfl ?_
      refine j_getR (pc := 27) (t := 12) hX (jb rfl) rfl (ci := 9) (C := RX10) (T := TX10) (N := 30) rfl (jb rfl) inX10 (j := 19) (jb rfl) rfl tw_939 dX10_carrots_27 ?_
      refine j_bipush (pc := 30) (v := (55 : Int32)) hX dX10_carrots_30 cb_55 ?_
      refine j_iload_n (pc := 32) hX 1 dX10_carrots_32 rfl rfl ?_
      refine j_iadd (pc := 33) hX dX10_carrots_33 ?_
      refine j_iald (pc := 34) hX (jb rfl) rfl rfl dX10_carrots_34 (fun v6 => ?_)
      refine j_istore_n (pc := 35) (lv' := [(3, .int v6), (0, .ref (gad (gM E) 0)), (1, .int x1), (2, .int x2)]) hX dX10_carrots_35 rfl (jb rfl) rfl ?_
      refine j_aload_n (pc := 36) hX 1 dX10_carrots_36 rfl rfl ?_
      refine j_getR (pc := 37) (t := 12) hX (jb rfl) rfl (ci := 9) (C := RX10) (T := TX10) (N := 30) rfl (jb rfl) inX10 (j := 19) (jb rfl) rfl tw_939 dX10_carrots_37 ?_
      refine j_bipush (pc := 40) (v := (55 : Int32)) hX dX10_carrots_40 cb_55 ?_
      refine j_iload_n (pc := 42) hX 2 dX10_carrots_42 rfl rfl ?_
      refine j_iadd (pc := 43) hX dX10_carrots_43 ?_
      refine j_iload_n (pc := 44) hX 3 dX10_carrots_44 rfl rfl ?_
      refine j_iast (pc := 45) hX (jb rfl) rfl rfl dX10_carrots_45 (fun M7 => ?_)
      refine j_iload_n (pc := 46) hX 0 dX10_carrots_46 rfl rfl ?_
      exact j_iret (pc := 47) hX rfl dX10_carrots_47
    · refine j_iconst (pc := 20) (v := (-1 : Int32)) hX dX10_carrots_20 ci_m1 ?_
      exact j_iret (pc := 21) hX rfl dX10_carrots_21
theorem mX10_carrots (l : Launch) (E : jE) (hI : jInj (gM E)) (fu : Nat)  (x1 : Int32) (x2 : Int32) (M : Mem) : jMet l (gM E) yX10_carrots cX10_carrots 4 (some .int) rX10_carrots [.ref (gad (gM E) 0), .int x1, .int x2] M (pX10_carrots fu  x1 x2 M) :=
  j_entry hI (by decide +kernel) (Nat.le_of_ble_eq_true rfl) rfl (fun X _ hX => wX10_carrots hX fu   x1 x2 M)
theorem qX10_undo : jYv yX10_undo cX10_undo 1 (some .int) 0 := ⟨tw_1181, tw_1182, tw_72, tw_1183, ⟨by decide +kernel, by decide +kernel, by decide +kernel⟩⟩
abbrev rX10_undo : Room := { frames := 1, cells := 0, slots := 0, locals := 23 }
def uX10_undo : jM := (cX10_undo, 1, RX10, (some .int), rX10_undo)
def pX10_undo (fu : Nat)  (M : Mem) : Res :=
  if (M 0 20) = 0 then (
    some ((-2 : Int32), M))
  else
  bV (pX10_copies fu ((M 0 20) * (64 : Int32)) (0 : Int32) M) fun M1 =>
  fpt M1 0 20 ((M1 0 20) - (1 : Int32)) fun M2 =>
  some ((M2 0 20), M2)
set_option maxRecDepth 100000 in
theorem wX10_undo {E : jE} {X : jC} (hX : jOk X uX10_undo (gM E)) (fu : Nat)   (M : Mem) : J X uX10_undo (gM E) 0 [(0, .ref (gad (gM E) 0))] [] M (pX10_undo fu   M) := by
  unfold pX10_undo
  refine j_aload_n (pc := 0) hX 0 dX10_undo_0 rfl rfl ?_
  refine j_getI (pc := 1) hX (jb rfl) rfl (ci := 9) (C := RX10) (T := TX10) (N := 30) rfl (jb rfl) inX10 (j := 20) (jb rfl) rfl tw_940 dX10_undo_1 ?_
  refine j_if_ne (pc := 4) hX 10 dX10_undo_4 (by decide) ?_ ?_
  · refine j_aload_n (pc := 10) hX 0 dX10_undo_10 rfl rfl ?_
    refine j_aload_n (pc := 11) hX 0 dX10_undo_11 rfl rfl ?_
    refine j_getI (pc := 12) hX (jb rfl) rfl (ci := 9) (C := RX10) (T := TX10) (N := 30) rfl (jb rfl) inX10 (j := 20) (jb rfl) rfl tw_940 dX10_undo_12 ?_
    refine j_bipush (pc := 15) (v := (64 : Int32)) hX dX10_undo_15 cb_64 ?_
    refine j_imul (pc := 17) hX dX10_undo_17 ?_
    refine j_iconst (pc := 18) (v := (0 : Int32)) hX dX10_undo_18 ci_0 ?_
    refine j_callVv (pc := 19) hX [.int ((M 0 20) * (64 : Int32)), .int (0 : Int32)] (mX10_copies _ E hX.2.2.2.2.2.2.2.2.1 fu   ((M 0 20) * (64 : Int32)) (0 : Int32) M) qX10_copies tw_916 (jb rfl) rfl (ci := 9) (T := TX10) (N := 30) rfl (jb rfl) rfl ⟨rfl, rfl⟩ ⟨(Nat.le_of_ble_eq_true rfl), (Nat.le_of_ble_eq_true rfl)⟩ (Nat.le_of_ble_eq_true rfl) dX10_undo_19 rfl (fun M1 => ?_)
    refine j_aload_n (pc := 22) hX 0 dX10_undo_22 rfl rfl ?_
    refine j_dup (pc := 23) hX dX10_undo_23 rfl ?_
    refine j_getI (pc := 24) hX (jb rfl) rfl (ci := 9) (C := RX10) (T := TX10) (N := 30) rfl (jb rfl) inX10 (j := 20) (jb rfl) rfl tw_940 dX10_undo_24 ?_
    refine j_iconst (pc := 27) (v := (1 : Int32)) hX dX10_undo_27 ci_1 ?_
    refine j_isub (pc := 28) hX dX10_undo_28 ?_
    refine j_putI (pc := 29) hX (jb rfl) rfl (ci := 9) (C := RX10) (T := TX10) (N := 30) rfl (jb rfl) inX10 tyX10 tyX10_ok nmX10 (j := 20) (jb rfl) rfl tw_940 rfl (tyX10_ok 20 (jb rfl)) dX10_undo_29 (fun M2 => ?_)
    refine j_aload_n (pc := 32) hX 0 dX10_undo_32 rfl rfl ?_
    refine j_getI (pc := 33) hX (jb rfl) rfl (ci := 9) (C := RX10) (T := TX10) (N := 30) rfl (jb rfl) inX10 (j := 20) (jb rfl) rfl tw_940 dX10_undo_33 ?_
    exact j_iret (pc := 36) hX rfl dX10_undo_36
  · refine j_bipush (pc := 7) (v := (-2 : Int32)) hX dX10_undo_7 cb_m2 ?_
    exact j_iret (pc := 9) hX rfl dX10_undo_9
theorem mX10_undo (l : Launch) (E : jE) (hI : jInj (gM E)) (fu : Nat)   (M : Mem) : jMet l (gM E) yX10_undo cX10_undo 1 (some .int) rX10_undo [.ref (gad (gM E) 0)] M (pX10_undo fu   M) :=
  j_entry hI (by decide +kernel) (Nat.le_of_ble_eq_true rfl) rfl (fun X _ hX => wX10_undo hX fu    M)
theorem qX10_standsBehind : jYv yX10_standsBehind cX10_standsBehind 3 (some .int) 1 := ⟨tw_1190, tw_48, tw_72, tw_1191, ⟨by decide +kernel, by decide +kernel, by decide +kernel⟩⟩
abbrev rX10_standsBehind : Room := { frames := 4, cells := 0, slots := 0, locals := 93 }
def uX10_standsBehind : jM := (cX10_standsBehind, 3, RX10, (some .int), rX10_standsBehind)
def pX10_standsBehind_2b (fu : Nat) (x1 : Int32) (x2 : Int32) (M : Mem) (c2 : Int32 → Int32 → Mem → Res) : Res :=
  if (99 : Int32) < x2 then (
    some ((-4 : Int32), M))
  else
  ld M 12 768 ((704 : Int32) + x1) fun v1 =>
  if v1 = (2 : Int32) then (
    some (x2, M))
  else
  bV (pX10_hour fu (704 : Int32) (-1 : Int32) M) fun M2 =>
  c2 x1 (x2 + (1 : Int32)) M2
set_option maxRecDepth 100000 in
theorem wX10_standsBehind_2b {E : jE} {X : jC} (hX : jOk X uX10_standsBehind (gM E)) (fu : Nat)  (x1 : Int32) (x2 : Int32) (M : Mem) (c2 : Int32 → Int32 → Mem → Res) (hc2 : ∀ (x1 : Int32) (x2 : Int32) (M : Mem), J X uX10_standsBehind (gM E) 2 [(0, .ref (gad (gM E) 0)), (1, .int x1), (2, .int x2)] [] M (c2 x1 x2 M)) : J X uX10_standsBehind (gM E) 2 [(0, .ref (gad (gM E) 0)), (1, .int x1), (2, .int x2)] [] M (pX10_standsBehind_2b fu  x1 x2 M c2) := by
  unfold pX10_standsBehind_2b
  refine j_iload_n (pc := 2) hX 2 dX10_standsBehind_2 rfl rfl ?_
  refine j_bipush (pc := 3) (v := (99 : Int32)) hX dX10_standsBehind_3 cb_99 ?_
  refine j_icmp_gt (pc := 5) hX 38 dX10_standsBehind_5 (by decide) ?_ ?_
  · refine j_bipush (pc := 38) (v := (-4 : Int32)) hX dX10_standsBehind_38 cb_m4 ?_
    exact j_iret (pc := 40) hX rfl dX10_standsBehind_40
  · refine j_aload_n (pc := 8) hX 0 dX10_standsBehind_8 rfl rfl ?_
    refine j_getR (pc := 9) (t := 12) hX (jb rfl) rfl (ci := 9) (C := RX10) (T := TX10) (N := 30) rfl (jb rfl) inX10 (j := 19) (jb rfl) rfl tw_939 dX10_standsBehind_9 ?_
    refine j_sipush (pc := 12) (v := (704 : Int32)) hX dX10_standsBehind_12 cs_704 ?_
    refine j_iload_n (pc := 15) hX 1 dX10_standsBehind_15 rfl rfl ?_
    refine j_iadd (pc := 16) hX dX10_standsBehind_16 ?_
    refine j_iald (pc := 17) hX (jb rfl) rfl rfl dX10_standsBehind_17 (fun v1 => ?_)
    refine j_iconst (pc := 18) (v := (2 : Int32)) hX dX10_standsBehind_18 ci_2 ?_
    refine j_icmp_ne (pc := 19) hX 24 dX10_standsBehind_19 (by decide) ?_ ?_
    · refine j_aload_n (pc := 24) hX 0 dX10_standsBehind_24 rfl rfl ?_
      refine j_sipush (pc := 25) (v := (704 : Int32)) hX dX10_standsBehind_25 cs_704 ?_
      refine j_iconst (pc := 28) (v := (-1 : Int32)) hX dX10_standsBehind_28 ci_m1 ?_
      refine j_callVv (pc := 29) hX [.int (704 : Int32), .int (-1 : Int32)] (mX10_hour _ E hX.2.2.2.2.2.2.2.2.1 fu   (704 : Int32) (-1 : Int32) M) qX10_hour tw_1136 (jb rfl) rfl (ci := 9) (T := TX10) (N := 30) rfl (jb rfl) rfl ⟨rfl, rfl⟩ ⟨(Nat.le_of_ble_eq_true rfl), (Nat.le_of_ble_eq_true rfl)⟩ (Nat.le_of_ble_eq_true rfl) dX10_standsBehind_29 rfl (fun M2 => ?_)
      refine j_iinc (pc := 32) (v := (x2 + (1 : Int32))) (lv' := [(2, .int (x2 + (1 : Int32))), (0, .ref (gad (gM E) 0)), (1, .int x1)]) hX 2 dX10_standsBehind_32 rfl (by rw [ci_1]) (jb rfl) rfl ?_
      refine j_goto (pc := 35) hX 2 dX10_standsBehind_35 (by decide) ?_
      exact j_sub [1, 2, 0] rfl (hc2 x1 (x2 + (1 : Int32)) M2)
    · refine j_iload_n (pc := 22) hX 2 dX10_standsBehind_22 rfl rfl ?_
      exact j_iret (pc := 23) hX rfl dX10_standsBehind_23
def pX10_standsBehind_2 (fu : Nat)  : Nat → Int32 → Int32 → Mem → Res
  | 0, _, _, _ => none
  | n + 1, x1, x2, M => pX10_standsBehind_2b fu  x1 x2 M (pX10_standsBehind_2 fu   n)
theorem wX10_standsBehind_2 {E : jE} {X : jC} (hX : jOk X uX10_standsBehind (gM E)) (fu : Nat)    : ∀ (n : Nat) (x1 : Int32) (x2 : Int32) (M : Mem), J X uX10_standsBehind (gM E) 2 [(0, .ref (gad (gM E) 0)), (1, .int x1), (2, .int x2)] [] M (pX10_standsBehind_2 fu   n x1 x2 M) := by
  intro n
  induction n with
  | zero => intro x1 x2 M; exact j_none
  | succ n ih => intro x1 x2 M; exact wX10_standsBehind_2b hX fu   x1 x2 M (pX10_standsBehind_2 fu   n) ih
def pX10_standsBehind (fu : Nat) (x1 : Int32) (M : Mem) : Res :=
  pX10_standsBehind_2 fu
    fu x1 (0 : Int32) M
set_option maxRecDepth 100000 in
theorem wX10_standsBehind {E : jE} {X : jC} (hX : jOk X uX10_standsBehind (gM E)) (fu : Nat)  (x1 : Int32) (M : Mem) : J X uX10_standsBehind (gM E) 0 [(0, .ref (gad (gM E) 0)), (1, .int x1)] [] M (pX10_standsBehind fu  x1 M) := by
  unfold pX10_standsBehind
  refine j_iconst (pc := 0) (v := (0 : Int32)) hX dX10_standsBehind_0 ci_0 ?_
  refine j_istore_n (pc := 1) (lv' := [(2, .int (0 : Int32)), (0, .ref (gad (gM E) 0)), (1, .int x1)]) hX dX10_standsBehind_1 rfl (jb rfl) rfl ?_
  refine j_sub [1, 2, 0] rfl (wX10_standsBehind_2 hX fu     fu x1 (0 : Int32) M)
theorem mX10_standsBehind (l : Launch) (E : jE) (hI : jInj (gM E)) (fu : Nat)  (x1 : Int32) (M : Mem) : jMet l (gM E) yX10_standsBehind cX10_standsBehind 3 (some .int) rX10_standsBehind [.ref (gad (gM E) 0), .int x1] M (pX10_standsBehind fu  x1 M) :=
  j_entry hI (by decide +kernel) (Nat.le_of_ble_eq_true rfl) rfl (fun X _ hX => wX10_standsBehind hX fu   x1 M)
theorem qX10_arrives : jYv yX10_arrives cX10_arrives 2 (some .int) 1 := ⟨tw_1185, tw_1186, tw_72, tw_1187, ⟨by decide +kernel, by decide +kernel, by decide +kernel⟩⟩
abbrev rX10_arrives : Room := { frames := 5, cells := 0, slots := 0, locals := 115 }
def uX10_arrives : jM := (cX10_arrives, 2, RX10, (some .int), rX10_arrives)
def pX10_arrives (fu : Nat) (x1 : Int32) (M : Mem) : Res :=
  bI (pX10_isBeast fu x1 M) fun r2 M1 =>
  if r2 = 0 then (
    some ((-1 : Int32), M1))
  else
  bV (pX10_copies fu (0 : Int32) (704 : Int32) M1) fun M3 =>
  bI (pX10_isOut fu x1 M3) fun r5 M4 =>
  if r5 = 0 then (
    some ((-2 : Int32), M4))
  else
  bI (pX10_standsBehind fu x1 M4) fun r7 M6 =>
  some (r7, M6)
set_option maxRecDepth 100000 in
theorem wX10_arrives {E : jE} {X : jC} (hX : jOk X uX10_arrives (gM E)) (fu : Nat)  (x1 : Int32) (M : Mem) : J X uX10_arrives (gM E) 0 [(0, .ref (gad (gM E) 0)), (1, .int x1)] [] M (pX10_arrives fu  x1 M) := by
  unfold pX10_arrives
  refine j_aload_n (pc := 0) hX 0 dX10_arrives_0 rfl rfl ?_
  refine j_iload_n (pc := 1) hX 1 dX10_arrives_1 rfl rfl ?_
  refine j_callV (pc := 2) hX [.int x1] (mX10_isBeast _ E hX.2.2.2.2.2.2.2.2.1 fu   x1 M) qX10_isBeast tw_1095 (jb rfl) rfl (ci := 9) (T := TX10) (N := 30) rfl (jb rfl) rfl ⟨rfl, rfl⟩ ⟨(Nat.le_of_ble_eq_true rfl), (Nat.le_of_ble_eq_true rfl)⟩ (Nat.le_of_ble_eq_true rfl) dX10_arrives_2 (fun _ => rfl) rfl (fun r2 M1 => ?_)
  refine j_if_ne (pc := 5) hX 10 dX10_arrives_5 (by decide) ?_ ?_
  · refine j_aload_n (pc := 10) hX 0 dX10_arrives_10 rfl rfl ?_
    refine j_iconst (pc := 11) (v := (0 : Int32)) hX dX10_arrives_11 ci_0 ?_
    refine j_sipush (pc := 12) (v := (704 : Int32)) hX dX10_arrives_12 cs_704 ?_
    refine j_callVv (pc := 15) hX [.int (0 : Int32), .int (704 : Int32)] (mX10_copies _ E hX.2.2.2.2.2.2.2.2.1 fu   (0 : Int32) (704 : Int32) M1) qX10_copies tw_916 (jb rfl) rfl (ci := 9) (T := TX10) (N := 30) rfl (jb rfl) rfl ⟨rfl, rfl⟩ ⟨(Nat.le_of_ble_eq_true rfl), (Nat.le_of_ble_eq_true rfl)⟩ (Nat.le_of_ble_eq_true rfl) dX10_arrives_15 rfl (fun M3 => ?_)
    refine j_aload_n (pc := 18) hX 0 dX10_arrives_18 rfl rfl ?_
    refine j_iload_n (pc := 19) hX 1 dX10_arrives_19 rfl rfl ?_
    refine j_callV (pc := 20) hX [.int x1] (mX10_isOut _ E hX.2.2.2.2.2.2.2.2.1 fu   x1 M3) qX10_isOut tw_1104 (jb rfl) rfl (ci := 9) (T := TX10) (N := 30) rfl (jb rfl) rfl ⟨rfl, rfl⟩ ⟨(Nat.le_of_ble_eq_true rfl), (Nat.le_of_ble_eq_true rfl)⟩ (Nat.le_of_ble_eq_true rfl) dX10_arrives_20 (fun _ => rfl) rfl (fun r5 M4 => ?_)
    refine j_if_eq (pc := 23) hX 34 dX10_arrives_23 (by decide) ?_ ?_
    · refine j_bipush (pc := 34) (v := (-2 : Int32)) hX dX10_arrives_34 cb_m2 ?_
      exact j_iret (pc := 36) hX rfl dX10_arrives_36
    · refine j_aload_n (pc := 26) hX 0 dX10_arrives_26 rfl rfl ?_
      refine j_iload_n (pc := 27) hX 1 dX10_arrives_27 rfl rfl ?_
      refine j_callV (pc := 28) hX [.int x1] (mX10_standsBehind _ E hX.2.2.2.2.2.2.2.2.1 fu   x1 M4) qX10_standsBehind tw_1188 (jb rfl) rfl (ci := 9) (T := TX10) (N := 30) rfl (jb rfl) rfl ⟨rfl, rfl⟩ ⟨(Nat.le_of_ble_eq_true rfl), (Nat.le_of_ble_eq_true rfl)⟩ (Nat.le_of_ble_eq_true rfl) dX10_arrives_28 (fun _ => rfl) rfl (fun r7 M6 => ?_)
      refine j_goto (pc := 31) hX 36 dX10_arrives_31 (by decide) ?_
      exact j_iret (pc := 36) hX rfl dX10_arrives_36
  · refine j_iconst (pc := 8) (v := (-1 : Int32)) hX dX10_arrives_8 ci_m1 ?_
    exact j_iret (pc := 9) hX rfl dX10_arrives_9
theorem mX10_arrives (l : Launch) (E : jE) (hI : jInj (gM E)) (fu : Nat)  (x1 : Int32) (M : Mem) : jMet l (gM E) yX10_arrives cX10_arrives 2 (some .int) rX10_arrives [.ref (gad (gM E) 0), .int x1] M (pX10_arrives fu  x1 M) :=
  j_entry hI (by decide +kernel) (Nat.le_of_ble_eq_true rfl) rfl (fun X _ hX => wX10_arrives hX fu   x1 M)
theorem qX10_readThen : jYv yX10_readThen cX10_readThen 2 (some .int) 1 := ⟨tw_1198, tw_49, tw_72, tw_1199, ⟨by decide +kernel, by decide +kernel, by decide +kernel⟩⟩
abbrev rX10_readThen : Room := { frames := 5, cells := 0, slots := 0, locals := 115 }
def uX10_readThen : jM := (cX10_readThen, 2, RX10, (some .int), rX10_readThen)
def pX10_readThen (fu : Nat) (x1 : Int32) (M : Mem) : Res :=
  bI (pX10_standsBehind fu x1 M) fun r2 M1 =>
  if 0 ≤ r2 then (
    bI (pX10_read fu (704 : Int32) x1 M1) fun r4 M3 =>
    some (r4, M3))
  else
  some ((-4 : Int32), M1)
set_option maxRecDepth 100000 in
theorem wX10_readThen {E : jE} {X : jC} (hX : jOk X uX10_readThen (gM E)) (fu : Nat)  (x1 : Int32) (M : Mem) : J X uX10_readThen (gM E) 0 [(0, .ref (gad (gM E) 0)), (1, .int x1)] [] M (pX10_readThen fu  x1 M) := by
  unfold pX10_readThen
  refine j_aload_n (pc := 0) hX 0 dX10_readThen_0 rfl rfl ?_
  refine j_iload_n (pc := 1) hX 1 dX10_readThen_1 rfl rfl ?_
  refine j_callV (pc := 2) hX [.int x1] (mX10_standsBehind _ E hX.2.2.2.2.2.2.2.2.1 fu   x1 M) qX10_standsBehind tw_1188 (jb rfl) rfl (ci := 9) (T := TX10) (N := 30) rfl (jb rfl) rfl ⟨rfl, rfl⟩ ⟨(Nat.le_of_ble_eq_true rfl), (Nat.le_of_ble_eq_true rfl)⟩ (Nat.le_of_ble_eq_true rfl) dX10_readThen_2 (fun _ => rfl) rfl (fun r2 M1 => ?_)
  refine j_if_ge (pc := 5) hX 13 dX10_readThen_5 (by decide) ?_ ?_
  · refine j_aload_n (pc := 13) hX 0 dX10_readThen_13 rfl rfl ?_
    refine j_sipush (pc := 14) (v := (704 : Int32)) hX dX10_readThen_14 cs_704 ?_
    refine j_iload_n (pc := 17) hX 1 dX10_readThen_17 rfl rfl ?_
    refine j_callV (pc := 18) hX [.int (704 : Int32), .int x1] (mX10_read _ E hX.2.2.2.2.2.2.2.2.1 fu   (704 : Int32) x1 M1) qX10_read tw_1167 (jb rfl) rfl (ci := 9) (T := TX10) (N := 30) rfl (jb rfl) rfl ⟨rfl, rfl⟩ ⟨(Nat.le_of_ble_eq_true rfl), (Nat.le_of_ble_eq_true rfl)⟩ (Nat.le_of_ble_eq_true rfl) dX10_readThen_18 (fun _ => rfl) rfl (fun r4 M3 => ?_)
    exact j_iret (pc := 21) hX rfl dX10_readThen_21
  · refine j_bipush (pc := 8) (v := (-4 : Int32)) hX dX10_readThen_8 cb_m4 ?_
    refine j_goto (pc := 10) hX 21 dX10_readThen_10 (by decide) ?_
    exact j_iret (pc := 21) hX rfl dX10_readThen_21
theorem mX10_readThen (l : Launch) (E : jE) (hI : jInj (gM E)) (fu : Nat)  (x1 : Int32) (M : Mem) : jMet l (gM E) yX10_readThen cX10_readThen 2 (some .int) rX10_readThen [.ref (gad (gM E) 0), .int x1] M (pX10_readThen fu  x1 M) :=
  j_entry hI (by decide +kernel) (Nat.le_of_ble_eq_true rfl) rfl (fun X _ hX => wX10_readThen hX fu   x1 M)
theorem qX10_reading : jYv yX10_reading cX10_reading 2 (some .int) 1 := ⟨tw_1193, tw_1194, tw_72, tw_1195, ⟨by decide +kernel, by decide +kernel, by decide +kernel⟩⟩
abbrev rX10_reading : Room := { frames := 6, cells := 0, slots := 0, locals := 136 }
def uX10_reading : jM := (cX10_reading, 2, RX10, (some .int), rX10_reading)
def pX10_reading (fu : Nat) (x1 : Int32) (M : Mem) : Res :=
  bI (pX10_isBeast fu x1 M) fun r2 M1 =>
  if r2 = 0 then (
    some ((-1 : Int32), M1))
  else
  bV (pX10_copies fu (0 : Int32) (704 : Int32) M1) fun M3 =>
  bI (pX10_isOut fu x1 M3) fun r5 M4 =>
  if r5 = 0 then (
    some ((-2 : Int32), M4))
  else
  bI (pX10_readThen fu x1 M4) fun r7 M6 =>
  some (r7, M6)
set_option maxRecDepth 100000 in
theorem wX10_reading {E : jE} {X : jC} (hX : jOk X uX10_reading (gM E)) (fu : Nat)  (x1 : Int32) (M : Mem) : J X uX10_reading (gM E) 0 [(0, .ref (gad (gM E) 0)), (1, .int x1)] [] M (pX10_reading fu  x1 M) := by
  unfold pX10_reading
  refine j_aload_n (pc := 0) hX 0 dX10_reading_0 rfl rfl ?_
  refine j_iload_n (pc := 1) hX 1 dX10_reading_1 rfl rfl ?_
  refine j_callV (pc := 2) hX [.int x1] (mX10_isBeast _ E hX.2.2.2.2.2.2.2.2.1 fu   x1 M) qX10_isBeast tw_1095 (jb rfl) rfl (ci := 9) (T := TX10) (N := 30) rfl (jb rfl) rfl ⟨rfl, rfl⟩ ⟨(Nat.le_of_ble_eq_true rfl), (Nat.le_of_ble_eq_true rfl)⟩ (Nat.le_of_ble_eq_true rfl) dX10_reading_2 (fun _ => rfl) rfl (fun r2 M1 => ?_)
  refine j_if_ne (pc := 5) hX 10 dX10_reading_5 (by decide) ?_ ?_
  · refine j_aload_n (pc := 10) hX 0 dX10_reading_10 rfl rfl ?_
    refine j_iconst (pc := 11) (v := (0 : Int32)) hX dX10_reading_11 ci_0 ?_
    refine j_sipush (pc := 12) (v := (704 : Int32)) hX dX10_reading_12 cs_704 ?_
    refine j_callVv (pc := 15) hX [.int (0 : Int32), .int (704 : Int32)] (mX10_copies _ E hX.2.2.2.2.2.2.2.2.1 fu   (0 : Int32) (704 : Int32) M1) qX10_copies tw_916 (jb rfl) rfl (ci := 9) (T := TX10) (N := 30) rfl (jb rfl) rfl ⟨rfl, rfl⟩ ⟨(Nat.le_of_ble_eq_true rfl), (Nat.le_of_ble_eq_true rfl)⟩ (Nat.le_of_ble_eq_true rfl) dX10_reading_15 rfl (fun M3 => ?_)
    refine j_aload_n (pc := 18) hX 0 dX10_reading_18 rfl rfl ?_
    refine j_iload_n (pc := 19) hX 1 dX10_reading_19 rfl rfl ?_
    refine j_callV (pc := 20) hX [.int x1] (mX10_isOut _ E hX.2.2.2.2.2.2.2.2.1 fu   x1 M3) qX10_isOut tw_1104 (jb rfl) rfl (ci := 9) (T := TX10) (N := 30) rfl (jb rfl) rfl ⟨rfl, rfl⟩ ⟨(Nat.le_of_ble_eq_true rfl), (Nat.le_of_ble_eq_true rfl)⟩ (Nat.le_of_ble_eq_true rfl) dX10_reading_20 (fun _ => rfl) rfl (fun r5 M4 => ?_)
    refine j_if_eq (pc := 23) hX 34 dX10_reading_23 (by decide) ?_ ?_
    · refine j_bipush (pc := 34) (v := (-2 : Int32)) hX dX10_reading_34 cb_m2 ?_
      exact j_iret (pc := 36) hX rfl dX10_reading_36
    · refine j_aload_n (pc := 26) hX 0 dX10_reading_26 rfl rfl ?_
      refine j_iload_n (pc := 27) hX 1 dX10_reading_27 rfl rfl ?_
      refine j_callV (pc := 28) hX [.int x1] (mX10_readThen _ E hX.2.2.2.2.2.2.2.2.1 fu   x1 M4) qX10_readThen tw_1196 (jb rfl) rfl (ci := 9) (T := TX10) (N := 30) rfl (jb rfl) rfl ⟨rfl, rfl⟩ ⟨(Nat.le_of_ble_eq_true rfl), (Nat.le_of_ble_eq_true rfl)⟩ (Nat.le_of_ble_eq_true rfl) dX10_reading_28 (fun _ => rfl) rfl (fun r7 M6 => ?_)
      refine j_goto (pc := 31) hX 36 dX10_reading_31 (by decide) ?_
      exact j_iret (pc := 36) hX rfl dX10_reading_36
  · refine j_iconst (pc := 8) (v := (-1 : Int32)) hX dX10_reading_8 ci_m1 ?_
    exact j_iret (pc := 9) hX rfl dX10_reading_9
theorem mX10_reading (l : Launch) (E : jE) (hI : jInj (gM E)) (fu : Nat)  (x1 : Int32) (M : Mem) : jMet l (gM E) yX10_reading cX10_reading 2 (some .int) rX10_reading [.ref (gad (gM E) 0), .int x1] M (pX10_reading fu  x1 M) :=
  j_entry hI (by decide +kernel) (Nat.le_of_ble_eq_true rfl) rfl (fun X _ hX => wX10_reading hX fu   x1 M)
theorem qX10_readSent : jYv yX10_readSent cX10_readSent 4 (some .int) 3 := ⟨tw_1206, tw_50, tw_72, tw_1207, ⟨by decide +kernel, by decide +kernel, by decide +kernel⟩⟩
abbrev rX10_readSent : Room := { frames := 6, cells := 0, slots := 0, locals := 136 }
def uX10_readSent : jM := (cX10_readSent, 4, RX10, (some .int), rX10_readSent)
def pX10_readSent (fu : Nat) (x1 : Int32) (x2 : Int32) (x3 : Int32) (M : Mem) : Res :=
  bI (pX10_canSend fu (0 : Int32) x1 x3 M) fun r2 M1 =>
  if r2 = 0 then (
    some ((-4 : Int32), M1))
  else
  bV (pX10_copies fu (0 : Int32) (704 : Int32) M1) fun M3 =>
  bV (pX10_sends fu (704 : Int32) x1 x2 x3 M3) fun M4 =>
  bI (pX10_readThen fu x1 M4) fun r6 M5 =>
  some (r6, M5)
set_option maxRecDepth 100000 in
theorem wX10_readSent {E : jE} {X : jC} (hX : jOk X uX10_readSent (gM E)) (fu : Nat)  (x1 : Int32) (x2 : Int32) (x3 : Int32) (M : Mem) : J X uX10_readSent (gM E) 0 [(0, .ref (gad (gM E) 0)), (1, .int x1), (2, .int x2), (3, .int x3)] [] M (pX10_readSent fu  x1 x2 x3 M) := by
  unfold pX10_readSent
  refine j_aload_n (pc := 0) hX 0 dX10_readSent_0 rfl rfl ?_
  refine j_iconst (pc := 1) (v := (0 : Int32)) hX dX10_readSent_1 ci_0 ?_
  refine j_iload_n (pc := 2) hX 1 dX10_readSent_2 rfl rfl ?_
  refine j_iload_n (pc := 3) hX 3 dX10_readSent_3 rfl rfl ?_
  refine j_callV (pc := 4) hX [.int (0 : Int32), .int x1, .int x3] (mX10_canSend _ E hX.2.2.2.2.2.2.2.2.1 fu   (0 : Int32) x1 x3 M) qX10_canSend tw_1119 (jb rfl) rfl (ci := 9) (T := TX10) (N := 30) rfl (jb rfl) rfl ⟨rfl, rfl⟩ ⟨(Nat.le_of_ble_eq_true rfl), (Nat.le_of_ble_eq_true rfl)⟩ (Nat.le_of_ble_eq_true rfl) dX10_readSent_4 (fun _ => rfl) rfl (fun r2 M1 => ?_)
  refine j_if_ne (pc := 7) hX 13 dX10_readSent_7 (by decide) ?_ ?_
  · refine j_aload_n (pc := 13) hX 0 dX10_readSent_13 rfl rfl ?_
    refine j_iconst (pc := 14) (v := (0 : Int32)) hX dX10_readSent_14 ci_0 ?_
    refine j_sipush (pc := 15) (v := (704 : Int32)) hX dX10_readSent_15 cs_704 ?_
    refine j_callVv (pc := 18) hX [.int (0 : Int32), .int (704 : Int32)] (mX10_copies _ E hX.2.2.2.2.2.2.2.2.1 fu   (0 : Int32) (704 : Int32) M1) qX10_copies tw_916 (jb rfl) rfl (ci := 9) (T := TX10) (N := 30) rfl (jb rfl) rfl ⟨rfl, rfl⟩ ⟨(Nat.le_of_ble_eq_true rfl), (Nat.le_of_ble_eq_true rfl)⟩ (Nat.le_of_ble_eq_true rfl) dX10_readSent_18 rfl (fun M3 => ?_)
    refine j_aload_n (pc := 21) hX 0 dX10_readSent_21 rfl rfl ?_
    refine j_sipush (pc := 22) (v := (704 : Int32)) hX dX10_readSent_22 cs_704 ?_
    refine j_iload_n (pc := 25) hX 1 dX10_readSent_25 rfl rfl ?_
    refine j_iload_n (pc := 26) hX 2 dX10_readSent_26 rfl rfl ?_
    refine j_iload_n (pc := 27) hX 3 dX10_readSent_27 rfl rfl ?_
    refine j_callVv (pc := 28) hX [.int (704 : Int32), .int x1, .int x2, .int x3] (mX10_sends _ E hX.2.2.2.2.2.2.2.2.1 fu   (704 : Int32) x1 x2 x3 M3) qX10_sends tw_1127 (jb rfl) rfl (ci := 9) (T := TX10) (N := 30) rfl (jb rfl) rfl ⟨rfl, rfl⟩ ⟨(Nat.le_of_ble_eq_true rfl), (Nat.le_of_ble_eq_true rfl)⟩ (Nat.le_of_ble_eq_true rfl) dX10_readSent_28 rfl (fun M4 => ?_)
    refine j_aload_n (pc := 31) hX 0 dX10_readSent_31 rfl rfl ?_
    refine j_iload_n (pc := 32) hX 1 dX10_readSent_32 rfl rfl ?_
    refine j_callV (pc := 33) hX [.int x1] (mX10_readThen _ E hX.2.2.2.2.2.2.2.2.1 fu   x1 M4) qX10_readThen tw_1196 (jb rfl) rfl (ci := 9) (T := TX10) (N := 30) rfl (jb rfl) rfl ⟨rfl, rfl⟩ ⟨(Nat.le_of_ble_eq_true rfl), (Nat.le_of_ble_eq_true rfl)⟩ (Nat.le_of_ble_eq_true rfl) dX10_readSent_33 (fun _ => rfl) rfl (fun r6 M5 => ?_)
    exact j_iret (pc := 36) hX rfl dX10_readSent_36
  · refine j_bipush (pc := 10) (v := (-4 : Int32)) hX dX10_readSent_10 cb_m4 ?_
    exact j_iret (pc := 12) hX rfl dX10_readSent_12
theorem mX10_readSent (l : Launch) (E : jE) (hI : jInj (gM E)) (fu : Nat)  (x1 : Int32) (x2 : Int32) (x3 : Int32) (M : Mem) : jMet l (gM E) yX10_readSent cX10_readSent 4 (some .int) rX10_readSent [.ref (gad (gM E) 0), .int x1, .int x2, .int x3] M (pX10_readSent fu  x1 x2 x3 M) :=
  j_entry hI (by decide +kernel) (Nat.le_of_ble_eq_true rfl) rfl (fun X _ hX => wX10_readSent hX fu   x1 x2 x3 M)
theorem qX10_right : jYv yX10_right cX10_right 5 (some .int) 2 := ⟨tw_1201, tw_1202, tw_72, tw_1203, ⟨by decide +kernel, by decide +kernel, by decide +kernel⟩⟩
abbrev rX10_right : Room := { frames := 7, cells := 0, slots := 0, locals := 159 }
def uX10_right : jM := (cX10_right, 5, RX10, (some .int), rX10_right)
def pX10_right_57 (fu : Nat) (x1 : Int32) (x2 : Int32) (x4 : Int32) (s0 : Int32) (s1 : Int32) (M : Mem) (c27 : Int32 → Int32 → Int32 → Int32 → Mem → Res) : Res :=
  c27 x1 x2 (s1 ||| s0) (x4 + (1 : Int32)) M
set_option maxRecDepth 100000 in
theorem wX10_right_57 {E : jE} {X : jC} (hX : jOk X uX10_right (gM E)) (fu : Nat)  (x1 : Int32) (x2 : Int32) (x4 : Int32) (s0 : Int32) (s1 : Int32) (M : Mem) (c27 : Int32 → Int32 → Int32 → Int32 → Mem → Res) (hc27 : ∀ (x1 : Int32) (x2 : Int32) (x3 : Int32) (x4 : Int32) (M : Mem), J X uX10_right (gM E) 27 [(0, .ref (gad (gM E) 0)), (1, .int x1), (2, .int x2), (3, .int x3), (4, .int x4)] [] M (c27 x1 x2 x3 x4 M)) : J X uX10_right (gM E) 57 [(0, .ref (gad (gM E) 0)), (1, .int x1), (2, .int x2), (4, .int x4)] [.int s0, .int s1] M (pX10_right_57 fu  x1 x2 x4 s0 s1 M c27) := by
  unfold pX10_right_57
  refine j_ior (pc := 57) hX dX10_right_57 ?_
  refine j_istore_n (pc := 58) (lv' := [(3, .int (s1 ||| s0)), (0, .ref (gad (gM E) 0)), (1, .int x1), (2, .int x2), (4, .int x4)]) hX dX10_right_58 rfl (jb rfl) rfl ?_
  refine j_iinc (pc := 59) (v := (x4 + (1 : Int32))) (lv' := [(4, .int (x4 + (1 : Int32))), (3, .int (s1 ||| s0)), (0, .ref (gad (gM E) 0)), (1, .int x1), (2, .int x2)]) hX 4 dX10_right_59 rfl (by rw [ci_1]) (jb rfl) rfl ?_
  refine j_goto (pc := 62) hX 27 dX10_right_62 (by decide) ?_
  exact j_sub [2, 3, 4, 1, 0] rfl (hc27 x1 x2 (s1 ||| s0) (x4 + (1 : Int32)) M)
def pX10_right_27b (fu : Nat) (x1 : Int32) (x2 : Int32) (x3 : Int32) (x4 : Int32) (M : Mem) (c27 : Int32 → Int32 → Int32 → Int32 → Mem → Res) : Res :=
  if (M 0 7) ≤ x4 then (
    some (x3, M))
  else
  bI (pX10_readSent fu x4 x2 x1 M) fun r6 M5 =>
  if r6 = x2 then (
    pX10_right_57 fu  x1 x2 x4 ((1 : Int32) <<< (x4 &&& 31)) x3 M5 c27)
  else
  pX10_right_57 fu  x1 x2 x4 (0 : Int32) x3 M5 c27
set_option maxRecDepth 100000 in
theorem wX10_right_27b {E : jE} {X : jC} (hX : jOk X uX10_right (gM E)) (fu : Nat)  (x1 : Int32) (x2 : Int32) (x3 : Int32) (x4 : Int32) (M : Mem) (c27 : Int32 → Int32 → Int32 → Int32 → Mem → Res) (hc27 : ∀ (x1 : Int32) (x2 : Int32) (x3 : Int32) (x4 : Int32) (M : Mem), J X uX10_right (gM E) 27 [(0, .ref (gad (gM E) 0)), (1, .int x1), (2, .int x2), (3, .int x3), (4, .int x4)] [] M (c27 x1 x2 x3 x4 M)) : J X uX10_right (gM E) 27 [(0, .ref (gad (gM E) 0)), (1, .int x1), (2, .int x2), (3, .int x3), (4, .int x4)] [] M (pX10_right_27b fu  x1 x2 x3 x4 M c27) := by
  unfold pX10_right_27b
  refine j_iload (pc := 27) hX 4 dX10_right_27 rfl ?_
  refine j_aload_n (pc := 29) hX 0 dX10_right_29 rfl rfl ?_
  refine j_getI (pc := 30) hX (jb rfl) rfl (ci := 9) (C := RX10) (T := TX10) (N := 30) rfl (jb rfl) inX10 (j := 7) (jb rfl) rfl tw_927 dX10_right_30 ?_
  refine j_icmp_ge (pc := 33) hX 65 dX10_right_33 (by decide) ?_ ?_
  · refine j_iload_n (pc := 65) hX 3 dX10_right_65 rfl rfl ?_
    exact j_iret (pc := 66) hX rfl dX10_right_66
  · refine j_iload_n (pc := 36) hX 3 dX10_right_36 rfl rfl ?_
    refine j_aload_n (pc := 37) hX 0 dX10_right_37 rfl rfl ?_
    refine j_iload (pc := 38) hX 4 dX10_right_38 rfl ?_
    refine j_iload_n (pc := 40) hX 2 dX10_right_40 rfl rfl ?_
    refine j_iload_n (pc := 41) hX 1 dX10_right_41 rfl rfl ?_
    refine j_callV (pc := 42) hX [.int x4, .int x2, .int x1] (mX10_readSent _ E hX.2.2.2.2.2.2.2.2.1 fu   x4 x2 x1 M) qX10_readSent tw_1204 (jb rfl) rfl (ci := 9) (T := TX10) (N := 30) rfl (jb rfl) rfl ⟨rfl, rfl⟩ ⟨(Nat.le_of_ble_eq_true rfl), (Nat.le_of_ble_eq_true rfl)⟩ (Nat.le_of_ble_eq_true rfl) dX10_right_42 (fun _ => rfl) rfl (fun r6 M5 => ?_)
    refine j_iload_n (pc := 45) hX 2 dX10_right_45 rfl rfl ?_
    refine j_icmp_ne (pc := 46) hX 56 dX10_right_46 (by decide) ?_ ?_
    · refine j_iconst (pc := 56) (v := (0 : Int32)) hX dX10_right_56 ci_0 ?_
      exact j_sub [0, 1, 2, 4] rfl (wX10_right_57 hX fu   x1 x2 x4 (0 : Int32) x3 M5 c27 hc27)
    · refine j_iconst (pc := 49) (v := (1 : Int32)) hX dX10_right_49 ci_1 ?_
      refine j_iload (pc := 50) hX 4 dX10_right_50 rfl ?_
      refine j_ishl (pc := 52) hX dX10_right_52 ?_
      refine j_goto (pc := 53) hX 57 dX10_right_53 (by decide) ?_
      exact j_sub [0, 1, 2, 4] rfl (wX10_right_57 hX fu   x1 x2 x4 ((1 : Int32) <<< (x4 &&& 31)) x3 M5 c27 hc27)
def pX10_right_27 (fu : Nat)  : Nat → Int32 → Int32 → Int32 → Int32 → Mem → Res
  | 0, _, _, _, _, _ => none
  | n + 1, x1, x2, x3, x4, M => pX10_right_27b fu  x1 x2 x3 x4 M (pX10_right_27 fu   n)
theorem wX10_right_27 {E : jE} {X : jC} (hX : jOk X uX10_right (gM E)) (fu : Nat)    : ∀ (n : Nat) (x1 : Int32) (x2 : Int32) (x3 : Int32) (x4 : Int32) (M : Mem), J X uX10_right (gM E) 27 [(0, .ref (gad (gM E) 0)), (1, .int x1), (2, .int x2), (3, .int x3), (4, .int x4)] [] M (pX10_right_27 fu   n x1 x2 x3 x4 M) := by
  intro n
  induction n with
  | zero => intro x1 x2 x3 x4 M; exact j_none
  | succ n ih => intro x1 x2 x3 x4 M; exact wX10_right_27b hX fu   x1 x2 x3 x4 M (pX10_right_27 fu   n) ih
def pX10_right (fu : Nat) (x1 : Int32) (x2 : Int32) (M : Mem) : Res :=
  bI (pX10_isDoor fu x1 M) fun r2 M1 =>
  if r2 = 0 then (
    some ((-1 : Int32), M1))
  else
  bI (pX10_in fu (x2).toInt64 (0 : Int64) (7 : Int64) M1) fun r4 M3 =>
  if r4 = 0 then (
    some ((-1 : Int32), M3))
  else
  pX10_right_27 fu
    fu x1 x2 (0 : Int32) (0 : Int32) M3
set_option maxRecDepth 100000 in
theorem wX10_right {E : jE} {X : jC} (hX : jOk X uX10_right (gM E)) (fu : Nat)  (x1 : Int32) (x2 : Int32) (M : Mem) : J X uX10_right (gM E) 0 [(0, .ref (gad (gM E) 0)), (1, .int x1), (2, .int x2)] [] M (pX10_right fu  x1 x2 M) := by
  unfold pX10_right
  refine j_aload_n (pc := 0) hX 0 dX10_right_0 rfl rfl ?_
  refine j_iload_n (pc := 1) hX 1 dX10_right_1 rfl rfl ?_
  refine j_callV (pc := 2) hX [.int x1] (mX10_isDoor _ E hX.2.2.2.2.2.2.2.2.1 fu   x1 M) qX10_isDoor tw_1087 (jb rfl) rfl (ci := 9) (T := TX10) (N := 30) rfl (jb rfl) rfl ⟨rfl, rfl⟩ ⟨(Nat.le_of_ble_eq_true rfl), (Nat.le_of_ble_eq_true rfl)⟩ (Nat.le_of_ble_eq_true rfl) dX10_right_2 (fun _ => rfl) rfl (fun r2 M1 => ?_)
  refine j_if_eq (pc := 5) hX 20 dX10_right_5 (by decide) ?_ ?_
  · refine j_iconst (pc := 20) (v := (-1 : Int32)) hX dX10_right_20 ci_m1 ?_
    exact j_iret (pc := 21) hX rfl dX10_right_21
  · refine j_iload_n (pc := 8) hX 2 dX10_right_8 rfl rfl ?_
    refine j_i2l (pc := 9) hX dX10_right_9 ?_
    refine j_lconst (pc := 10) (v := (0 : Int64)) hX dX10_right_10 rfl ?_
    refine j_ldc2 (pc := 11) (v := (7 : Int64)) hX tw_1099 dX10_right_11 ?_
    refine j_callS (pc := 14) hX [.long (x2).toInt64, .long (0 : Int64), .long (7 : Int64)] (mX10_in _ E hX.2.2.2.2.2.2.2.2.1 fu   (x2).toInt64 (0 : Int64) (7 : Int64) M1) qX10_in tw_1017 rfl ⟨rfl, rfl⟩ ⟨(Nat.le_of_ble_eq_true rfl), (Nat.le_of_ble_eq_true rfl)⟩ (Nat.le_of_ble_eq_true rfl) dX10_right_14 (fun _ => rfl) rfl (fun r4 M3 => ?_)
    refine j_if_ne (pc := 17) hX 22 dX10_right_17 (by decide) ?_ ?_
    · refine j_iconst (pc := 22) (v := (0 : Int32)) hX dX10_right_22 ci_0 ?_
      refine j_istore_n (pc := 23) (lv' := [(3, .int (0 : Int32)), (0, .ref (gad (gM E) 0)), (1, .int x1), (2, .int x2)]) hX dX10_right_23 rfl (jb rfl) rfl ?_
      refine j_iconst (pc := 24) (v := (0 : Int32)) hX dX10_right_24 ci_0 ?_
      refine j_istore (pc := 25) (lv' := [(4, .int (0 : Int32)), (3, .int (0 : Int32)), (0, .ref (gad (gM E) 0)), (1, .int x1), (2, .int x2)]) hX dX10_right_25 (jb rfl) rfl ?_
      refine j_sub [2, 3, 4, 1, 0] rfl (wX10_right_27 hX fu     fu x1 x2 (0 : Int32) (0 : Int32) M3)
    · refine j_iconst (pc := 20) (v := (-1 : Int32)) hX dX10_right_20 ci_m1 ?_
      exact j_iret (pc := 21) hX rfl dX10_right_21
theorem mX10_right (l : Launch) (E : jE) (hI : jInj (gM E)) (fu : Nat)  (x1 : Int32) (x2 : Int32) (M : Mem) : jMet l (gM E) yX10_right cX10_right 5 (some .int) rX10_right [.ref (gad (gM E) 0), .int x1, .int x2] M (pX10_right fu  x1 x2 M) :=
  j_entry hI (by decide +kernel) (Nat.le_of_ble_eq_true rfl) rfl (fun X _ hX => wX10_right hX fu   x1 x2 M)
theorem qX10_soonest : jYv yX10_soonest cX10_soonest 7 (some .int) 2 := ⟨tw_1209, tw_1210, tw_72, tw_1211, ⟨by decide +kernel, by decide +kernel, by decide +kernel⟩⟩
abbrev rX10_soonest : Room := { frames := 7, cells := 0, slots := 0, locals := 159 }
def uX10_soonest : jM := (cX10_soonest, 7, RX10, (some .int), rX10_soonest)
def pX10_soonest_104 (fu : Nat) (x1 : Int32) (x2 : Int32) (x3 : Int32) (x4 : Int32) (x5 : Int32) (M : Mem) (c33 : Int32 → Int32 → Int32 → Int32 → Int32 → Mem → Res) : Res :=
  c33 x1 x2 x3 x4 (x5 + (1 : Int32)) M
set_option maxRecDepth 100000 in
theorem wX10_soonest_104 {E : jE} {X : jC} (hX : jOk X uX10_soonest (gM E)) (fu : Nat)  (x1 : Int32) (x2 : Int32) (x3 : Int32) (x4 : Int32) (x5 : Int32) (M : Mem) (c33 : Int32 → Int32 → Int32 → Int32 → Int32 → Mem → Res) (hc33 : ∀ (x1 : Int32) (x2 : Int32) (x3 : Int32) (x4 : Int32) (x5 : Int32) (M : Mem), J X uX10_soonest (gM E) 33 [(0, .ref (gad (gM E) 0)), (1, .int x1), (2, .int x2), (3, .int x3), (4, .int x4), (5, .int x5)] [] M (c33 x1 x2 x3 x4 x5 M)) : J X uX10_soonest (gM E) 104 [(0, .ref (gad (gM E) 0)), (1, .int x1), (2, .int x2), (3, .int x3), (4, .int x4), (5, .int x5)] [] M (pX10_soonest_104 fu  x1 x2 x3 x4 x5 M c33) := by
  unfold pX10_soonest_104
  refine j_iinc (pc := 104) (v := (x5 + (1 : Int32))) (lv' := [(5, .int (x5 + (1 : Int32))), (0, .ref (gad (gM E) 0)), (1, .int x1), (2, .int x2), (3, .int x3), (4, .int x4)]) hX 5 dX10_soonest_104 rfl (by rw [ci_1]) (jb rfl) rfl ?_
  refine j_goto (pc := 107) hX 33 dX10_soonest_107 (by decide) ?_
  exact j_sub [1, 2, 3, 4, 5, 0] rfl (hc33 x1 x2 x3 x4 (x5 + (1 : Int32)) M)
def pX10_soonest_94 (fu : Nat) (x1 : Int32) (x2 : Int32) (x4 : Int32) (x5 : Int32) (x6 : Int32) (s0 : Int32) (M : Mem) (c33 : Int32 → Int32 → Int32 → Int32 → Int32 → Mem → Res) : Res :=
  bI (pX10_smaller fu x6 x4 M) fun r12 M11 =>
  pX10_soonest_104 fu  x1 x2 s0 r12 x5 M11 c33
set_option maxRecDepth 100000 in
theorem wX10_soonest_94 {E : jE} {X : jC} (hX : jOk X uX10_soonest (gM E)) (fu : Nat)  (x1 : Int32) (x2 : Int32) (x4 : Int32) (x5 : Int32) (x6 : Int32) (s0 : Int32) (M : Mem) (c33 : Int32 → Int32 → Int32 → Int32 → Int32 → Mem → Res) (hc33 : ∀ (x1 : Int32) (x2 : Int32) (x3 : Int32) (x4 : Int32) (x5 : Int32) (M : Mem), J X uX10_soonest (gM E) 33 [(0, .ref (gad (gM E) 0)), (1, .int x1), (2, .int x2), (3, .int x3), (4, .int x4), (5, .int x5)] [] M (c33 x1 x2 x3 x4 x5 M)) : J X uX10_soonest (gM E) 94 [(0, .ref (gad (gM E) 0)), (1, .int x1), (2, .int x2), (4, .int x4), (5, .int x5), (6, .int x6)] [.int s0] M (pX10_soonest_94 fu  x1 x2 x4 x5 x6 s0 M c33) := by
  unfold pX10_soonest_94
  refine j_istore_n (pc := 94) (lv' := [(3, .int s0), (0, .ref (gad (gM E) 0)), (1, .int x1), (2, .int x2), (4, .int x4), (5, .int x5), (6, .int x6)]) hX dX10_soonest_94 rfl (jb rfl) rfl ?_
  refine j_iload (pc := 95) hX 6 dX10_soonest_95 rfl ?_
  refine j_iload (pc := 97) hX 4 dX10_soonest_97 rfl ?_
  refine j_callS (pc := 99) hX [.int x6, .int x4] (mX10_smaller _ E hX.2.2.2.2.2.2.2.2.1 fu   x6 x4 M) qX10_smaller tw_913 rfl ⟨rfl, rfl⟩ ⟨(Nat.le_of_ble_eq_true rfl), (Nat.le_of_ble_eq_true rfl)⟩ (Nat.le_of_ble_eq_true rfl) dX10_soonest_99 (fun _ => rfl) rfl (fun r12 M11 => ?_)
  refine j_istore (pc := 102) (lv' := [(4, .int r12), (3, .int s0), (0, .ref (gad (gM E) 0)), (1, .int x1), (2, .int x2), (5, .int x5), (6, .int x6)]) hX dX10_soonest_102 (jb rfl) rfl ?_
  exact j_sub [2, 3, 4, 1, 0, 5] rfl (wX10_soonest_104 hX fu   x1 x2 s0 r12 x5 M11 c33 hc33)
def pX10_soonest_33b (fu : Nat) (x1 : Int32) (x2 : Int32) (x3 : Int32) (x4 : Int32) (x5 : Int32) (M : Mem) (c33 : Int32 → Int32 → Int32 → Int32 → Int32 → Mem → Res) : Res :=
  if (M 0 7) ≤ x5 then (
    some (x3, M))
  else
  bI (pX10_readSent fu x5 x2 x1 M) fun r6 M5 =>
  if r6 = x2 then (
    bV (pX10_copies fu (0 : Int32) (704 : Int32) M5) fun M7 =>
    bV (pX10_sends fu (704 : Int32) x5 x2 x1 M7) fun M8 =>
    bI (pX10_standsBehind fu x5 M8) fun r10 M9 =>
    if x4 ≤ r10 then (
      pX10_soonest_94 fu  x1 x2 x4 x5 r10 x3 M9 c33)
    else
    pX10_soonest_94 fu  x1 x2 x4 x5 r10 x5 M9 c33)
  else
  pX10_soonest_104 fu  x1 x2 x3 x4 x5 M5 c33
set_option maxRecDepth 100000 in
theorem wX10_soonest_33b {E : jE} {X : jC} (hX : jOk X uX10_soonest (gM E)) (fu : Nat)  (x1 : Int32) (x2 : Int32) (x3 : Int32) (x4 : Int32) (x5 : Int32) (M : Mem) (c33 : Int32 → Int32 → Int32 → Int32 → Int32 → Mem → Res) (hc33 : ∀ (x1 : Int32) (x2 : Int32) (x3 : Int32) (x4 : Int32) (x5 : Int32) (M : Mem), J X uX10_soonest (gM E) 33 [(0, .ref (gad (gM E) 0)), (1, .int x1), (2, .int x2), (3, .int x3), (4, .int x4), (5, .int x5)] [] M (c33 x1 x2 x3 x4 x5 M)) : J X uX10_soonest (gM E) 33 [(0, .ref (gad (gM E) 0)), (1, .int x1), (2, .int x2), (3, .int x3), (4, .int x4), (5, .int x5)] [] M (pX10_soonest_33b fu  x1 x2 x3 x4 x5 M c33) := by
  unfold pX10_soonest_33b
  refine j_iload (pc := 33) hX 5 dX10_soonest_33 rfl ?_
  refine j_aload_n (pc := 35) hX 0 dX10_soonest_35 rfl rfl ?_
  refine j_getI (pc := 36) hX (jb rfl) rfl (ci := 9) (C := RX10) (T := TX10) (N := 30) rfl (jb rfl) inX10 (j := 7) (jb rfl) rfl tw_927 dX10_soonest_36 ?_
  refine j_icmp_ge (pc := 39) hX 110 dX10_soonest_39 (by decide) ?_ ?_
  · refine j_iload_n (pc := 110) hX 3 dX10_soonest_110 rfl rfl ?_
    exact j_iret (pc := 111) hX rfl dX10_soonest_111
  · refine j_aload_n (pc := 42) hX 0 dX10_soonest_42 rfl rfl ?_
    refine j_iload (pc := 43) hX 5 dX10_soonest_43 rfl ?_
    refine j_iload_n (pc := 45) hX 2 dX10_soonest_45 rfl rfl ?_
    refine j_iload_n (pc := 46) hX 1 dX10_soonest_46 rfl rfl ?_
    refine j_callV (pc := 47) hX [.int x5, .int x2, .int x1] (mX10_readSent _ E hX.2.2.2.2.2.2.2.2.1 fu   x5 x2 x1 M) qX10_readSent tw_1204 (jb rfl) rfl (ci := 9) (T := TX10) (N := 30) rfl (jb rfl) rfl ⟨rfl, rfl⟩ ⟨(Nat.le_of_ble_eq_true rfl), (Nat.le_of_ble_eq_true rfl)⟩ (Nat.le_of_ble_eq_true rfl) dX10_soonest_47 (fun _ => rfl) rfl (fun r6 M5 => ?_)
    refine j_iload_n (pc := 50) hX 2 dX10_soonest_50 rfl rfl ?_
    refine j_icmp_ne (pc := 51) hX 104 dX10_soonest_51 (by decide) ?_ ?_
    · exact j_sub [0, 1, 2, 3, 4, 5] rfl (wX10_soonest_104 hX fu   x1 x2 x3 x4 x5 M5 c33 hc33)
    · refine j_aload_n (pc := 54) hX 0 dX10_soonest_54 rfl rfl ?_
      refine j_iconst (pc := 55) (v := (0 : Int32)) hX dX10_soonest_55 ci_0 ?_
      refine j_sipush (pc := 56) (v := (704 : Int32)) hX dX10_soonest_56 cs_704 ?_
      refine j_callVv (pc := 59) hX [.int (0 : Int32), .int (704 : Int32)] (mX10_copies _ E hX.2.2.2.2.2.2.2.2.1 fu   (0 : Int32) (704 : Int32) M5) qX10_copies tw_916 (jb rfl) rfl (ci := 9) (T := TX10) (N := 30) rfl (jb rfl) rfl ⟨rfl, rfl⟩ ⟨(Nat.le_of_ble_eq_true rfl), (Nat.le_of_ble_eq_true rfl)⟩ (Nat.le_of_ble_eq_true rfl) dX10_soonest_59 rfl (fun M7 => ?_)
      refine j_aload_n (pc := 62) hX 0 dX10_soonest_62 rfl rfl ?_
      refine j_sipush (pc := 63) (v := (704 : Int32)) hX dX10_soonest_63 cs_704 ?_
      refine j_iload (pc := 66) hX 5 dX10_soonest_66 rfl ?_
      refine j_iload_n (pc := 68) hX 2 dX10_soonest_68 rfl rfl ?_
      refine j_iload_n (pc := 69) hX 1 dX10_soonest_69 rfl rfl ?_
      refine j_callVv (pc := 70) hX [.int (704 : Int32), .int x5, .int x2, .int x1] (mX10_sends _ E hX.2.2.2.2.2.2.2.2.1 fu   (704 : Int32) x5 x2 x1 M7) qX10_sends tw_1127 (jb rfl) rfl (ci := 9) (T := TX10) (N := 30) rfl (jb rfl) rfl ⟨rfl, rfl⟩ ⟨(Nat.le_of_ble_eq_true rfl), (Nat.le_of_ble_eq_true rfl)⟩ (Nat.le_of_ble_eq_true rfl) dX10_soonest_70 rfl (fun M8 => ?_)
      refine j_aload_n (pc := 73) hX 0 dX10_soonest_73 rfl rfl ?_
      refine j_iload (pc := 74) hX 5 dX10_soonest_74 rfl ?_
      refine j_callV (pc := 76) hX [.int x5] (mX10_standsBehind _ E hX.2.2.2.2.2.2.2.2.1 fu   x5 M8) qX10_standsBehind tw_1188 (jb rfl) rfl (ci := 9) (T := TX10) (N := 30) rfl (jb rfl) rfl ⟨rfl, rfl⟩ ⟨(Nat.le_of_ble_eq_true rfl), (Nat.le_of_ble_eq_true rfl)⟩ (Nat.le_of_ble_eq_true rfl) dX10_soonest_76 (fun _ => rfl) rfl (fun r10 M9 => ?_)
      refine j_istore (pc := 79) (lv' := [(6, .int r10), (0, .ref (gad (gM E) 0)), (1, .int x1), (2, .int x2), (3, .int x3), (4, .int x4), (5, .int x5)]) hX dX10_soonest_79 (jb rfl) rfl ?_
      refine j_iload (pc := 81) hX 0 dX10_soonest_81 rfl ?_
      refine j_iload (pc := 83) hX 5 dX10_soonest_83 rfl ?_
      refine j_icmp_ge (pc := 85) hX 93 dX10_soonest_85 (by decide) ?_ ?_
      · refine j_iload_n (pc := 93) hX 4 dX10_soonest_93 rfl rfl ?_
        exact j_sub [1, 2, 3, 5, 6, 0] rfl (wX10_soonest_94 hX fu   x1 x2 x4 x5 r10 x3 M9 c33 hc33)
      · refine j_iload (pc := 88) hX 6 dX10_soonest_88 rfl ?_
        refine j_goto (pc := 90) hX 94 dX10_soonest_90 (by decide) ?_
        exact j_sub [1, 2, 3, 5, 6, 0] rfl (wX10_soonest_94 hX fu   x1 x2 x4 x5 r10 x5 M9 c33 hc33)
def pX10_soonest_33 (fu : Nat)  : Nat → Int32 → Int32 → Int32 → Int32 → Int32 → Mem → Res
  | 0, _, _, _, _, _, _ => none
  | n + 1, x1, x2, x3, x4, x5, M => pX10_soonest_33b fu  x1 x2 x3 x4 x5 M (pX10_soonest_33 fu   n)
theorem wX10_soonest_33 {E : jE} {X : jC} (hX : jOk X uX10_soonest (gM E)) (fu : Nat)    : ∀ (n : Nat) (x1 : Int32) (x2 : Int32) (x3 : Int32) (x4 : Int32) (x5 : Int32) (M : Mem), J X uX10_soonest (gM E) 33 [(0, .ref (gad (gM E) 0)), (1, .int x1), (2, .int x2), (3, .int x3), (4, .int x4), (5, .int x5)] [] M (pX10_soonest_33 fu   n x1 x2 x3 x4 x5 M) := by
  intro n
  induction n with
  | zero => intro x1 x2 x3 x4 x5 M; exact j_none
  | succ n ih => intro x1 x2 x3 x4 x5 M; exact wX10_soonest_33b hX fu   x1 x2 x3 x4 x5 M (pX10_soonest_33 fu   n) ih
def pX10_soonest (fu : Nat) (x1 : Int32) (x2 : Int32) (M : Mem) : Res :=
  bI (pX10_isDoor fu x1 M) fun r2 M1 =>
  if r2 = 0 then (
    some ((-1 : Int32), M1))
  else
  bI (pX10_in fu (x2).toInt64 (0 : Int64) (7 : Int64) M1) fun r4 M3 =>
  if r4 = 0 then (
    some ((-1 : Int32), M3))
  else
  pX10_soonest_33 fu
    fu x1 x2 (-4 : Int32) (9999 : Int32) (0 : Int32) M3
set_option maxRecDepth 100000 in
theorem wX10_soonest {E : jE} {X : jC} (hX : jOk X uX10_soonest (gM E)) (fu : Nat)  (x1 : Int32) (x2 : Int32) (M : Mem) : J X uX10_soonest (gM E) 0 [(0, .ref (gad (gM E) 0)), (1, .int x1), (2, .int x2)] [] M (pX10_soonest fu  x1 x2 M) := by
  unfold pX10_soonest
  refine j_aload_n (pc := 0) hX 0 dX10_soonest_0 rfl rfl ?_
  refine j_iload_n (pc := 1) hX 1 dX10_soonest_1 rfl rfl ?_
  refine j_callV (pc := 2) hX [.int x1] (mX10_isDoor _ E hX.2.2.2.2.2.2.2.2.1 fu   x1 M) qX10_isDoor tw_1087 (jb rfl) rfl (ci := 9) (T := TX10) (N := 30) rfl (jb rfl) rfl ⟨rfl, rfl⟩ ⟨(Nat.le_of_ble_eq_true rfl), (Nat.le_of_ble_eq_true rfl)⟩ (Nat.le_of_ble_eq_true rfl) dX10_soonest_2 (fun _ => rfl) rfl (fun r2 M1 => ?_)
  refine j_if_eq (pc := 5) hX 20 dX10_soonest_5 (by decide) ?_ ?_
  · refine j_iconst (pc := 20) (v := (-1 : Int32)) hX dX10_soonest_20 ci_m1 ?_
    exact j_iret (pc := 21) hX rfl dX10_soonest_21
  · refine j_iload_n (pc := 8) hX 2 dX10_soonest_8 rfl rfl ?_
    refine j_i2l (pc := 9) hX dX10_soonest_9 ?_
    refine j_lconst (pc := 10) (v := (0 : Int64)) hX dX10_soonest_10 rfl ?_
    refine j_ldc2 (pc := 11) (v := (7 : Int64)) hX tw_1099 dX10_soonest_11 ?_
    refine j_callS (pc := 14) hX [.long (x2).toInt64, .long (0 : Int64), .long (7 : Int64)] (mX10_in _ E hX.2.2.2.2.2.2.2.2.1 fu   (x2).toInt64 (0 : Int64) (7 : Int64) M1) qX10_in tw_1017 rfl ⟨rfl, rfl⟩ ⟨(Nat.le_of_ble_eq_true rfl), (Nat.le_of_ble_eq_true rfl)⟩ (Nat.le_of_ble_eq_true rfl) dX10_soonest_14 (fun _ => rfl) rfl (fun r4 M3 => ?_)
    refine j_if_ne (pc := 17) hX 22 dX10_soonest_17 (by decide) ?_ ?_
    · refine j_bipush (pc := 22) (v := (-4 : Int32)) hX dX10_soonest_22 cb_m4 ?_
      refine j_istore_n (pc := 24) (lv' := [(3, .int (-4 : Int32)), (0, .ref (gad (gM E) 0)), (1, .int x1), (2, .int x2)]) hX dX10_soonest_24 rfl (jb rfl) rfl ?_
      refine j_sipush (pc := 25) (v := (9999 : Int32)) hX dX10_soonest_25 cs_9999 ?_
      refine j_istore (pc := 28) (lv' := [(4, .int (9999 : Int32)), (3, .int (-4 : Int32)), (0, .ref (gad (gM E) 0)), (1, .int x1), (2, .int x2)]) hX dX10_soonest_28 (jb rfl) rfl ?_
      refine j_iconst (pc := 30) (v := (0 : Int32)) hX dX10_soonest_30 ci_0 ?_
      refine j_istore (pc := 31) (lv' := [(5, .int (0 : Int32)), (4, .int (9999 : Int32)), (3, .int (-4 : Int32)), (0, .ref (gad (gM E) 0)), (1, .int x1), (2, .int x2)]) hX dX10_soonest_31 (jb rfl) rfl ?_
      refine j_sub [3, 4, 5, 2, 1, 0] rfl (wX10_soonest_33 hX fu     fu x1 x2 (-4 : Int32) (9999 : Int32) (0 : Int32) M3)
    · refine j_iconst (pc := 20) (v := (-1 : Int32)) hX dX10_soonest_20 ci_m1 ?_
      exact j_iret (pc := 21) hX rfl dX10_soonest_21
theorem mX10_soonest (l : Launch) (E : jE) (hI : jInj (gM E)) (fu : Nat)  (x1 : Int32) (x2 : Int32) (M : Mem) : jMet l (gM E) yX10_soonest cX10_soonest 7 (some .int) rX10_soonest [.ref (gad (gM E) 0), .int x1, .int x2] M (pX10_soonest fu  x1 x2 M) :=
  j_entry hI (by decide +kernel) (Nat.le_of_ble_eq_true rfl) rfl (fun X _ hX => wX10_soonest hX fu   x1 x2 M)
theorem qX10_tell : jYv yX10_tell cX10_tell 5 (some .int) 3 := ⟨tw_1213, tw_1214, tw_72, tw_1215, ⟨by decide +kernel, by decide +kernel, by decide +kernel⟩⟩
abbrev rX10_tell : Room := { frames := 7, cells := 0, slots := 0, locals := 159 }
def uX10_tell : jM := (cX10_tell, 5, RX10, (some .int), rX10_tell)
def pX10_tell_45b (fu : Nat) (x1 : Int32) (x2 : Int32) (x3 : Int32) (x4 : Int32) (M : Mem) (c45 : Int32 → Int32 → Int32 → Int32 → Mem → Res) : Res :=
  if (8 : Int32) ≤ x4 then (
    some ((-4 : Int32), M))
  else
  bI (pX10_readSent fu x1 x4 x2 M) fun r9 M8 =>
  if r9 = x3 then (
    some (x4, M8))
  else
  c45 x1 x2 x3 (x4 + (1 : Int32)) M8
set_option maxRecDepth 100000 in
theorem wX10_tell_45b {E : jE} {X : jC} (hX : jOk X uX10_tell (gM E)) (fu : Nat)  (x1 : Int32) (x2 : Int32) (x3 : Int32) (x4 : Int32) (M : Mem) (c45 : Int32 → Int32 → Int32 → Int32 → Mem → Res) (hc45 : ∀ (x1 : Int32) (x2 : Int32) (x3 : Int32) (x4 : Int32) (M : Mem), J X uX10_tell (gM E) 45 [(0, .ref (gad (gM E) 0)), (1, .int x1), (2, .int x2), (3, .int x3), (4, .int x4)] [] M (c45 x1 x2 x3 x4 M)) : J X uX10_tell (gM E) 45 [(0, .ref (gad (gM E) 0)), (1, .int x1), (2, .int x2), (3, .int x3), (4, .int x4)] [] M (pX10_tell_45b fu  x1 x2 x3 x4 M c45) := by
  unfold pX10_tell_45b
  refine j_iload (pc := 45) hX 4 dX10_tell_45 rfl ?_
  refine j_bipush (pc := 47) (v := (8 : Int32)) hX dX10_tell_47 cb_8 ?_
  refine j_icmp_ge (pc := 49) hX 73 dX10_tell_49 (by decide) ?_ ?_
  · refine j_bipush (pc := 73) (v := (-4 : Int32)) hX dX10_tell_73 cb_m4 ?_
    exact j_iret (pc := 75) hX rfl dX10_tell_75
  · refine j_aload_n (pc := 52) hX 0 dX10_tell_52 rfl rfl ?_
    refine j_iload_n (pc := 53) hX 1 dX10_tell_53 rfl rfl ?_
    refine j_iload (pc := 54) hX 4 dX10_tell_54 rfl ?_
    refine j_iload_n (pc := 56) hX 2 dX10_tell_56 rfl rfl ?_
    refine j_callV (pc := 57) hX [.int x1, .int x4, .int x2] (mX10_readSent _ E hX.2.2.2.2.2.2.2.2.1 fu   x1 x4 x2 M) qX10_readSent tw_1204 (jb rfl) rfl (ci := 9) (T := TX10) (N := 30) rfl (jb rfl) rfl ⟨rfl, rfl⟩ ⟨(Nat.le_of_ble_eq_true rfl), (Nat.le_of_ble_eq_true rfl)⟩ (Nat.le_of_ble_eq_true rfl) dX10_tell_57 (fun _ => rfl) rfl (fun r9 M8 => ?_)
    refine j_iload_n (pc := 60) hX 3 dX10_tell_60 rfl rfl ?_
    refine j_icmp_ne (pc := 61) hX 67 dX10_tell_61 (by decide) ?_ ?_
    · refine j_iinc (pc := 67) (v := (x4 + (1 : Int32))) (lv' := [(4, .int (x4 + (1 : Int32))), (0, .ref (gad (gM E) 0)), (1, .int x1), (2, .int x2), (3, .int x3)]) hX 4 dX10_tell_67 rfl (by rw [ci_1]) (jb rfl) rfl ?_
      refine j_goto (pc := 70) hX 45 dX10_tell_70 (by decide) ?_
      exact j_sub [1, 2, 3, 4, 0] rfl (hc45 x1 x2 x3 (x4 + (1 : Int32)) M8)
    · refine j_iload (pc := 64) hX 4 dX10_tell_64 rfl ?_
      exact j_iret (pc := 66) hX rfl dX10_tell_66
def pX10_tell_45 (fu : Nat)  : Nat → Int32 → Int32 → Int32 → Int32 → Mem → Res
  | 0, _, _, _, _, _ => none
  | n + 1, x1, x2, x3, x4, M => pX10_tell_45b fu  x1 x2 x3 x4 M (pX10_tell_45 fu   n)
theorem wX10_tell_45 {E : jE} {X : jC} (hX : jOk X uX10_tell (gM E)) (fu : Nat)    : ∀ (n : Nat) (x1 : Int32) (x2 : Int32) (x3 : Int32) (x4 : Int32) (M : Mem), J X uX10_tell (gM E) 45 [(0, .ref (gad (gM E) 0)), (1, .int x1), (2, .int x2), (3, .int x3), (4, .int x4)] [] M (pX10_tell_45 fu   n x1 x2 x3 x4 M) := by
  intro n
  induction n with
  | zero => intro x1 x2 x3 x4 M; exact j_none
  | succ n ih => intro x1 x2 x3 x4 M; exact wX10_tell_45b hX fu   x1 x2 x3 x4 M (pX10_tell_45 fu   n) ih
def pX10_tell (fu : Nat) (x1 : Int32) (x2 : Int32) (x3 : Int32) (M : Mem) : Res :=
  bI (pX10_isBeast fu x1 M) fun r2 M1 =>
  if r2 = 0 then (
    some ((-1 : Int32), M1))
  else
  bI (pX10_isDoor fu x2 M1) fun r4 M3 =>
  if r4 = 0 then (
    some ((-1 : Int32), M3))
  else
  bI (pX10_in fu (x3).toInt64 (0 : Int64) (7 : Int64) M3) fun r6 M5 =>
  if r6 = 0 then (
    some ((-1 : Int32), M5))
  else
  ld M5 12 768 x1 fun v7 =>
  if v7 = 0 then (
    pX10_tell_45 fu
      fu x1 x2 x3 (0 : Int32) M5)
  else
  some ((-2 : Int32), M5)
set_option maxRecDepth 100000 in
theorem wX10_tell {E : jE} {X : jC} (hX : jOk X uX10_tell (gM E)) (fu : Nat)  (x1 : Int32) (x2 : Int32) (x3 : Int32) (M : Mem) : J X uX10_tell (gM E) 0 [(0, .ref (gad (gM E) 0)), (1, .int x1), (2, .int x2), (3, .int x3)] [] M (pX10_tell fu  x1 x2 x3 M) := by
  unfold pX10_tell
  refine j_aload_n (pc := 0) hX 0 dX10_tell_0 rfl rfl ?_
  refine j_iload_n (pc := 1) hX 1 dX10_tell_1 rfl rfl ?_
  refine j_callV (pc := 2) hX [.int x1] (mX10_isBeast _ E hX.2.2.2.2.2.2.2.2.1 fu   x1 M) qX10_isBeast tw_1095 (jb rfl) rfl (ci := 9) (T := TX10) (N := 30) rfl (jb rfl) rfl ⟨rfl, rfl⟩ ⟨(Nat.le_of_ble_eq_true rfl), (Nat.le_of_ble_eq_true rfl)⟩ (Nat.le_of_ble_eq_true rfl) dX10_tell_2 (fun _ => rfl) rfl (fun r2 M1 => ?_)
  refine j_if_eq (pc := 5) hX 28 dX10_tell_5 (by decide) ?_ ?_
  · refine j_iconst (pc := 28) (v := (-1 : Int32)) hX dX10_tell_28 ci_m1 ?_
    exact j_iret (pc := 29) hX rfl dX10_tell_29
  · refine j_aload_n (pc := 8) hX 0 dX10_tell_8 rfl rfl ?_
    refine j_iload_n (pc := 9) hX 2 dX10_tell_9 rfl rfl ?_
    refine j_callV (pc := 10) hX [.int x2] (mX10_isDoor _ E hX.2.2.2.2.2.2.2.2.1 fu   x2 M1) qX10_isDoor tw_1087 (jb rfl) rfl (ci := 9) (T := TX10) (N := 30) rfl (jb rfl) rfl ⟨rfl, rfl⟩ ⟨(Nat.le_of_ble_eq_true rfl), (Nat.le_of_ble_eq_true rfl)⟩ (Nat.le_of_ble_eq_true rfl) dX10_tell_10 (fun _ => rfl) rfl (fun r4 M3 => ?_)
    refine j_if_eq (pc := 13) hX 28 dX10_tell_13 (by decide) ?_ ?_
    · refine j_iconst (pc := 28) (v := (-1 : Int32)) hX dX10_tell_28 ci_m1 ?_
      exact j_iret (pc := 29) hX rfl dX10_tell_29
    · refine j_iload_n (pc := 16) hX 3 dX10_tell_16 rfl rfl ?_
      refine j_i2l (pc := 17) hX dX10_tell_17 ?_
      refine j_lconst (pc := 18) (v := (0 : Int64)) hX dX10_tell_18 rfl ?_
      refine j_ldc2 (pc := 19) (v := (7 : Int64)) hX tw_1099 dX10_tell_19 ?_
      refine j_callS (pc := 22) hX [.long (x3).toInt64, .long (0 : Int64), .long (7 : Int64)] (mX10_in _ E hX.2.2.2.2.2.2.2.2.1 fu   (x3).toInt64 (0 : Int64) (7 : Int64) M3) qX10_in tw_1017 rfl ⟨rfl, rfl⟩ ⟨(Nat.le_of_ble_eq_true rfl), (Nat.le_of_ble_eq_true rfl)⟩ (Nat.le_of_ble_eq_true rfl) dX10_tell_22 (fun _ => rfl) rfl (fun r6 M5 => ?_)
      refine j_if_ne (pc := 25) hX 30 dX10_tell_25 (by decide) ?_ ?_
      · refine j_aload_n (pc := 30) hX 0 dX10_tell_30 rfl rfl ?_
        refine j_getR (pc := 31) (t := 12) hX (jb rfl) rfl (ci := 9) (C := RX10) (T := TX10) (N := 30) rfl (jb rfl) inX10 (j := 19) (jb rfl) rfl tw_939 dX10_tell_31 ?_
        refine j_iload_n (pc := 34) hX 1 dX10_tell_34 rfl rfl ?_
        refine j_iald (pc := 35) hX (jb rfl) rfl rfl dX10_tell_35 (fun v7 => ?_)
        refine j_if_eq (pc := 36) hX 42 dX10_tell_36 (by decide) ?_ ?_
        · refine j_iconst (pc := 42) (v := (0 : Int32)) hX dX10_tell_42 ci_0 ?_
          refine j_istore (pc := 43) (lv' := [(4, .int (0 : Int32)), (0, .ref (gad (gM E) 0)), (1, .int x1), (2, .int x2), (3, .int x3)]) hX dX10_tell_43 (jb rfl) rfl ?_
          refine j_sub [1, 2, 3, 4, 0] rfl (wX10_tell_45 hX fu     fu x1 x2 x3 (0 : Int32) M5)
        · refine j_bipush (pc := 39) (v := (-2 : Int32)) hX dX10_tell_39 cb_m2 ?_
          exact j_iret (pc := 41) hX rfl dX10_tell_41
      · refine j_iconst (pc := 28) (v := (-1 : Int32)) hX dX10_tell_28 ci_m1 ?_
        exact j_iret (pc := 29) hX rfl dX10_tell_29
theorem mX10_tell (l : Launch) (E : jE) (hI : jInj (gM E)) (fu : Nat)  (x1 : Int32) (x2 : Int32) (x3 : Int32) (M : Mem) : jMet l (gM E) yX10_tell cX10_tell 5 (some .int) rX10_tell [.ref (gad (gM E) 0), .int x1, .int x2, .int x3] M (pX10_tell fu  x1 x2 x3 M) :=
  j_entry hI (by decide +kernel) (Nat.le_of_ble_eq_true rfl) rfl (fun X _ hX => wX10_tell hX fu   x1 x2 x3 M)
