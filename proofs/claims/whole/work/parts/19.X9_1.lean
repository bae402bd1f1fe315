theorem dX9_reading_0 : decode cX9_reading 0 = .ok (.aload_n 0, 1) := by decide +kernel
theorem dX9_reading_1 : decode cX9_reading 1 = .ok (.getfield 26, 3) := by decide +kernel
theorem dX9_reading_4 : decode cX9_reading 4 = .ok (.iload_n 1, 1) := by decide +kernel
theorem dX9_reading_5 : decode cX9_reading 5 = .ok (.invokevirtual 135, 3) := by decide +kernel
theorem dX9_reading_8 : decode cX9_reading 8 = .ok (.ifCond .ne 5, 3) := by decide +kernel
theorem dX9_reading_11 : decode cX9_reading 11 = .ok (.iconst (-1), 1) := by decide +kernel
theorem dX9_reading_12 : decode cX9_reading 12 = .ok (.ireturn, 1) := by decide +kernel
theorem dX9_reading_13 : decode cX9_reading 13 = .ok (.aload_n 0, 1) := by decide +kernel
theorem dX9_reading_14 : decode cX9_reading 14 = .ok (.getfield 38, 3) := by decide +kernel
theorem dX9_reading_17 : decode cX9_reading 17 = .ok (.iload_n 1, 1) := by decide +kernel
theorem dX9_reading_18 : decode cX9_reading 18 = .ok (.invokevirtual 147, 3) := by decide +kernel
theorem dX9_reading_21 : decode cX9_reading 21 = .ok (.ifCond .eq 18, 3) := by decide +kernel
theorem dX9_reading_24 : decode cX9_reading 24 = .ok (.aload_n 0, 1) := by decide +kernel
theorem dX9_reading_25 : decode cX9_reading 25 = .ok (.getfield 57, 3) := by decide +kernel
theorem dX9_reading_28 : decode cX9_reading 28 = .ok (.aload_n 0, 1) := by decide +kernel
theorem dX9_reading_29 : decode cX9_reading 29 = .ok (.getfield 38, 3) := by decide +kernel
theorem dX9_reading_32 : decode cX9_reading 32 = .ok (.iload_n 1, 1) := by decide +kernel
theorem dX9_reading_33 : decode cX9_reading 33 = .ok (.invokevirtual 199, 3) := by decide +kernel
theorem dX9_reading_36 : decode cX9_reading 36 = .ok (.goto 5, 3) := by decide +kernel
theorem dX9_reading_39 : decode cX9_reading 39 = .ok (.bipush (-2), 2) := by decide +kernel
theorem dX9_reading_41 : decode cX9_reading 41 = .ok (.ireturn, 1) := by decide +kernel
theorem dX9_right_0 : decode cX9_right 0 = .ok (.aload_n 0, 1) := by decide +kernel
theorem dX9_right_1 : decode cX9_right 1 = .ok (.getfield 26, 3) := by decide +kernel
theorem dX9_right_4 : decode cX9_right 4 = .ok (.iload_n 1, 1) := by decide +kernel
theorem dX9_right_5 : decode cX9_right 5 = .ok (.invokevirtual 126, 3) := by decide +kernel
theorem dX9_right_8 : decode cX9_right 8 = .ok (.ifCond .eq 26, 3) := by decide +kernel
theorem dX9_right_11 : decode cX9_right 11 = .ok (.iload_n 2, 1) := by decide +kernel
theorem dX9_right_12 : decode cX9_right 12 = .ok (.invokestatic 153, 3) := by decide +kernel
theorem dX9_right_15 : decode cX9_right 15 = .ok (.ifCond .eq 19, 3) := by decide +kernel
theorem dX9_right_18 : decode cX9_right 18 = .ok (.aload_n 0, 1) := by decide +kernel
theorem dX9_right_19 : decode cX9_right 19 = .ok (.getfield 57, 3) := by decide +kernel
theorem dX9_right_22 : decode cX9_right 22 = .ok (.aload_n 0, 1) := by decide +kernel
theorem dX9_right_23 : decode cX9_right 23 = .ok (.getfield 38, 3) := by decide +kernel
theorem dX9_right_26 : decode cX9_right 26 = .ok (.iload_n 1, 1) := by decide +kernel
theorem dX9_right_27 : decode cX9_right 27 = .ok (.iload_n 2, 1) := by decide +kernel
theorem dX9_right_28 : decode cX9_right 28 = .ok (.invokevirtual 201, 3) := by decide +kernel
theorem dX9_right_31 : decode cX9_right 31 = .ok (.goto 4, 3) := by decide +kernel
theorem dX9_right_34 : decode cX9_right 34 = .ok (.iconst (-1), 1) := by decide +kernel
theorem dX9_right_35 : decode cX9_right 35 = .ok (.ireturn, 1) := by decide +kernel
theorem dX9_soonest_0 : decode cX9_soonest 0 = .ok (.aload_n 0, 1) := by decide +kernel
theorem dX9_soonest_1 : decode cX9_soonest 1 = .ok (.getfield 26, 3) := by decide +kernel
theorem dX9_soonest_4 : decode cX9_soonest 4 = .ok (.iload_n 1, 1) := by decide +kernel
theorem dX9_soonest_5 : decode cX9_soonest 5 = .ok (.invokevirtual 126, 3) := by decide +kernel
theorem dX9_soonest_8 : decode cX9_soonest 8 = .ok (.ifCond .eq 26, 3) := by decide +kernel
theorem dX9_soonest_11 : decode cX9_soonest 11 = .ok (.iload_n 2, 1) := by decide +kernel
theorem dX9_soonest_12 : decode cX9_soonest 12 = .ok (.invokestatic 153, 3) := by decide +kernel
theorem dX9_soonest_15 : decode cX9_soonest 15 = .ok (.ifCond .eq 19, 3) := by decide +kernel
theorem dX9_soonest_18 : decode cX9_soonest 18 = .ok (.aload_n 0, 1) := by decide +kernel
theorem dX9_soonest_19 : decode cX9_soonest 19 = .ok (.getfield 57, 3) := by decide +kernel
theorem dX9_soonest_22 : decode cX9_soonest 22 = .ok (.aload_n 0, 1) := by decide +kernel
theorem dX9_soonest_23 : decode cX9_soonest 23 = .ok (.getfield 38, 3) := by decide +kernel
theorem dX9_soonest_26 : decode cX9_soonest 26 = .ok (.iload_n 1, 1) := by decide +kernel
theorem dX9_soonest_27 : decode cX9_soonest 27 = .ok (.iload_n 2, 1) := by decide +kernel
theorem dX9_soonest_28 : decode cX9_soonest 28 = .ok (.invokevirtual 205, 3) := by decide +kernel
theorem dX9_soonest_31 : decode cX9_soonest 31 = .ok (.goto 4, 3) := by decide +kernel
theorem dX9_soonest_34 : decode cX9_soonest 34 = .ok (.iconst (-1), 1) := by decide +kernel
theorem dX9_soonest_35 : decode cX9_soonest 35 = .ok (.ireturn, 1) := by decide +kernel
theorem dX9_lowestBit_0 : decode cX9_lowestBit 0 = .ok (.iconst 0, 1) := by decide +kernel
theorem dX9_lowestBit_1 : decode cX9_lowestBit 1 = .ok (.istore_n 1, 1) := by decide +kernel
theorem dX9_lowestBit_2 : decode cX9_lowestBit 2 = .ok (.iload_n 1, 1) := by decide +kernel
theorem dX9_lowestBit_3 : decode cX9_lowestBit 3 = .ok (.bipush 8, 2) := by decide +kernel
theorem dX9_lowestBit_5 : decode cX9_lowestBit 5 = .ok (.if_icmp .ge 20, 3) := by decide +kernel
theorem dX9_lowestBit_8 : decode cX9_lowestBit 8 = .ok (.iload_n 0, 1) := by decide +kernel
theorem dX9_lowestBit_9 : decode cX9_lowestBit 9 = .ok (.iload_n 1, 1) := by decide +kernel
theorem dX9_lowestBit_10 : decode cX9_lowestBit 10 = .ok (.ishr, 1) := by decide +kernel
theorem dX9_lowestBit_11 : decode cX9_lowestBit 11 = .ok (.iconst 1, 1) := by decide +kernel
theorem dX9_lowestBit_12 : decode cX9_lowestBit 12 = .ok (.iand, 1) := by decide +kernel
theorem dX9_lowestBit_13 : decode cX9_lowestBit 13 = .ok (.iconst 1, 1) := by decide +kernel
theorem dX9_lowestBit_14 : decode cX9_lowestBit 14 = .ok (.if_icmp .ne 5, 3) := by decide +kernel
theorem dX9_lowestBit_17 : decode cX9_lowestBit 17 = .ok (.iload_n 1, 1) := by decide +kernel
theorem dX9_lowestBit_18 : decode cX9_lowestBit 18 = .ok (.ireturn, 1) := by decide +kernel
theorem dX9_lowestBit_19 : decode cX9_lowestBit 19 = .ok (.iinc 1 1, 3) := by decide +kernel
theorem dX9_lowestBit_22 : decode cX9_lowestBit 22 = .ok (.goto (-20), 3) := by decide +kernel
theorem dX9_lowestBit_25 : decode cX9_lowestBit 25 = .ok (.bipush (-4), 2) := by decide +kernel
theorem dX9_lowestBit_27 : decode cX9_lowestBit 27 = .ok (.ireturn, 1) := by decide +kernel
theorem dX9_tell_0 : decode cX9_tell 0 = .ok (.aload_n 0, 1) := by decide +kernel
theorem dX9_tell_1 : decode cX9_tell 1 = .ok (.getfield 26, 3) := by decide +kernel
theorem dX9_tell_4 : decode cX9_tell 4 = .ok (.iload_n 1, 1) := by decide +kernel
theorem dX9_tell_5 : decode cX9_tell 5 = .ok (.invokevirtual 135, 3) := by decide +kernel
theorem dX9_tell_8 : decode cX9_tell 8 = .ok (.ifCond .eq 21, 3) := by decide +kernel
theorem dX9_tell_11 : decode cX9_tell 11 = .ok (.aload_n 0, 1) := by decide +kernel
theorem dX9_tell_12 : decode cX9_tell 12 = .ok (.getfield 26, 3) := by decide +kernel
theorem dX9_tell_15 : decode cX9_tell 15 = .ok (.iload_n 2, 1) := by decide +kernel
theorem dX9_tell_16 : decode cX9_tell 16 = .ok (.invokevirtual 126, 3) := by decide +kernel
theorem dX9_tell_19 : decode cX9_tell 19 = .ok (.ifCond .eq 10, 3) := by decide +kernel
theorem dX9_tell_22 : decode cX9_tell 22 = .ok (.iload_n 3, 1) := by decide +kernel
theorem dX9_tell_23 : decode cX9_tell 23 = .ok (.invokestatic 153, 3) := by decide +kernel
theorem dX9_tell_26 : decode cX9_tell 26 = .ok (.ifCond .ne 5, 3) := by decide +kernel
theorem dX9_tell_29 : decode cX9_tell 29 = .ok (.iconst (-1), 1) := by decide +kernel
theorem dX9_tell_30 : decode cX9_tell 30 = .ok (.ireturn, 1) := by decide +kernel
theorem dX9_tell_31 : decode cX9_tell 31 = .ok (.aload_n 0, 1) := by decide +kernel
theorem dX9_tell_32 : decode cX9_tell 32 = .ok (.getfield 38, 3) := by decide +kernel
theorem dX9_tell_35 : decode cX9_tell 35 = .ok (.iload_n 1, 1) := by decide +kernel
theorem dX9_tell_36 : decode cX9_tell 36 = .ok (.iconst 0, 1) := by decide +kernel
theorem dX9_tell_37 : decode cX9_tell 37 = .ok (.invokevirtual 175, 3) := by decide +kernel
theorem dX9_tell_40 : decode cX9_tell 40 = .ok (.ifCond .eq 23, 3) := by decide +kernel
theorem dX9_tell_43 : decode cX9_tell 43 = .ok (.aload_n 0, 1) := by decide +kernel
theorem dX9_tell_44 : decode cX9_tell 44 = .ok (.getfield 57, 3) := by decide +kernel
theorem dX9_tell_47 : decode cX9_tell 47 = .ok (.aload_n 0, 1) := by decide +kernel
theorem dX9_tell_48 : decode cX9_tell 48 = .ok (.getfield 38, 3) := by decide +kernel
theorem dX9_tell_51 : decode cX9_tell 51 = .ok (.iload_n 1, 1) := by decide +kernel
theorem dX9_tell_52 : decode cX9_tell 52 = .ok (.iload_n 2, 1) := by decide +kernel
theorem dX9_tell_53 : decode cX9_tell 53 = .ok (.iload_n 3, 1) := by decide +kernel
theorem dX9_tell_54 : decode cX9_tell 54 = .ok (.invokevirtual 208, 3) := by decide +kernel
theorem dX9_tell_57 : decode cX9_tell 57 = .ok (.invokestatic 212, 3) := by decide +kernel
theorem dX9_tell_60 : decode cX9_tell 60 = .ok (.goto 5, 3) := by decide +kernel
theorem dX9_tell_63 : decode cX9_tell 63 = .ok (.bipush (-2), 2) := by decide +kernel
theorem dX9_tell_65 : decode cX9_tell 65 = .ok (.ireturn, 1) := by decide +kernel
theorem dX9_deal_0 : decode cX9_deal 0 = .ok (.iload_n 1, 1) := by decide +kernel
theorem dX9_deal_1 : decode cX9_deal 1 = .ok (.invokestatic 153, 3) := by decide +kernel
theorem dX9_deal_4 : decode cX9_deal 4 = .ok (.ifCond .eq 19, 3) := by decide +kernel
theorem dX9_deal_7 : decode cX9_deal 7 = .ok (.iload_n 2, 1) := by decide +kernel
theorem dX9_deal_8 : decode cX9_deal 8 = .ok (.iconst (-1), 1) := by decide +kernel
theorem dX9_deal_9 : decode cX9_deal 9 = .ok (.if_icmp .eq 16, 3) := by decide +kernel
theorem dX9_deal_12 : decode cX9_deal 12 = .ok (.aload_n 0, 1) := by decide +kernel
theorem dX9_deal_13 : decode cX9_deal 13 = .ok (.getfield 26, 3) := by decide +kernel
theorem dX9_deal_16 : decode cX9_deal 16 = .ok (.iload_n 2, 1) := by decide +kernel
theorem dX9_deal_17 : decode cX9_deal 17 = .ok (.invokevirtual 126, 3) := by decide +kernel
theorem dX9_deal_20 : decode cX9_deal 20 = .ok (.ifCond .ne 5, 3) := by decide +kernel
theorem dX9_deal_23 : decode cX9_deal 23 = .ok (.iconst (-1), 1) := by decide +kernel
theorem dX9_deal_24 : decode cX9_deal 24 = .ok (.ireturn, 1) := by decide +kernel
theorem dX9_deal_25 : decode cX9_deal 25 = .ok (.aload_n 0, 1) := by decide +kernel
theorem dX9_deal_26 : decode cX9_deal 26 = .ok (.getfield 64, 3) := by decide +kernel
theorem dX9_deal_29 : decode cX9_deal 29 = .ok (.aload_n 0, 1) := by decide +kernel
theorem dX9_deal_30 : decode cX9_deal 30 = .ok (.getfield 38, 3) := by decide +kernel
theorem dX9_deal_33 : decode cX9_deal 33 = .ok (.iload_n 1, 1) := by decide +kernel
theorem dX9_deal_34 : decode cX9_deal 34 = .ok (.invokevirtual 215, 3) := by decide +kernel
theorem dX9_deal_37 : decode cX9_deal 37 = .ok (.istore_n 3, 1) := by decide +kernel
theorem dX9_deal_38 : decode cX9_deal 38 = .ok (.iload_n 3, 1) := by decide +kernel
theorem dX9_deal_39 : decode cX9_deal 39 = .ok (.bipush (-4), 2) := by decide +kernel
theorem dX9_deal_41 : decode cX9_deal 41 = .ok (.if_icmp .eq 8, 3) := by decide +kernel
theorem dX9_deal_44 : decode cX9_deal 44 = .ok (.iload_n 2, 1) := by decide +kernel
theorem dX9_deal_45 : decode cX9_deal 45 = .ok (.iconst (-1), 1) := by decide +kernel
theorem dX9_deal_46 : decode cX9_deal 46 = .ok (.if_icmp .ne 7, 3) := by decide +kernel
theorem dX9_deal_49 : decode cX9_deal 49 = .ok (.iload_n 3, 1) := by decide +kernel
theorem dX9_deal_50 : decode cX9_deal 50 = .ok (.goto 11, 3) := by decide +kernel
theorem dX9_deal_53 : decode cX9_deal 53 = .ok (.aload_n 0, 1) := by decide +kernel
theorem dX9_deal_54 : decode cX9_deal 54 = .ok (.getfield 64, 3) := by decide +kernel
theorem dX9_deal_57 : decode cX9_deal 57 = .ok (.iload_n 2, 1) := by decide +kernel
theorem dX9_deal_58 : decode cX9_deal 58 = .ok (.invokevirtual 218, 3) := by decide +kernel
theorem dX9_deal_61 : decode cX9_deal 61 = .ok (.ireturn, 1) := by decide +kernel
theorem dX9_lure_0 : decode cX9_lure 0 = .ok (.aload_n 0, 1) := by decide +kernel
theorem dX9_lure_1 : decode cX9_lure 1 = .ok (.getfield 26, 3) := by decide +kernel
theorem dX9_lure_4 : decode cX9_lure 4 = .ok (.iload_n 1, 1) := by decide +kernel
theorem dX9_lure_5 : decode cX9_lure 5 = .ok (.invokevirtual 135, 3) := by decide +kernel
theorem dX9_lure_8 : decode cX9_lure 8 = .ok (.ifCond .ne 5, 3) := by decide +kernel
theorem dX9_lure_11 : decode cX9_lure 11 = .ok (.iconst (-1), 1) := by decide +kernel
theorem dX9_lure_12 : decode cX9_lure 12 = .ok (.ireturn, 1) := by decide +kernel
theorem dX9_lure_13 : decode cX9_lure 13 = .ok (.aload_n 0, 1) := by decide +kernel
theorem dX9_lure_14 : decode cX9_lure 14 = .ok (.getfield 38, 3) := by decide +kernel
theorem dX9_lure_17 : decode cX9_lure 17 = .ok (.iload_n 1, 1) := by decide +kernel
theorem dX9_lure_18 : decode cX9_lure 18 = .ok (.iconst 1, 1) := by decide +kernel
theorem dX9_lure_19 : decode cX9_lure 19 = .ok (.invokevirtual 175, 3) := by decide +kernel
theorem dX9_lure_22 : decode cX9_lure 22 = .ok (.ifCond .eq 18, 3) := by decide +kernel
theorem dX9_lure_25 : decode cX9_lure 25 = .ok (.aload_n 0, 1) := by decide +kernel
theorem dX9_lure_26 : decode cX9_lure 26 = .ok (.getfield 57, 3) := by decide +kernel
theorem dX9_lure_29 : decode cX9_lure 29 = .ok (.aload_n 0, 1) := by decide +kernel
theorem dX9_lure_30 : decode cX9_lure 30 = .ok (.getfield 38, 3) := by decide +kernel
theorem dX9_lure_33 : decode cX9_lure 33 = .ok (.iload_n 1, 1) := by decide +kernel
theorem dX9_lure_34 : decode cX9_lure 34 = .ok (.invokevirtual 221, 3) := by decide +kernel
theorem dX9_lure_37 : decode cX9_lure 37 = .ok (.goto 5, 3) := by decide +kernel
theorem dX9_lure_40 : decode cX9_lure 40 = .ok (.bipush (-2), 2) := by decide +kernel
theorem dX9_lure_42 : decode cX9_lure 42 = .ok (.ireturn, 1) := by decide +kernel
theorem dX9_next_0 : decode cX9_next 0 = .ok (.aload_n 0, 1) := by decide +kernel
theorem dX9_next_1 : decode cX9_next 1 = .ok (.getfield 26, 3) := by decide +kernel
theorem dX9_next_4 : decode cX9_next 4 = .ok (.iload_n 1, 1) := by decide +kernel
theorem dX9_next_5 : decode cX9_next 5 = .ok (.invokevirtual 135, 3) := by decide +kernel
theorem dX9_next_8 : decode cX9_next 8 = .ok (.ifCond .eq 7, 3) := by decide +kernel
theorem dX9_next_11 : decode cX9_next 11 = .ok (.iload_n 2, 1) := by decide +kernel
theorem dX9_next_12 : decode cX9_next 12 = .ok (.ifCond .ge 5, 3) := by decide +kernel
theorem dX9_next_15 : decode cX9_next 15 = .ok (.iconst (-1), 1) := by decide +kernel
theorem dX9_next_16 : decode cX9_next 16 = .ok (.ireturn, 1) := by decide +kernel
theorem dX9_next_17 : decode cX9_next 17 = .ok (.aload_n 0, 1) := by decide +kernel
theorem dX9_next_18 : decode cX9_next 18 = .ok (.getfield 38, 3) := by decide +kernel
theorem dX9_next_21 : decode cX9_next 21 = .ok (.iload_n 1, 1) := by decide +kernel
theorem dX9_next_22 : decode cX9_next 22 = .ok (.invokevirtual 224, 3) := by decide +kernel
theorem dX9_next_25 : decode cX9_next 25 = .ok (.ifCond .eq 15, 3) := by decide +kernel
theorem dX9_next_28 : decode cX9_next 28 = .ok (.aload_n 0, 1) := by decide +kernel
theorem dX9_next_29 : decode cX9_next 29 = .ok (.getfield 38, 3) := by decide +kernel
theorem dX9_next_32 : decode cX9_next 32 = .ok (.iload_n 1, 1) := by decide +kernel
theorem dX9_next_33 : decode cX9_next 33 = .ok (.iload_n 2, 1) := by decide +kernel
theorem dX9_next_34 : decode cX9_next 34 = .ok (.invokevirtual 227, 3) := by decide +kernel
theorem dX9_next_37 : decode cX9_next 37 = .ok (.goto 5, 3) := by decide +kernel
theorem dX9_next_40 : decode cX9_next 40 = .ok (.bipush (-2), 2) := by decide +kernel
theorem dX9_next_42 : decode cX9_next 42 = .ok (.ireturn, 1) := by decide +kernel
theorem dX9_meet_0 : decode cX9_meet 0 = .ok (.aload_n 0, 1) := by decide +kernel
theorem dX9_meet_1 : decode cX9_meet 1 = .ok (.getfield 26, 3) := by decide +kernel
theorem dX9_meet_4 : decode cX9_meet 4 = .ok (.iload_n 1, 1) := by decide +kernel
theorem dX9_meet_5 : decode cX9_meet 5 = .ok (.invokevirtual 135, 3) := by decide +kernel
theorem dX9_meet_8 : decode cX9_meet 8 = .ok (.ifCond .eq 19, 3) := by decide +kernel
theorem dX9_meet_11 : decode cX9_meet 11 = .ok (.aload_n 0, 1) := by decide +kernel
theorem dX9_meet_12 : decode cX9_meet 12 = .ok (.getfield 26, 3) := by decide +kernel
theorem dX9_meet_15 : decode cX9_meet 15 = .ok (.iload_n 2, 1) := by decide +kernel
theorem dX9_meet_16 : decode cX9_meet 16 = .ok (.invokevirtual 135, 3) := by decide +kernel
theorem dX9_meet_19 : decode cX9_meet 19 = .ok (.ifCond .eq 8, 3) := by decide +kernel
theorem dX9_meet_22 : decode cX9_meet 22 = .ok (.iload_n 1, 1) := by decide +kernel
theorem dX9_meet_23 : decode cX9_meet 23 = .ok (.iload_n 2, 1) := by decide +kernel
theorem dX9_meet_24 : decode cX9_meet 24 = .ok (.if_icmp .ne 5, 3) := by decide +kernel
theorem dX9_meet_27 : decode cX9_meet 27 = .ok (.iconst (-1), 1) := by decide +kernel
theorem dX9_meet_28 : decode cX9_meet 28 = .ok (.ireturn, 1) := by decide +kernel
theorem dX9_meet_29 : decode cX9_meet 29 = .ok (.aload_n 0, 1) := by decide +kernel
theorem dX9_meet_30 : decode cX9_meet 30 = .ok (.getfield 57, 3) := by decide +kernel
theorem dX9_meet_33 : decode cX9_meet 33 = .ok (.aload_n 0, 1) := by decide +kernel
theorem dX9_meet_34 : decode cX9_meet 34 = .ok (.getfield 38, 3) := by decide +kernel
theorem dX9_meet_37 : decode cX9_meet 37 = .ok (.iload_n 1, 1) := by decide +kernel
theorem dX9_meet_38 : decode cX9_meet 38 = .ok (.iload_n 2, 1) := by decide +kernel
theorem dX9_meet_39 : decode cX9_meet 39 = .ok (.invokevirtual 230, 3) := by decide +kernel
theorem dX9_meet_42 : decode cX9_meet 42 = .ok (.ireturn, 1) := by decide +kernel
theorem dX9_told_0 : decode cX9_told 0 = .ok (.aload_n 0, 1) := by decide +kernel
theorem dX9_told_1 : decode cX9_told 1 = .ok (.getfield 26, 3) := by decide +kernel
theorem dX9_told_4 : decode cX9_told 4 = .ok (.iload_n 1, 1) := by decide +kernel
theorem dX9_told_5 : decode cX9_told 5 = .ok (.invokevirtual 135, 3) := by decide +kernel
theorem dX9_told_8 : decode cX9_told 8 = .ok (.ifCond .eq 10, 3) := by decide +kernel
theorem dX9_told_11 : decode cX9_told 11 = .ok (.iload_n 2, 1) := by decide +kernel
theorem dX9_told_12 : decode cX9_told 12 = .ok (.invokestatic 153, 3) := by decide +kernel
theorem dX9_told_15 : decode cX9_told 15 = .ok (.ifCond .ne 5, 3) := by decide +kernel
theorem dX9_told_18 : decode cX9_told 18 = .ok (.iconst (-1), 1) := by decide +kernel
theorem dX9_told_19 : decode cX9_told 19 = .ok (.ireturn, 1) := by decide +kernel
theorem dX9_told_20 : decode cX9_told 20 = .ok (.aload_n 0, 1) := by decide +kernel
theorem dX9_told_21 : decode cX9_told 21 = .ok (.getfield 38, 3) := by decide +kernel
theorem dX9_told_24 : decode cX9_told 24 = .ok (.iload_n 1, 1) := by decide +kernel
theorem dX9_told_25 : decode cX9_told 25 = .ok (.invokevirtual 147, 3) := by decide +kernel
theorem dX9_told_28 : decode cX9_told 28 = .ok (.ifCond .eq 15, 3) := by decide +kernel
theorem dX9_told_31 : decode cX9_told 31 = .ok (.aload_n 0, 1) := by decide +kernel
theorem dX9_told_32 : decode cX9_told 32 = .ok (.getfield 38, 3) := by decide +kernel
theorem dX9_told_35 : decode cX9_told 35 = .ok (.iload_n 1, 1) := by decide +kernel
theorem dX9_told_36 : decode cX9_told 36 = .ok (.iload_n 2, 1) := by decide +kernel
theorem dX9_told_37 : decode cX9_told 37 = .ok (.invokevirtual 233, 3) := by decide +kernel
theorem dX9_told_40 : decode cX9_told 40 = .ok (.goto 5, 3) := by decide +kernel
theorem dX9_told_43 : decode cX9_told 43 = .ok (.bipush (-2), 2) := by decide +kernel
theorem dX9_told_45 : decode cX9_told 45 = .ok (.ireturn, 1) := by decide +kernel
theorem dJ6_bitCount_0f7a4_0 : decode cJ6_bitCount_0f7a4 0 = .ok (.iload_n 0, 1) := by decide +kernel
theorem dJ6_bitCount_0f7a4_1 : decode cJ6_bitCount_0f7a4 1 = .ok (.iload_n 0, 1) := by decide +kernel
theorem dJ6_bitCount_0f7a4_2 : decode cJ6_bitCount_0f7a4 2 = .ok (.iconst 1, 1) := by decide +kernel
theorem dJ6_bitCount_0f7a4_3 : decode cJ6_bitCount_0f7a4 3 = .ok (.iushr, 1) := by decide +kernel
theorem dJ6_bitCount_0f7a4_4 : decode cJ6_bitCount_0f7a4 4 = .ok (.ldc_w 265, 3) := by decide +kernel
theorem dJ6_bitCount_0f7a4_7 : decode cJ6_bitCount_0f7a4 7 = .ok (.iand, 1) := by decide +kernel
theorem dJ6_bitCount_0f7a4_8 : decode cJ6_bitCount_0f7a4 8 = .ok (.isub, 1) := by decide +kernel
theorem dJ6_bitCount_0f7a4_9 : decode cJ6_bitCount_0f7a4 9 = .ok (.istore_n 0, 1) := by decide +kernel
theorem dJ6_bitCount_0f7a4_10 : decode cJ6_bitCount_0f7a4 10 = .ok (.iload_n 0, 1) := by decide +kernel
theorem dJ6_bitCount_0f7a4_11 : decode cJ6_bitCount_0f7a4 11 = .ok (.ldc_w 266, 3) := by decide +kernel
theorem dJ6_bitCount_0f7a4_14 : decode cJ6_bitCount_0f7a4 14 = .ok (.iand, 1) := by decide +kernel
theorem dJ6_bitCount_0f7a4_15 : decode cJ6_bitCount_0f7a4 15 = .ok (.iload_n 0, 1) := by decide +kernel
theorem dJ6_bitCount_0f7a4_16 : decode cJ6_bitCount_0f7a4 16 = .ok (.iconst 2, 1) := by decide +kernel
theorem dJ6_bitCount_0f7a4_17 : decode cJ6_bitCount_0f7a4 17 = .ok (.iushr, 1) := by decide +kernel
theorem dJ6_bitCount_0f7a4_18 : decode cJ6_bitCount_0f7a4 18 = .ok (.ldc_w 266, 3) := by decide +kernel
theorem dJ6_bitCount_0f7a4_21 : decode cJ6_bitCount_0f7a4 21 = .ok (.iand, 1) := by decide +kernel
theorem dJ6_bitCount_0f7a4_22 : decode cJ6_bitCount_0f7a4 22 = .ok (.iadd, 1) := by decide +kernel
theorem dJ6_bitCount_0f7a4_23 : decode cJ6_bitCount_0f7a4 23 = .ok (.istore_n 0, 1) := by decide +kernel
theorem dJ6_bitCount_0f7a4_24 : decode cJ6_bitCount_0f7a4 24 = .ok (.iload_n 0, 1) := by decide +kernel
theorem dJ6_bitCount_0f7a4_25 : decode cJ6_bitCount_0f7a4 25 = .ok (.iload_n 0, 1) := by decide +kernel
theorem dJ6_bitCount_0f7a4_26 : decode cJ6_bitCount_0f7a4 26 = .ok (.iconst 4, 1) := by decide +kernel
theorem dJ6_bitCount_0f7a4_27 : decode cJ6_bitCount_0f7a4 27 = .ok (.iushr, 1) := by decide +kernel
theorem dJ6_bitCount_0f7a4_28 : decode cJ6_bitCount_0f7a4 28 = .ok (.iadd, 1) := by decide +kernel
theorem dJ6_bitCount_0f7a4_29 : decode cJ6_bitCount_0f7a4 29 = .ok (.ldc_w 267, 3) := by decide +kernel
theorem dJ6_bitCount_0f7a4_32 : decode cJ6_bitCount_0f7a4 32 = .ok (.iand, 1) := by decide +kernel
theorem dJ6_bitCount_0f7a4_33 : decode cJ6_bitCount_0f7a4 33 = .ok (.istore_n 0, 1) := by decide +kernel
theorem dJ6_bitCount_0f7a4_34 : decode cJ6_bitCount_0f7a4 34 = .ok (.iload_n 0, 1) := by decide +kernel
theorem dJ6_bitCount_0f7a4_35 : decode cJ6_bitCount_0f7a4 35 = .ok (.iload_n 0, 1) := by decide +kernel
theorem dJ6_bitCount_0f7a4_36 : decode cJ6_bitCount_0f7a4 36 = .ok (.bipush 8, 2) := by decide +kernel
theorem dJ6_bitCount_0f7a4_38 : decode cJ6_bitCount_0f7a4 38 = .ok (.iushr, 1) := by decide +kernel
theorem dJ6_bitCount_0f7a4_39 : decode cJ6_bitCount_0f7a4 39 = .ok (.iadd, 1) := by decide +kernel
theorem dJ6_bitCount_0f7a4_40 : decode cJ6_bitCount_0f7a4 40 = .ok (.istore_n 0, 1) := by decide +kernel
theorem dJ6_bitCount_0f7a4_41 : decode cJ6_bitCount_0f7a4 41 = .ok (.iload_n 0, 1) := by decide +kernel
theorem dJ6_bitCount_0f7a4_42 : decode cJ6_bitCount_0f7a4 42 = .ok (.iload_n 0, 1) := by decide +kernel
theorem dJ6_bitCount_0f7a4_43 : decode cJ6_bitCount_0f7a4 43 = .ok (.bipush 16, 2) := by decide +kernel
theorem dJ6_bitCount_0f7a4_45 : decode cJ6_bitCount_0f7a4 45 = .ok (.iushr, 1) := by decide +kernel
theorem dJ6_bitCount_0f7a4_46 : decode cJ6_bitCount_0f7a4 46 = .ok (.iadd, 1) := by decide +kernel
theorem dJ6_bitCount_0f7a4_47 : decode cJ6_bitCount_0f7a4 47 = .ok (.istore_n 0, 1) := by decide +kernel
theorem dJ6_bitCount_0f7a4_48 : decode cJ6_bitCount_0f7a4 48 = .ok (.iload_n 0, 1) := by decide +kernel
theorem dJ6_bitCount_0f7a4_49 : decode cJ6_bitCount_0f7a4 49 = .ok (.bipush 63, 2) := by decide +kernel
theorem dJ6_bitCount_0f7a4_51 : decode cJ6_bitCount_0f7a4 51 = .ok (.iand, 1) := by decide +kernel
theorem dJ6_bitCount_0f7a4_52 : decode cJ6_bitCount_0f7a4 52 = .ok (.ireturn, 1) := by decide +kernel
theorem dX9_who_0 : decode cX9_who 0 = .ok (.aload_n 0, 1) := by decide +kernel
theorem dX9_who_1 : decode cX9_who 1 = .ok (.getfield 26, 3) := by decide +kernel
theorem dX9_who_4 : decode cX9_who 4 = .ok (.iload_n 1, 1) := by decide +kernel
theorem dX9_who_5 : decode cX9_who 5 = .ok (.invokevirtual 126, 3) := by decide +kernel
theorem dX9_who_8 : decode cX9_who 8 = .ok (.ifCond .eq 19, 3) := by decide +kernel
theorem dX9_who_11 : decode cX9_who 11 = .ok (.iload_n 2, 1) := by decide +kernel
theorem dX9_who_12 : decode cX9_who 12 = .ok (.invokestatic 153, 3) := by decide +kernel
theorem dX9_who_15 : decode cX9_who 15 = .ok (.ifCond .eq 12, 3) := by decide +kernel
theorem dX9_who_18 : decode cX9_who 18 = .ok (.iload_n 3, 1) := by decide +kernel
theorem dX9_who_19 : decode cX9_who 19 = .ok (.ifCond .lt 8, 3) := by decide +kernel
theorem dX9_who_22 : decode cX9_who 22 = .ok (.iload_n 3, 1) := by decide +kernel
theorem dX9_who_23 : decode cX9_who 23 = .ok (.iconst 1, 1) := by decide +kernel
theorem dX9_who_24 : decode cX9_who 24 = .ok (.if_icmp .le 5, 3) := by decide +kernel
theorem dX9_who_27 : decode cX9_who 27 = .ok (.iconst (-1), 1) := by decide +kernel
theorem dX9_who_28 : decode cX9_who 28 = .ok (.ireturn, 1) := by decide +kernel
theorem dX9_who_29 : decode cX9_who 29 = .ok (.iconst 0, 1) := by decide +kernel
theorem dX9_who_30 : decode cX9_who 30 = .ok (.istore 4, 2) := by decide +kernel
theorem dX9_who_32 : decode cX9_who 32 = .ok (.bipush (-4), 2) := by decide +kernel
theorem dX9_who_34 : decode cX9_who 34 = .ok (.istore 5, 2) := by decide +kernel
theorem dX9_who_36 : decode cX9_who 36 = .ok (.iconst 0, 1) := by decide +kernel
theorem dX9_who_37 : decode cX9_who 37 = .ok (.istore 6, 2) := by decide +kernel
theorem dX9_who_39 : decode cX9_who 39 = .ok (.iload 6, 2) := by decide +kernel
theorem dX9_who_41 : decode cX9_who 41 = .ok (.aload_n 0, 1) := by decide +kernel
theorem dX9_who_42 : decode cX9_who 42 = .ok (.getfield 26, 3) := by decide +kernel
theorem dX9_who_45 : decode cX9_who 45 = .ok (.invokevirtual 105, 3) := by decide +kernel
theorem dX9_who_48 : decode cX9_who 48 = .ok (.if_icmp .ge 61, 3) := by decide +kernel
theorem dX9_who_51 : decode cX9_who 51 = .ok (.aload_n 0, 1) := by decide +kernel
theorem dX9_who_52 : decode cX9_who 52 = .ok (.getfield 57, 3) := by decide +kernel
theorem dX9_who_55 : decode cX9_who 55 = .ok (.aload_n 0, 1) := by decide +kernel
theorem dX9_who_56 : decode cX9_who 56 = .ok (.getfield 38, 3) := by decide +kernel
theorem dX9_who_59 : decode cX9_who 59 = .ok (.iload 6, 2) := by decide +kernel
theorem dX9_who_61 : decode cX9_who 61 = .ok (.iload_n 1, 1) := by decide +kernel
theorem dX9_who_62 : decode cX9_who 62 = .ok (.iload_n 2, 1) := by decide +kernel
theorem dX9_who_63 : decode cX9_who 63 = .ok (.invokevirtual 208, 3) := by decide +kernel
theorem dX9_who_66 : decode cX9_who 66 = .ok (.istore 7, 2) := by decide +kernel
theorem dX9_who_68 : decode cX9_who 68 = .ok (.iload 4, 2) := by decide +kernel
theorem dX9_who_70 : decode cX9_who 70 = .ok (.iload 7, 2) := by decide +kernel
theorem dX9_who_72 : decode cX9_who 72 = .ok (.invokestatic 236, 3) := by decide +kernel
theorem dX9_who_75 : decode cX9_who 75 = .ok (.iadd, 1) := by decide +kernel
theorem dX9_who_76 : decode cX9_who 76 = .ok (.istore 4, 2) := by decide +kernel
theorem dX9_who_78 : decode cX9_who 78 = .ok (.iload 5, 2) := by decide +kernel
theorem dX9_who_80 : decode cX9_who 80 = .ok (.bipush (-4), 2) := by decide +kernel
theorem dX9_who_82 : decode cX9_who 82 = .ok (.if_icmp .ne 21, 3) := by decide +kernel
theorem dX9_who_85 : decode cX9_who 85 = .ok (.iload 7, 2) := by decide +kernel
theorem dX9_who_87 : decode cX9_who 87 = .ok (.ifCond .eq 16, 3) := by decide +kernel
theorem dX9_who_90 : decode cX9_who 90 = .ok (.bipush 10, 2) := by decide +kernel
theorem dX9_who_92 : decode cX9_who 92 = .ok (.iload 6, 2) := by decide +kernel
theorem dX9_who_94 : decode cX9_who 94 = .ok (.imul, 1) := by decide +kernel
theorem dX9_who_95 : decode cX9_who 95 = .ok (.iload 7, 2) := by decide +kernel
theorem dX9_who_97 : decode cX9_who 97 = .ok (.invokestatic 212, 3) := by decide +kernel
theorem dX9_who_100 : decode cX9_who 100 = .ok (.iadd, 1) := by decide +kernel
theorem dX9_who_101 : decode cX9_who 101 = .ok (.istore 5, 2) := by decide +kernel
theorem dX9_who_103 : decode cX9_who 103 = .ok (.iinc 6 1, 3) := by decide +kernel
theorem dX9_who_106 : decode cX9_who 106 = .ok (.goto (-67), 3) := by decide +kernel
theorem dX9_who_109 : decode cX9_who 109 = .ok (.iload_n 3, 1) := by decide +kernel
theorem dX9_who_110 : decode cX9_who 110 = .ok (.ifCond .ne 8, 3) := by decide +kernel
theorem dX9_who_113 : decode cX9_who 113 = .ok (.iload 4, 2) := by decide +kernel
theorem dX9_who_115 : decode cX9_who 115 = .ok (.goto 5, 3) := by decide +kernel
theorem dX9_who_118 : decode cX9_who 118 = .ok (.iload 5, 2) := by decide +kernel
theorem dX9_who_120 : decode cX9_who 120 = .ok (.ireturn, 1) := by decide +kernel
theorem dX9_balks_0 : decode cX9_balks 0 = .ok (.aload_n 0, 1) := by decide +kernel
theorem dX9_balks_1 : decode cX9_balks 1 = .ok (.getfield 26, 3) := by decide +kernel
theorem dX9_balks_4 : decode cX9_balks 4 = .ok (.iload_n 1, 1) := by decide +kernel
theorem dX9_balks_5 : decode cX9_balks 5 = .ok (.invokevirtual 135, 3) := by decide +kernel
theorem dX9_balks_8 : decode cX9_balks 8 = .ok (.ifCond .eq 34, 3) := by decide +kernel
theorem dX9_balks_11 : decode cX9_balks 11 = .ok (.iload_n 2, 1) := by decide +kernel
theorem dX9_balks_12 : decode cX9_balks 12 = .ok (.ifCond .lt 30, 3) := by decide +kernel
theorem dX9_balks_15 : decode cX9_balks 15 = .ok (.iload_n 2, 1) := by decide +kernel
theorem dX9_balks_16 : decode cX9_balks 16 = .ok (.bipush 8, 2) := by decide +kernel
theorem dX9_balks_18 : decode cX9_balks 18 = .ok (.if_icmp .gt 24, 3) := by decide +kernel
theorem dX9_balks_21 : decode cX9_balks 21 = .ok (.iload_n 3, 1) := by decide +kernel
theorem dX9_balks_22 : decode cX9_balks 22 = .ok (.ifCond .lt 20, 3) := by decide +kernel
theorem dX9_balks_25 : decode cX9_balks 25 = .ok (.iload_n 3, 1) := by decide +kernel
theorem dX9_balks_26 : decode cX9_balks 26 = .ok (.bipush 10, 2) := by decide +kernel
theorem dX9_balks_28 : decode cX9_balks 28 = .ok (.if_icmp .gt 14, 3) := by decide +kernel
theorem dX9_balks_31 : decode cX9_balks 31 = .ok (.iload 4, 2) := by decide +kernel
theorem dX9_balks_33 : decode cX9_balks 33 = .ok (.ifCond .lt 9, 3) := by decide +kernel
theorem dX9_balks_36 : decode cX9_balks 36 = .ok (.iload 4, 2) := by decide +kernel
theorem dX9_balks_38 : decode cX9_balks 38 = .ok (.iconst 1, 1) := by decide +kernel
theorem dX9_balks_39 : decode cX9_balks 39 = .ok (.if_icmp .le 5, 3) := by decide +kernel
theorem dX9_balks_42 : decode cX9_balks 42 = .ok (.iconst (-1), 1) := by decide +kernel
theorem dX9_balks_43 : decode cX9_balks 43 = .ok (.ireturn, 1) := by decide +kernel
theorem dX9_balks_44 : decode cX9_balks 44 = .ok (.aload_n 0, 1) := by decide +kernel
theorem dX9_balks_45 : decode cX9_balks 45 = .ok (.getfield 71, 3) := by decide +kernel
theorem dX9_balks_48 : decode cX9_balks 48 = .ok (.aload_n 0, 1) := by decide +kernel
theorem dX9_balks_49 : decode cX9_balks 49 = .ok (.getfield 38, 3) := by decide +kernel
theorem dX9_balks_52 : decode cX9_balks 52 = .ok (.iload_n 1, 1) := by decide +kernel
theorem dX9_balks_53 : decode cX9_balks 53 = .ok (.iload_n 2, 1) := by decide +kernel
theorem dX9_balks_54 : decode cX9_balks 54 = .ok (.iload_n 3, 1) := by decide +kernel
theorem dX9_balks_55 : decode cX9_balks 55 = .ok (.invokevirtual 241, 3) := by decide +kernel
theorem dX9_balks_58 : decode cX9_balks 58 = .ok (.istore 5, 2) := by decide +kernel
theorem dX9_balks_60 : decode cX9_balks 60 = .ok (.iload_n 2, 1) := by decide +kernel
theorem dX9_balks_61 : decode cX9_balks 61 = .ok (.invokestatic 244, 3) := by decide +kernel
theorem dX9_balks_64 : decode cX9_balks 64 = .ok (.istore 6, 2) := by decide +kernel
theorem dX9_balks_66 : decode cX9_balks 66 = .ok (.iload 5, 2) := by decide +kernel
theorem dX9_balks_68 : decode cX9_balks 68 = .ok (.iload 6, 2) := by decide +kernel
theorem dX9_balks_70 : decode cX9_balks 70 = .ok (.invokestatic 247, 3) := by decide +kernel
theorem dX9_balks_73 : decode cX9_balks 73 = .ok (.istore 7, 2) := by decide +kernel
theorem dX9_balks_75 : decode cX9_balks 75 = .ok (.iload 7, 2) := by decide +kernel
theorem dX9_balks_77 : decode cX9_balks 77 = .ok (.ifCond .ne 8, 3) := by decide +kernel
theorem dX9_balks_80 : decode cX9_balks 80 = .ok (.bipush (-4), 2) := by decide +kernel
theorem dX9_balks_82 : decode cX9_balks 82 = .ok (.goto 18, 3) := by decide +kernel
theorem dX9_balks_85 : decode cX9_balks 85 = .ok (.iload 4, 2) := by decide +kernel
theorem dX9_balks_87 : decode cX9_balks 87 = .ok (.ifCond .ne 8, 3) := by decide +kernel
theorem dX9_balks_90 : decode cX9_balks 90 = .ok (.iload 5, 2) := by decide +kernel
theorem dX9_balks_92 : decode cX9_balks 92 = .ok (.goto 5, 3) := by decide +kernel
theorem dX9_balks_95 : decode cX9_balks 95 = .ok (.iload 6, 2) := by decide +kernel
theorem dX9_balks_97 : decode cX9_balks 97 = .ok (.iload 7, 2) := by decide +kernel
theorem dX9_balks_99 : decode cX9_balks 99 = .ok (.idiv, 1) := by decide +kernel
theorem dX9_balks_100 : decode cX9_balks 100 = .ok (.ireturn, 1) := by decide +kernel
theorem dX9_year_0 : decode cX9_year 0 = .ok (.iload_n 1, 1) := by decide +kernel
theorem dX9_year_1 : decode cX9_year 1 = .ok (.ifCond .lt 21, 3) := by decide +kernel
theorem dX9_year_4 : decode cX9_year 4 = .ok (.iload_n 1, 1) := by decide +kernel
theorem dX9_year_5 : decode cX9_year 5 = .ok (.sipush 9999, 3) := by decide +kernel
theorem dX9_year_8 : decode cX9_year 8 = .ok (.if_icmp .gt 14, 3) := by decide +kernel
theorem dX9_year_11 : decode cX9_year 11 = .ok (.iload_n 2, 1) := by decide +kernel
theorem dX9_year_12 : decode cX9_year 12 = .ok (.iconst 1, 1) := by decide +kernel
theorem dX9_year_13 : decode cX9_year 13 = .ok (.if_icmp .lt 9, 3) := by decide +kernel
theorem dX9_year_16 : decode cX9_year 16 = .ok (.iload_n 2, 1) := by decide +kernel
theorem dX9_year_17 : decode cX9_year 17 = .ok (.bipush 60, 2) := by decide +kernel
theorem dX9_year_19 : decode cX9_year 19 = .ok (.if_icmp .le 5, 3) := by decide +kernel
theorem dX9_year_22 : decode cX9_year 22 = .ok (.iconst (-1), 1) := by decide +kernel
theorem dX9_year_23 : decode cX9_year 23 = .ok (.ireturn, 1) := by decide +kernel
theorem dX9_year_24 : decode cX9_year 24 = .ok (.iload_n 3, 1) := by decide +kernel
theorem dX9_year_25 : decode cX9_year 25 = .ok (.lookupswitch 62 #[(0, 27), (1, 45)], 27) := by decide +kernel
theorem dX9_year_52 : decode cX9_year 52 = .ok (.aload_n 0, 1) := by decide +kernel
theorem dX9_year_53 : decode cX9_year 53 = .ok (.getfield 57, 3) := by decide +kernel
theorem dX9_year_56 : decode cX9_year 56 = .ok (.aload_n 0, 1) := by decide +kernel
theorem dX9_year_57 : decode cX9_year 57 = .ok (.getfield 38, 3) := by decide +kernel
theorem dX9_year_60 : decode cX9_year 60 = .ok (.iload_n 1, 1) := by decide +kernel
theorem dX9_year_61 : decode cX9_year 61 = .ok (.iload_n 2, 1) := by decide +kernel
theorem dX9_year_62 : decode cX9_year 62 = .ok (.invokevirtual 250, 3) := by decide +kernel
theorem dX9_year_65 : decode cX9_year 65 = .ok (.iconst 2, 1) := by decide +kernel
theorem dX9_year_66 : decode cX9_year 66 = .ok (.invokevirtual 254, 3) := by decide +kernel
theorem dX9_year_69 : decode cX9_year 69 = .ok (.ireturn, 1) := by decide +kernel
theorem dX9_year_70 : decode cX9_year 70 = .ok (.aload_n 0, 1) := by decide +kernel
theorem dX9_year_71 : decode cX9_year 71 = .ok (.getfield 57, 3) := by decide +kernel
theorem dX9_year_74 : decode cX9_year 74 = .ok (.aload_n 0, 1) := by decide +kernel
theorem dX9_year_75 : decode cX9_year 75 = .ok (.getfield 38, 3) := by decide +kernel
theorem dX9_year_78 : decode cX9_year 78 = .ok (.iload_n 1, 1) := by decide +kernel
theorem dX9_year_79 : decode cX9_year 79 = .ok (.iload_n 2, 1) := by decide +kernel
theorem dX9_year_80 : decode cX9_year 80 = .ok (.invokevirtual 250, 3) := by decide +kernel
theorem dX9_year_83 : decode cX9_year 83 = .ok (.invokevirtual 257, 3) := by decide +kernel
theorem dX9_year_86 : decode cX9_year 86 = .ok (.ireturn, 1) := by decide +kernel
theorem dX9_year_87 : decode cX9_year 87 = .ok (.iconst (-1), 1) := by decide +kernel
theorem dX9_year_88 : decode cX9_year 88 = .ok (.ireturn, 1) := by decide +kernel
theorem dX9_keep_0 : decode cX9_keep 0 = .ok (.aload_n 0, 1) := by decide +kernel
theorem dX9_keep_1 : decode cX9_keep 1 = .ok (.getfield 51, 3) := by decide +kernel
theorem dX9_keep_4 : decode cX9_keep 4 = .ok (.invokevirtual 192, 3) := by decide +kernel
theorem dX9_keep_7 : decode cX9_keep 7 = .ok (.iconst 2, 1) := by decide +kernel
theorem dX9_keep_8 : decode cX9_keep 8 = .ok (.if_icmp .ne 6, 3) := by decide +kernel
theorem dX9_keep_11 : decode cX9_keep 11 = .ok (.bipush (-3), 2) := by decide +kernel
theorem dX9_keep_13 : decode cX9_keep 13 = .ok (.ireturn, 1) := by decide +kernel
theorem dX9_keep_14 : decode cX9_keep 14 = .ok (.aload_n 0, 1) := by decide +kernel
theorem dX9_keep_15 : decode cX9_keep 15 = .ok (.getfield 51, 3) := by decide +kernel
theorem dX9_keep_18 : decode cX9_keep 18 = .ok (.aload_n 0, 1) := by decide +kernel
theorem dX9_keep_19 : decode cX9_keep 19 = .ok (.getfield 38, 3) := by decide +kernel
theorem dX9_keep_22 : decode cX9_keep 22 = .ok (.invokevirtual 160, 3) := by decide +kernel
theorem dX9_keep_25 : decode cX9_keep 25 = .ok (.aload_n 0, 1) := by decide +kernel
theorem dX9_keep_26 : decode cX9_keep 26 = .ok (.getfield 51, 3) := by decide +kernel
theorem dX9_keep_29 : decode cX9_keep 29 = .ok (.invokevirtual 192, 3) := by decide +kernel
theorem dX9_keep_32 : decode cX9_keep 32 = .ok (.ireturn, 1) := by decide +kernel
theorem dX9_back_0 : decode cX9_back 0 = .ok (.aload_n 0, 1) := by decide +kernel
theorem dX9_back_1 : decode cX9_back 1 = .ok (.getfield 51, 3) := by decide +kernel
theorem dX9_back_4 : decode cX9_back 4 = .ok (.aload_n 0, 1) := by decide +kernel
theorem dX9_back_5 : decode cX9_back 5 = .ok (.getfield 38, 3) := by decide +kernel
theorem dX9_back_8 : decode cX9_back 8 = .ok (.invokevirtual 188, 3) := by decide +kernel
theorem dX9_back_11 : decode cX9_back 11 = .ok (.ifCond .ne 6, 3) := by decide +kernel
theorem dX9_back_14 : decode cX9_back 14 = .ok (.bipush (-2), 2) := by decide +kernel
theorem dX9_back_16 : decode cX9_back 16 = .ok (.ireturn, 1) := by decide +kernel
theorem dX9_back_17 : decode cX9_back 17 = .ok (.aload_n 0, 1) := by decide +kernel
theorem dX9_back_18 : decode cX9_back 18 = .ok (.getfield 47, 3) := by decide +kernel
theorem dX9_back_21 : decode cX9_back 21 = .ok (.invokevirtual 260, 3) := by decide +kernel
theorem dX9_back_24 : decode cX9_back 24 = .ok (.aload_n 0, 1) := by decide +kernel
theorem dX9_back_25 : decode cX9_back 25 = .ok (.getfield 51, 3) := by decide +kernel
theorem dX9_back_28 : decode cX9_back 28 = .ok (.invokevirtual 192, 3) := by decide +kernel
theorem dX9_back_31 : decode cX9_back 31 = .ok (.ireturn, 1) := by decide +kernel
theorem qX9_reading : jYv yX9_reading cX9_reading 2 (some .int) 1 := ⟨tw_680, tw_681, tw_57, tw_682, ⟨by decide +kernel, by decide +kernel, by decide +kernel⟩⟩
abbrev rX9_reading : Room := { frames := 7, cells := 0, slots := 0, locals := 161 }
def uX9_reading : jM := (cX9_reading, 2, RX9, (some .int), rX9_reading)
def pX9_reading (fu : Nat) (x1 : Int32) (M : Mem) : Res :=
  bI (pX1_hasBeast fu 5 x1 M) fun r2 M1 =>
  if r2 = 0 then (
    some ((-1 : Int32), M1))
  else
  bI (pX4_carries fu 27 x1 M1) fun r4 M3 =>
  if r4 = 0 then (
    some ((-2 : Int32), M3))
  else
  bI (pX3_readOf fu 27 x1 M3) fun r6 M5 =>
  some (r6, M5)
set_option maxRecDepth 100000 in
theorem wX9_reading {E : jE} {X : jC} (hX : jOk X uX9_reading (gX E)) (fu : Nat)  (x1 : Int32) (M : Mem) : J X uX9_reading (gX E) 0 [(0, .ref (gad (gX E) 0)), (1, .int x1)] [] M (pX9_reading fu  x1 M) := by
  unfold pX9_reading
  refine j_aload_n (pc := 0) hX 0 dX9_reading_0 rfl rfl ?_
  refine j_getR (pc := 1) (t := 5) hX (jb rfl) rfl (ci := 8) (C := RX9) (T := TX9) (N := 10) rfl (jb rfl) inX9 (j := 2) (jb rfl) rfl tw_422 dX9_reading_1 ?_
  refine j_iload_n (pc := 4) hX 1 dX9_reading_4 rfl rfl ?_
  refine j_callV (pc := 5) hX [.int x1] (mX1_hasBeast _ E hX.2.2.2.2.2.2.2.2.1 fu 5 rfl x1 M) qX1_hasBeast tw_525 (jb rfl) rfl (ci := 1) (T := TX1) (N := 13) rfl (jb rfl) rfl ⟨rfl, rfl⟩ ⟨(Nat.le_of_ble_eq_true rfl), (Nat.le_of_ble_eq_true rfl)⟩ (Nat.le_of_ble_eq_true rfl) dX9_reading_5 (fun _ => rfl) rfl (fun r2 M1 => ?_)
  refine j_if_ne (pc := 8) hX 13 dX9_reading_8 (by decide) ?_ ?_
  · refine j_aload_n (pc := 13) hX 0 dX9_reading_13 rfl rfl ?_
    refine j_getR (pc := 14) (t := 27) hX (jb rfl) rfl (ci := 8) (C := RX9) (T := TX9) (N := 10) rfl (jb rfl) inX9 (j := 4) (jb rfl) rfl tw_424 dX9_reading_14 ?_
    refine j_iload_n (pc := 17) hX 1 dX9_reading_17 rfl rfl ?_
    refine j_callV (pc := 18) hX [.int x1] (mX4_carries _ E hX.2.2.2.2.2.2.2.2.1 fu 27 rfl x1 M1) qX4_carries tw_542 (jb rfl) rfl (ci := 4) (T := TX4) (N := 2) rfl (jb rfl) rfl ⟨rfl, rfl⟩ ⟨(Nat.le_of_ble_eq_true rfl), (Nat.le_of_ble_eq_true rfl)⟩ (Nat.le_of_ble_eq_true rfl) dX9_reading_18 (fun _ => rfl) rfl (fun r4 M3 => ?_)
    refine j_if_eq (pc := 21) hX 39 dX9_reading_21 (by decide) ?_ ?_
    · refine j_bipush (pc := 39) (v := (-2 : Int32)) hX dX9_reading_39 cb_m2 ?_
      exact j_iret (pc := 41) hX rfl dX9_reading_41
    · refine j_aload_n (pc := 24) hX 0 dX9_reading_24 rfl rfl ?_
      refine j_getR (pc := 25) (t := 53) hX (jb rfl) rfl (ci := 8) (C := RX9) (T := TX9) (N := 10) rfl (jb rfl) inX9 (j := 7) (jb rfl) rfl tw_427 dX9_reading_25 ?_
      refine j_aload_n (pc := 28) hX 0 dX9_reading_28 rfl rfl ?_
      refine j_getR (pc := 29) (t := 27) hX (jb rfl) rfl (ci := 8) (C := RX9) (T := TX9) (N := 10) rfl (jb rfl) inX9 (j := 4) (jb rfl) rfl tw_424 dX9_reading_29 ?_
      refine j_iload_n (pc := 32) hX 1 dX9_reading_32 rfl rfl ?_
      refine j_callV (pc := 33) hX [.ref (gad (gX E) 27), .int x1] (mX3_readOf _ E hX.2.2.2.2.2.2.2.2.1 fu 27 rfl x1 M3) qX3_readOf tw_683 (jb rfl) rfl (ci := 3) (T := TX3) (N := 2) rfl (jb rfl) rfl ⟨rfl, rfl⟩ ⟨(Nat.le_of_ble_eq_true rfl), (Nat.le_of_ble_eq_true rfl)⟩ (Nat.le_of_ble_eq_true rfl) dX9_reading_33 (fun _ => rfl) rfl (fun r6 M5 => ?_)
      refine j_goto (pc := 36) hX 41 dX9_reading_36 (by decide) ?_
      exact j_iret (pc := 41) hX rfl dX9_reading_41
  · refine j_iconst (pc := 11) (v := (-1 : Int32)) hX dX9_reading_11 ci_m1 ?_
    exact j_iret (pc := 12) hX rfl dX9_reading_12
theorem mX9_reading (l : Launch) (E : jE) (hI : jInj (gX E)) (fu : Nat)  (x1 : Int32) (M : Mem) : jMet l (gX E) yX9_reading cX9_reading 2 (some .int) rX9_reading [.ref (gad (gX E) 0), .int x1] M (pX9_reading fu  x1 M) :=
  j_entry hI (by decide +kernel) (Nat.le_of_ble_eq_true rfl) rfl (fun X _ hX => wX9_reading hX fu   x1 M)
theorem qX9_right : jYv yX9_right cX9_right 3 (some .int) 2 := ⟨tw_689, tw_690, tw_57, tw_691, ⟨by decide +kernel, by decide +kernel, by decide +kernel⟩⟩
abbrev rX9_right : Room := { frames := 7, cells := 0, slots := 0, locals := 164 }
def uX9_right : jM := (cX9_right, 3, RX9, (some .int), rX9_right)
def pX9_right (fu : Nat) (x1 : Int32) (x2 : Int32) (M : Mem) : Res :=
  bI (pX1_hasDoor fu 5 x1 M) fun r2 M1 =>
  if r2 = 0 then (
    some ((-1 : Int32), M1))
  else
  bI (pX9_isVerdict fu x2 M1) fun r4 M3 =>
  if r4 = 0 then (
    some ((-1 : Int32), M3))
  else
  bI (pX3_rightBeasts fu 27 x1 x2 M3) fun r6 M5 =>
  some (r6, M5)
set_option maxRecDepth 100000 in
theorem wX9_right {E : jE} {X : jC} (hX : jOk X uX9_right (gX E)) (fu : Nat)  (x1 : Int32) (x2 : Int32) (M : Mem) : J X uX9_right (gX E) 0 [(0, .ref (gad (gX E) 0)), (1, .int x1), (2, .int x2)] [] M (pX9_right fu  x1 x2 M) := by
  unfold pX9_right
  refine j_aload_n (pc := 0) hX 0 dX9_right_0 rfl rfl ?_
  refine j_getR (pc := 1) (t := 5) hX (jb rfl) rfl (ci := 8) (C := RX9) (T := TX9) (N := 10) rfl (jb rfl) inX9 (j := 2) (jb rfl) rfl tw_422 dX9_right_1 ?_
  refine j_iload_n (pc := 4) hX 1 dX9_right_4 rfl rfl ?_
  refine j_callV (pc := 5) hX [.int x1] (mX1_hasDoor _ E hX.2.2.2.2.2.2.2.2.1 fu 5 rfl x1 M) qX1_hasDoor tw_509 (jb rfl) rfl (ci := 1) (T := TX1) (N := 13) rfl (jb rfl) rfl ⟨rfl, rfl⟩ ⟨(Nat.le_of_ble_eq_true rfl), (Nat.le_of_ble_eq_true rfl)⟩ (Nat.le_of_ble_eq_true rfl) dX9_right_5 (fun _ => rfl) rfl (fun r2 M1 => ?_)
  refine j_if_eq (pc := 8) hX 34 dX9_right_8 (by decide) ?_ ?_
  · refine j_iconst (pc := 34) (v := (-1 : Int32)) hX dX9_right_34 ci_m1 ?_
    exact j_iret (pc := 35) hX rfl dX9_right_35
  · refine j_iload_n (pc := 11) hX 2 dX9_right_11 rfl rfl ?_
    refine j_callS (pc := 12) hX [.int x2] (mX9_isVerdict _ E hX.2.2.2.2.2.2.2.2.1 fu   x2 M1) qX9_isVerdict tw_563 rfl ⟨rfl, rfl⟩ ⟨(Nat.le_of_ble_eq_true rfl), (Nat.le_of_ble_eq_true rfl)⟩ (Nat.le_of_ble_eq_true rfl) dX9_right_12 (fun _ => rfl) rfl (fun r4 M3 => ?_)
    refine j_if_eq (pc := 15) hX 34 dX9_right_15 (by decide) ?_ ?_
    · refine j_iconst (pc := 34) (v := (-1 : Int32)) hX dX9_right_34 ci_m1 ?_
      exact j_iret (pc := 35) hX rfl dX9_right_35
    · refine j_aload_n (pc := 18) hX 0 dX9_right_18 rfl rfl ?_
      refine j_getR (pc := 19) (t := 53) hX (jb rfl) rfl (ci := 8) (C := RX9) (T := TX9) (N := 10) rfl (jb rfl) inX9 (j := 7) (jb rfl) rfl tw_427 dX9_right_19 ?_
      refine j_aload_n (pc := 22) hX 0 dX9_right_22 rfl rfl ?_
      refine j_getR (pc := 23) (t := 27) hX (jb rfl) rfl (ci := 8) (C := RX9) (T := TX9) (N := 10) rfl (jb rfl) inX9 (j := 4) (jb rfl) rfl tw_424 dX9_right_23 ?_
      refine j_iload_n (pc := 26) hX 1 dX9_right_26 rfl rfl ?_
      refine j_iload_n (pc := 27) hX 2 dX9_right_27 rfl rfl ?_
      refine j_callV (pc := 28) hX [.ref (gad (gX E) 27), .int x1, .int x2] (mX3_rightBeasts _ E hX.2.2.2.2.2.2.2.2.1 fu 27 rfl x1 x2 M3) qX3_rightBeasts tw_692 (jb rfl) rfl (ci := 3) (T := TX3) (N := 2) rfl (jb rfl) rfl ⟨rfl, rfl⟩ ⟨(Nat.le_of_ble_eq_true rfl), (Nat.le_of_ble_eq_true rfl)⟩ (Nat.le_of_ble_eq_true rfl) dX9_right_28 (fun _ => rfl) rfl (fun r6 M5 => ?_)
      refine j_goto (pc := 31) hX 35 dX9_right_31 (by decide) ?_
      exact j_iret (pc := 35) hX rfl dX9_right_35
theorem mX9_right (l : Launch) (E : jE) (hI : jInj (gX E)) (fu : Nat)  (x1 : Int32) (x2 : Int32) (M : Mem) : jMet l (gX E) yX9_right cX9_right 3 (some .int) rX9_right [.ref (gad (gX E) 0), .int x1, .int x2] M (pX9_right fu  x1 x2 M) :=
  j_entry hI (by decide +kernel) (Nat.le_of_ble_eq_true rfl) rfl (fun X _ hX => wX9_right hX fu   x1 x2 M)
theorem qX9_soonest : jYv yX9_soonest cX9_soonest 3 (some .int) 2 := ⟨tw_704, tw_705, tw_57, tw_706, ⟨by decide +kernel, by decide +kernel, by decide +kernel⟩⟩
abbrev rX9_soonest : Room := { frames := 7, cells := 0, slots := 0, locals := 166 }
def uX9_soonest : jM := (cX9_soonest, 3, RX9, (some .int), rX9_soonest)
def pX9_soonest (fu : Nat) (x1 : Int32) (x2 : Int32) (M : Mem) : Res :=
  bI (pX1_hasDoor fu 5 x1 M) fun r2 M1 =>
  if r2 = 0 then (
    some ((-1 : Int32), M1))
  else
  bI (pX9_isVerdict fu x2 M1) fun r4 M3 =>
  if r4 = 0 then (
    some ((-1 : Int32), M3))
  else
  bI (pX3_soonestBeast fu 27 x1 x2 M3) fun r6 M5 =>
  some (r6, M5)
set_option maxRecDepth 100000 in
theorem wX9_soonest {E : jE} {X : jC} (hX : jOk X uX9_soonest (gX E)) (fu : Nat)  (x1 : Int32) (x2 : Int32) (M : Mem) : J X uX9_soonest (gX E) 0 [(0, .ref (gad (gX E) 0)), (1, .int x1), (2, .int x2)] [] M (pX9_soonest fu  x1 x2 M) := by
  unfold pX9_soonest
  refine j_aload_n (pc := 0) hX 0 dX9_soonest_0 rfl rfl ?_
  refine j_getR (pc := 1) (t := 5) hX (jb rfl) rfl (ci := 8) (C := RX9) (T := TX9) (N := 10) rfl (jb rfl) inX9 (j := 2) (jb rfl) rfl tw_422 dX9_soonest_1 ?_
  refine j_iload_n (pc := 4) hX 1 dX9_soonest_4 rfl rfl ?_
  refine j_callV (pc := 5) hX [.int x1] (mX1_hasDoor _ E hX.2.2.2.2.2.2.2.2.1 fu 5 rfl x1 M) qX1_hasDoor tw_509 (jb rfl) rfl (ci := 1) (T := TX1) (N := 13) rfl (jb rfl) rfl ⟨rfl, rfl⟩ ⟨(Nat.le_of_ble_eq_true rfl), (Nat.le_of_ble_eq_true rfl)⟩ (Nat.le_of_ble_eq_true rfl) dX9_soonest_5 (fun _ => rfl) rfl (fun r2 M1 => ?_)
  refine j_if_eq (pc := 8) hX 34 dX9_soonest_8 (by decide) ?_ ?_
  · refine j_iconst (pc := 34) (v := (-1 : Int32)) hX dX9_soonest_34 ci_m1 ?_
    exact j_iret (pc := 35) hX rfl dX9_soonest_35
  · refine j_iload_n (pc := 11) hX 2 dX9_soonest_11 rfl rfl ?_
    refine j_callS (pc := 12) hX [.int x2] (mX9_isVerdict _ E hX.2.2.2.2.2.2.2.2.1 fu   x2 M1) qX9_isVerdict tw_563 rfl ⟨rfl, rfl⟩ ⟨(Nat.le_of_ble_eq_true rfl), (Nat.le_of_ble_eq_true rfl)⟩ (Nat.le_of_ble_eq_true rfl) dX9_soonest_12 (fun _ => rfl) rfl (fun r4 M3 => ?_)
    refine j_if_eq (pc := 15) hX 34 dX9_soonest_15 (by decide) ?_ ?_
    · refine j_iconst (pc := 34) (v := (-1 : Int32)) hX dX9_soonest_34 ci_m1 ?_
      exact j_iret (pc := 35) hX rfl dX9_soonest_35
    · refine j_aload_n (pc := 18) hX 0 dX9_soonest_18 rfl rfl ?_
      refine j_getR (pc := 19) (t := 53) hX (jb rfl) rfl (ci := 8) (C := RX9) (T := TX9) (N := 10) rfl (jb rfl) inX9 (j := 7) (jb rfl) rfl tw_427 dX9_soonest_19 ?_
      refine j_aload_n (pc := 22) hX 0 dX9_soonest_22 rfl rfl ?_
      refine j_getR (pc := 23) (t := 27) hX (jb rfl) rfl (ci := 8) (C := RX9) (T := TX9) (N := 10) rfl (jb rfl) inX9 (j := 4) (jb rfl) rfl tw_424 dX9_soonest_23 ?_
      refine j_iload_n (pc := 26) hX 1 dX9_soonest_26 rfl rfl ?_
      refine j_iload_n (pc := 27) hX 2 dX9_soonest_27 rfl rfl ?_
      refine j_callV (pc := 28) hX [.ref (gad (gX E) 27), .int x1, .int x2] (mX3_soonestBeast _ E hX.2.2.2.2.2.2.2.2.1 fu 27 rfl x1 x2 M3) qX3_soonestBeast tw_707 (jb rfl) rfl (ci := 3) (T := TX3) (N := 2) rfl (jb rfl) rfl ⟨rfl, rfl⟩ ⟨(Nat.le_of_ble_eq_true rfl), (Nat.le_of_ble_eq_true rfl)⟩ (Nat.le_of_ble_eq_true rfl) dX9_soonest_28 (fun _ => rfl) rfl (fun r6 M5 => ?_)
      refine j_goto (pc := 31) hX 35 dX9_soonest_31 (by decide) ?_
      exact j_iret (pc := 35) hX rfl dX9_soonest_35
theorem mX9_soonest (l : Launch) (E : jE) (hI : jInj (gX E)) (fu : Nat)  (x1 : Int32) (x2 : Int32) (M : Mem) : jMet l (gX E) yX9_soonest cX9_soonest 3 (some .int) rX9_soonest [.ref (gad (gX E) 0), .int x1, .int x2] M (pX9_soonest fu  x1 x2 M) :=
  j_entry hI (by decide +kernel) (Nat.le_of_ble_eq_true rfl) rfl (fun X _ hX => wX9_soonest hX fu   x1 x2 M)
theorem qX9_lowestBit : jYs yX9_lowestBit cX9_lowestBit 2 (some .int) 1 := ⟨tw_721, tw_57, tw_722, ⟨by decide +kernel, by decide +kernel, by decide +kernel⟩⟩
abbrev rX9_lowestBit : Room := { frames := 0, cells := 0, slots := 0, locals := 0 }
def uX9_lowestBit : jM := (cX9_lowestBit, 2, RX9, (some .int), rX9_lowestBit)
def pX9_lowestBit_2b (fu : Nat) (x0 : Int32) (x1 : Int32) (M : Mem) (c2 : Int32 → Int32 → Mem → Res) : Res :=
  if (8 : Int32) ≤ x1 then (
    some ((-4 : Int32), M))
  else
  if ((x0 >>> (x1 &&& 31)) &&& (1 : Int32)) = (1 : Int32) then (
    some (x1, M))
  else
  c2 x0 (x1 + (1 : Int32)) M
set_option maxRecDepth 100000 in
theorem wX9_lowestBit_2b {E : jE} {X : jC} (hX : jOk X uX9_lowestBit (gX E)) (fu : Nat)  (x0 : Int32) (x1 : Int32) (M : Mem) (c2 : Int32 → Int32 → Mem → Res) (hc2 : ∀ (x0 : Int32) (x1 : Int32) (M : Mem), J X uX9_lowestBit (gX E) 2 [(0, .int x0), (1, .int x1)] [] M (c2 x0 x1 M)) : J X uX9_lowestBit (gX E) 2 [(0, .int x0), (1, .int x1)] [] M (pX9_lowestBit_2b fu  x0 x1 M c2) := by
  unfold pX9_lowestBit_2b
  refine j_iload_n (pc := 2) hX 1 dX9_lowestBit_2 rfl rfl ?_
  refine j_bipush (pc := 3) (v := (8 : Int32)) hX dX9_lowestBit_3 cb_8 ?_
  refine j_icmp_ge (pc := 5) hX 25 dX9_lowestBit_5 (by decide) ?_ ?_
  · refine j_bipush (pc := 25) (v := (-4 : Int32)) hX dX9_lowestBit_25 cb_m4 ?_
    exact j_iret (pc := 27) hX rfl dX9_lowestBit_27
  · refine j_iload_n (pc := 8) hX 0 dX9_lowestBit_8 rfl rfl ?_
    refine j_iload_n (pc := 9) hX 1 dX9_lowestBit_9 rfl rfl ?_
    refine j_ishr (pc := 10) hX dX9_lowestBit_10 ?_
    refine j_iconst (pc := 11) (v := (1 : Int32)) hX dX9_lowestBit_11 ci_1 ?_
    refine j_iand (pc := 12) hX dX9_lowestBit_12 ?_
    refine j_iconst (pc := 13) (v := (1 : Int32)) hX dX9_lowestBit_13 ci_1 ?_
    refine j_icmp_ne (pc := 14) hX 19 dX9_lowestBit_14 (by decide) ?_ ?_
    · refine j_iinc (pc := 19) (v := (x1 + (1 : Int32))) (lv' := [(1, .int (x1 + (1 : Int32))), (0, .int x0)]) hX 1 dX9_lowestBit_19 rfl (by rw [ci_1]) (jb rfl) rfl ?_
      refine j_goto (pc := 22) hX 2 dX9_lowestBit_22 (by decide) ?_
      exact j_sub [1, 0] rfl (hc2 x0 (x1 + (1 : Int32)) M)
    · refine j_iload_n (pc := 17) hX 1 dX9_lowestBit_17 rfl rfl ?_
      exact j_iret (pc := 18) hX rfl dX9_lowestBit_18
def pX9_lowestBit_2 (fu : Nat)  : Nat → Int32 → Int32 → Mem → Res
  | 0, _, _, _ => none
  | n + 1, x0, x1, M => pX9_lowestBit_2b fu  x0 x1 M (pX9_lowestBit_2 fu   n)
theorem wX9_lowestBit_2 {E : jE} {X : jC} (hX : jOk X uX9_lowestBit (gX E)) (fu : Nat)    : ∀ (n : Nat) (x0 : Int32) (x1 : Int32) (M : Mem), J X uX9_lowestBit (gX E) 2 [(0, .int x0), (1, .int x1)] [] M (pX9_lowestBit_2 fu   n x0 x1 M) := by
  intro n
  induction n with
  | zero => intro x0 x1 M; exact j_none
  | succ n ih => intro x0 x1 M; exact wX9_lowestBit_2b hX fu   x0 x1 M (pX9_lowestBit_2 fu   n) ih
def pX9_lowestBit (fu : Nat) (x0 : Int32) (M : Mem) : Res :=
  pX9_lowestBit_2 fu
    fu x0 (0 : Int32) M
set_option maxRecDepth 100000 in
theorem wX9_lowestBit {E : jE} {X : jC} (hX : jOk X uX9_lowestBit (gX E)) (fu : Nat)  (x0 : Int32) (M : Mem) : J X uX9_lowestBit (gX E) 0 [(0, .int x0)] [] M (pX9_lowestBit fu  x0 M) := by
  unfold pX9_lowestBit
  refine j_iconst (pc := 0) (v := (0 : Int32)) hX dX9_lowestBit_0 ci_0 ?_
  refine j_istore_n (pc := 1) (lv' := [(1, .int (0 : Int32)), (0, .int x0)]) hX dX9_lowestBit_1 rfl (jb rfl) rfl ?_
  refine j_sub [1, 0] rfl (wX9_lowestBit_2 hX fu     fu x0 (0 : Int32) M)
theorem mX9_lowestBit (l : Launch) (E : jE) (hI : jInj (gX E)) (fu : Nat)  (x0 : Int32) (M : Mem) : jMet l (gX E) yX9_lowestBit cX9_lowestBit 2 (some .int) rX9_lowestBit [.int x0] M (pX9_lowestBit fu  x0 M) :=
  j_entry hI (by decide +kernel) (Nat.le_of_ble_eq_true rfl) rfl (fun X _ hX => wX9_lowestBit hX fu   x0 M)
theorem qX9_tell : jYv yX9_tell cX9_tell 4 (some .int) 3 := ⟨tw_712, tw_713, tw_57, tw_714, ⟨by decide +kernel, by decide +kernel, by decide +kernel⟩⟩
abbrev rX9_tell : Room := { frames := 7, cells := 0, slots := 0, locals := 165 }
def uX9_tell : jM := (cX9_tell, 4, RX9, (some .int), rX9_tell)
def pX9_tell (fu : Nat) (x1 : Int32) (x2 : Int32) (x3 : Int32) (M : Mem) : Res :=
  bI (pX1_hasBeast fu 5 x1 M) fun r2 M1 =>
  if r2 = 0 then (
    some ((-1 : Int32), M1))
  else
  bI (pX1_hasDoor fu 5 x2 M1) fun r4 M3 =>
  if r4 = 0 then (
    some ((-1 : Int32), M3))
  else
  bI (pX9_isVerdict fu x3 M3) fun r6 M5 =>
  if r6 = 0 then (
    some ((-1 : Int32), M5))
  else
  bI (pX4_is fu 27 x1 (0 : Int32) M5) fun r8 M7 =>
  if r8 = 0 then (
    some ((-2 : Int32), M7))
  else
  bI (pX3_verdictsReadAs fu 27 x1 x2 x3 M7) fun r10 M9 =>
  bI (pX9_lowestBit fu r10 M9) fun r12 M11 =>
  some (r12, M11)
set_option maxRecDepth 100000 in
theorem wX9_tell {E : jE} {X : jC} (hX : jOk X uX9_tell (gX E)) (fu : Nat)  (x1 : Int32) (x2 : Int32) (x3 : Int32) (M : Mem) : J X uX9_tell (gX E) 0 [(0, .ref (gad (gX E) 0)), (1, .int x1), (2, .int x2), (3, .int x3)] [] M (pX9_tell fu  x1 x2 x3 M) := by
  unfold pX9_tell
  refine j_aload_n (pc := 0) hX 0 dX9_tell_0 rfl rfl ?_
  refine j_getR (pc := 1) (t := 5) hX (jb rfl) rfl (ci := 8) (C := RX9) (T := TX9) (N := 10) rfl (jb rfl) inX9 (j := 2) (jb rfl) rfl tw_422 dX9_tell_1 ?_
  refine j_iload_n (pc := 4) hX 1 dX9_tell_4 rfl rfl ?_
  refine j_callV (pc := 5) hX [.int x1] (mX1_hasBeast _ E hX.2.2.2.2.2.2.2.2.1 fu 5 rfl x1 M) qX1_hasBeast tw_525 (jb rfl) rfl (ci := 1) (T := TX1) (N := 13) rfl (jb rfl) rfl ⟨rfl, rfl⟩ ⟨(Nat.le_of_ble_eq_true rfl), (Nat.le_of_ble_eq_true rfl)⟩ (Nat.le_of_ble_eq_true rfl) dX9_tell_5 (fun _ => rfl) rfl (fun r2 M1 => ?_)
  refine j_if_eq (pc := 8) hX 29 dX9_tell_8 (by decide) ?_ ?_
  · refine j_iconst (pc := 29) (v := (-1 : Int32)) hX dX9_tell_29 ci_m1 ?_
    exact j_iret (pc := 30) hX rfl dX9_tell_30
  · refine j_aload_n (pc := 11) hX 0 dX9_tell_11 rfl rfl ?_
    refine j_getR (pc := 12) (t := 5) hX (jb rfl) rfl (ci := 8) (C := RX9) (T := TX9) (N := 10) rfl (jb rfl) inX9 (j := 2) (jb rfl) rfl tw_422 dX9_tell_12 ?_
    refine j_iload_n (pc := 15) hX 2 dX9_tell_15 rfl rfl ?_
    refine j_callV (pc := 16) hX [.int x2] (mX1_hasDoor _ E hX.2.2.2.2.2.2.2.2.1 fu 5 rfl x2 M1) qX1_hasDoor tw_509 (jb rfl) rfl (ci := 1) (T := TX1) (N := 13) rfl (jb rfl) rfl ⟨rfl, rfl⟩ ⟨(Nat.le_of_ble_eq_true rfl), (Nat.le_of_ble_eq_true rfl)⟩ (Nat.le_of_ble_eq_true rfl) dX9_tell_16 (fun _ => rfl) rfl (fun r4 M3 => ?_)
    refine j_if_eq (pc := 19) hX 29 dX9_tell_19 (by decide) ?_ ?_
    · refine j_iconst (pc := 29) (v := (-1 : Int32)) hX dX9_tell_29 ci_m1 ?_
      exact j_iret (pc := 30) hX rfl dX9_tell_30
    · refine j_iload_n (pc := 22) hX 3 dX9_tell_22 rfl rfl ?_
      refine j_callS (pc := 23) hX [.int x3] (mX9_isVerdict _ E hX.2.2.2.2.2.2.2.2.1 fu   x3 M3) qX9_isVerdict tw_563 rfl ⟨rfl, rfl⟩ ⟨(Nat.le_of_ble_eq_true rfl), (Nat.le_of_ble_eq_true rfl)⟩ (Nat.le_of_ble_eq_true rfl) dX9_tell_23 (fun _ => rfl) rfl (fun r6 M5 => ?_)
      refine j_if_ne (pc := 26) hX 31 dX9_tell_26 (by decide) ?_ ?_
      · refine j_aload_n (pc := 31) hX 0 dX9_tell_31 rfl rfl ?_
        refine j_getR (pc := 32) (t := 27) hX (jb rfl) rfl (ci := 8) (C := RX9) (T := TX9) (N := 10) rfl (jb rfl) inX9 (j := 4) (jb rfl) rfl tw_424 dX9_tell_32 ?_
        refine j_iload_n (pc := 35) hX 1 dX9_tell_35 rfl rfl ?_
        refine j_iconst (pc := 36) (v := (0 : Int32)) hX dX9_tell_36 ci_0 ?_
        refine j_callV (pc := 37) hX [.int x1, .int (0 : Int32)] (mX4_is _ E hX.2.2.2.2.2.2.2.2.1 fu 27 rfl x1 (0 : Int32) M5) qX4_is tw_632 (jb rfl) rfl (ci := 4) (T := TX4) (N := 2) rfl (jb rfl) rfl ⟨rfl, rfl⟩ ⟨(Nat.le_of_ble_eq_true rfl), (Nat.le_of_ble_eq_true rfl)⟩ (Nat.le_of_ble_eq_true rfl) dX9_tell_37 (fun _ => rfl) rfl (fun r8 M7 => ?_)
        refine j_if_eq (pc := 40) hX 63 dX9_tell_40 (by decide) ?_ ?_
        · refine j_bipush (pc := 63) (v := (-2 : Int32)) hX dX9_tell_63 cb_m2 ?_
          exact j_iret (pc := 65) hX rfl dX9_tell_65
        · refine j_aload_n (pc := 43) hX 0 dX9_tell_43 rfl rfl ?_
          refine j_getR (pc := 44) (t := 53) hX (jb rfl) rfl (ci := 8) (C := RX9) (T := TX9) (N := 10) rfl (jb rfl) inX9 (j := 7) (jb rfl) rfl tw_427 dX9_tell_44 ?_
          refine j_aload_n (pc := 47) hX 0 dX9_tell_47 rfl rfl ?_
          refine j_getR (pc := 48) (t := 27) hX (jb rfl) rfl (ci := 8) (C := RX9) (T := TX9) (N := 10) rfl (jb rfl) inX9 (j := 4) (jb rfl) rfl tw_424 dX9_tell_48 ?_
          refine j_iload_n (pc := 51) hX 1 dX9_tell_51 rfl rfl ?_
          refine j_iload_n (pc := 52) hX 2 dX9_tell_52 rfl rfl ?_
          refine j_iload_n (pc := 53) hX 3 dX9_tell_53 rfl rfl ?_
          refine j_callV (pc := 54) hX [.ref (gad (gX E) 27), .int x1, .int x2, .int x3] (mX3_verdictsReadAs _ E hX.2.2.2.2.2.2.2.2.1 fu 27 rfl x1 x2 x3 M7) qX3_verdictsReadAs tw_715 (jb rfl) rfl (ci := 3) (T := TX3) (N := 2) rfl (jb rfl) rfl ⟨rfl, rfl⟩ ⟨(Nat.le_of_ble_eq_true rfl), (Nat.le_of_ble_eq_true rfl)⟩ (Nat.le_of_ble_eq_true rfl) dX9_tell_54 (fun _ => rfl) rfl (fun r10 M9 => ?_)
          refine j_callS (pc := 57) hX [.int r10] (mX9_lowestBit _ E hX.2.2.2.2.2.2.2.2.1 fu   r10 M9) qX9_lowestBit tw_720 rfl ⟨rfl, rfl⟩ ⟨(Nat.le_of_ble_eq_true rfl), (Nat.le_of_ble_eq_true rfl)⟩ (Nat.le_of_ble_eq_true rfl) dX9_tell_57 (fun _ => rfl) rfl (fun r12 M11 => ?_)
          refine j_goto (pc := 60) hX 65 dX9_tell_60 (by decide) ?_
          exact j_iret (pc := 65) hX rfl dX9_tell_65
      · refine j_iconst (pc := 29) (v := (-1 : Int32)) hX dX9_tell_29 ci_m1 ?_
        exact j_iret (pc := 30) hX rfl dX9_tell_30
theorem mX9_tell (l : Launch) (E : jE) (hI : jInj (gX E)) (fu : Nat)  (x1 : Int32) (x2 : Int32) (x3 : Int32) (M : Mem) : jMet l (gX E) yX9_tell cX9_tell 4 (some .int) rX9_tell [.ref (gad (gX E) 0), .int x1, .int x2, .int x3] M (pX9_tell fu  x1 x2 x3 M) :=
  j_entry hI (by decide +kernel) (Nat.le_of_ble_eq_true rfl) rfl (fun X _ hX => wX9_tell hX fu   x1 x2 x3 M)
theorem qX9_deal : jYv yX9_deal cX9_deal 4 (some .int) 2 := ⟨tw_724, tw_725, tw_57, tw_726, ⟨by decide +kernel, by decide +kernel, by decide +kernel⟩⟩
abbrev rX9_deal : Room := { frames := 7, cells := 0, slots := 0, locals := 167 }
def uX9_deal : jM := (cX9_deal, 4, RX9, (some .int), rX9_deal)
def pX9_deal_25 (fu : Nat) (x1 : Int32) (x2 : Int32) (M : Mem)  : Res :=
  bI (pX2_fewestHours fu 27 x1 M) fun r4 M3 =>
  if r4 = (-4 : Int32) then (
    some (r4, M3))
  else
  if x2 = (-1 : Int32) then (
    some (r4, M3))
  else
  bI (pX2_beastAt fu x2 M3) fun r6 M5 =>
  some (r6, M5)
set_option maxRecDepth 100000 in
theorem wX9_deal_25 {E : jE} {X : jC} (hX : jOk X uX9_deal (gX E)) (fu : Nat)  (x1 : Int32) (x2 : Int32) (M : Mem)   : J X uX9_deal (gX E) 25 [(0, .ref (gad (gX E) 0)), (1, .int x1), (2, .int x2)] [] M (pX9_deal_25 fu  x1 x2 M ) := by
  unfold pX9_deal_25
  refine j_aload_n (pc := 25) hX 0 dX9_deal_25 rfl rfl ?_
  refine j_getR (pc := 26) (t := 56) hX (jb rfl) rfl (ci := 8) (C := RX9) (T := TX9) (N := 10) rfl (jb rfl) inX9 (j := 8) (jb rfl) rfl tw_428 dX9_deal_26 ?_
  refine j_aload_n (pc := 29) hX 0 dX9_deal_29 rfl rfl ?_
  refine j_getR (pc := 30) (t := 27) hX (jb rfl) rfl (ci := 8) (C := RX9) (T := TX9) (N := 10) rfl (jb rfl) inX9 (j := 4) (jb rfl) rfl tw_424 dX9_deal_30 ?_
  refine j_iload_n (pc := 33) hX 1 dX9_deal_33 rfl rfl ?_
  refine j_callV (pc := 34) hX [.ref (gad (gX E) 27), .int x1] (mX2_fewestHours _ E hX.2.2.2.2.2.2.2.2.1 fu 27 rfl x1 M) qX2_fewestHours tw_727 (jb rfl) rfl (ci := 2) (T := TX2) (N := 4) rfl (jb rfl) rfl ⟨rfl, rfl⟩ ⟨(Nat.le_of_ble_eq_true rfl), (Nat.le_of_ble_eq_true rfl)⟩ (Nat.le_of_ble_eq_true rfl) dX9_deal_34 (fun _ => rfl) rfl (fun r4 M3 => ?_)
  refine j_istore_n (pc := 37) (lv' := [(3, .int r4), (0, .ref (gad (gX E) 0)), (1, .int x1), (2, .int x2)]) hX dX9_deal_37 rfl (jb rfl) rfl ?_
  refine j_iload_n (pc := 38) hX 0 dX9_deal_38 rfl rfl ?_
  refine j_bipush (pc := 39) (v := (-4 : Int32)) hX dX9_deal_39 cb_m4 ?_
  refine j_icmp_eq (pc := 41) hX 49 dX9_deal_41 (by decide) ?_ ?_
  · refine j_iload_n (pc := 49) hX 0 dX9_deal_49 rfl rfl ?_
    refine j_goto (pc := 50) hX 61 dX9_deal_50 (by decide) ?_
    exact j_iret (pc := 61) hX rfl dX9_deal_61
  · refine j_iload_n (pc := 44) hX 3 dX9_deal_44 rfl rfl ?_
    refine j_iconst (pc := 45) (v := (-1 : Int32)) hX dX9_deal_45 ci_m1 ?_
    refine j_icmp_ne (pc := 46) hX 53 dX9_deal_46 (by decide) ?_ ?_
    · refine j_aload_n (pc := 53) hX 1 dX9_deal_53 rfl rfl ?_
      refine j_getR (pc := 54) (t := 56) hX (jb rfl) rfl (ci := 8) (C := RX9) (T := TX9) (N := 10) rfl (jb rfl) inX9 (j := 8) (jb rfl) rfl tw_428 dX9_deal_54 ?_
      refine j_iload_n (pc := 57) hX 3 dX9_deal_57 rfl rfl ?_
      refine j_callV (pc := 58) hX [.int x2] (mX2_beastAt _ E hX.2.2.2.2.2.2.2.2.1 fu   x2 M3) qX2_beastAt tw_758 (jb rfl) rfl (ci := 2) (T := TX2) (N := 4) rfl (jb rfl) rfl ⟨rfl, rfl⟩ ⟨(Nat.le_of_ble_eq_true rfl), (Nat.le_of_ble_eq_true rfl)⟩ (Nat.le_of_ble_eq_true rfl) dX9_deal_58 (fun _ => rfl) rfl (fun r6 M5 => ?_)
      exact j_iret (pc := 61) hX rfl dX9_deal_61
    · refine j_iload_n (pc := 49) hX 0 dX9_deal_49 rfl rfl ?_
      refine j_goto (pc := 50) hX 61 dX9_deal_50 (by decide) ?_
      exact j_iret (pc := 61) hX rfl dX9_deal_61
def pX9_deal (fu : Nat) (x1 : Int32) (x2 : Int32) (M : Mem) : Res :=
  bI (pX9_isVerdict fu x1 M) fun r2 M1 =>
  if r2 = 0 then (
    some ((-1 : Int32), M1))
  else
  if x2 = (-1 : Int32) then (
    pX9_deal_25 fu  x1 x2 M1 )
  else
  bI (pX1_hasDoor fu 5 x2 M1) fun r8 M7 =>
  if r8 = 0 then (
    some ((-1 : Int32), M7))
  else
  pX9_deal_25 fu  x1 x2 M7 
set_option maxRecDepth 100000 in
theorem wX9_deal {E : jE} {X : jC} (hX : jOk X uX9_deal (gX E)) (fu : Nat)  (x1 : Int32) (x2 : Int32) (M : Mem) : J X uX9_deal (gX E) 0 [(0, .ref (gad (gX E) 0)), (1, .int x1), (2, .int x2)] [] M (pX9_deal fu  x1 x2 M) := by
  unfold pX9_deal
  refine j_iload_n (pc := 0) hX 1 dX9_deal_0 rfl rfl ?_
  refine j_callS (pc := 1) hX [.int x1] (mX9_isVerdict _ E hX.2.2.2.2.2.2.2.2.1 fu   x1 M) qX9_isVerdict tw_563 rfl ⟨rfl, rfl⟩ ⟨(Nat.le_of_ble_eq_true rfl), (Nat.le_of_ble_eq_true rfl)⟩ (Nat.le_of_ble_eq_true rfl) dX9_deal_1 (fun _ => rfl) rfl (fun r2 M1 => ?_)
  refine j_if_eq (pc := 4) hX 23 dX9_deal_4 (by decide) ?_ ?_
  · refine j_iconst (pc := 23) (v := (-1 : Int32)) hX dX9_deal_23 ci_m1 ?_
    exact j_iret (pc := 24) hX rfl dX9_deal_24
  · refine j_iload_n (pc := 7) hX 2 dX9_deal_7 rfl rfl ?_
    refine j_iconst (pc := 8) (v := (-1 : Int32)) hX dX9_deal_8 ci_m1 ?_
    refine j_icmp_eq (pc := 9) hX 25 dX9_deal_9 (by decide) ?_ ?_
    · exact j_sub [0, 1, 2] rfl (wX9_deal_25 hX fu   x1 x2 M1  )
    · refine j_aload_n (pc := 12) hX 0 dX9_deal_12 rfl rfl ?_
      refine j_getR (pc := 13) (t := 5) hX (jb rfl) rfl (ci := 8) (C := RX9) (T := TX9) (N := 10) rfl (jb rfl) inX9 (j := 2) (jb rfl) rfl tw_422 dX9_deal_13 ?_
      refine j_iload_n (pc := 16) hX 2 dX9_deal_16 rfl rfl ?_
      refine j_callV (pc := 17) hX [.int x2] (mX1_hasDoor _ E hX.2.2.2.2.2.2.2.2.1 fu 5 rfl x2 M1) qX1_hasDoor tw_509 (jb rfl) rfl (ci := 1) (T := TX1) (N := 13) rfl (jb rfl) rfl ⟨rfl, rfl⟩ ⟨(Nat.le_of_ble_eq_true rfl), (Nat.le_of_ble_eq_true rfl)⟩ (Nat.le_of_ble_eq_true rfl) dX9_deal_17 (fun _ => rfl) rfl (fun r8 M7 => ?_)
      refine j_if_ne (pc := 20) hX 25 dX9_deal_20 (by decide) ?_ ?_
      · exact j_sub [0, 1, 2] rfl (wX9_deal_25 hX fu   x1 x2 M7  )
      · refine j_iconst (pc := 23) (v := (-1 : Int32)) hX dX9_deal_23 ci_m1 ?_
        exact j_iret (pc := 24) hX rfl dX9_deal_24
theorem mX9_deal (l : Launch) (E : jE) (hI : jInj (gX E)) (fu : Nat)  (x1 : Int32) (x2 : Int32) (M : Mem) : jMet l (gX E) yX9_deal cX9_deal 4 (some .int) rX9_deal [.ref (gad (gX E) 0), .int x1, .int x2] M (pX9_deal fu  x1 x2 M) :=
  j_entry hI (by decide +kernel) (Nat.le_of_ble_eq_true rfl) rfl (fun X _ hX => wX9_deal hX fu   x1 x2 M)
theorem qX9_lure : jYv yX9_lure cX9_lure 2 (some .int) 1 := ⟨tw_763, tw_764, tw_57, tw_765, ⟨by decide +kernel, by decide +kernel, by decide +kernel⟩⟩
abbrev rX9_lure : Room := { frames := 7, cells := 0, slots := 0, locals := 164 }
def uX9_lure : jM := (cX9_lure, 2, RX9, (some .int), rX9_lure)
def pX9_lure (fu : Nat) (x1 : Int32) (M : Mem) : Res :=
  bI (pX1_hasBeast fu 5 x1 M) fun r2 M1 =>
  if r2 = 0 then (
    some ((-1 : Int32), M1))
  else
  bI (pX4_is fu 27 x1 (1 : Int32) M1) fun r4 M3 =>
  if r4 = 0 then (
    some ((-2 : Int32), M3))
  else
  bI (pX3_luringPlace fu 27 x1 M3) fun r6 M5 =>
  some (r6, M5)
set_option maxRecDepth 100000 in
theorem wX9_lure {E : jE} {X : jC} (hX : jOk X uX9_lure (gX E)) (fu : Nat)  (x1 : Int32) (M : Mem) : J X uX9_lure (gX E) 0 [(0, .ref (gad (gX E) 0)), (1, .int x1)] [] M (pX9_lure fu  x1 M) := by
  unfold pX9_lure
  refine j_aload_n (pc := 0) hX 0 dX9_lure_0 rfl rfl ?_
  refine j_getR (pc := 1) (t := 5) hX (jb rfl) rfl (ci := 8) (C := RX9) (T := TX9) (N := 10) rfl (jb rfl) inX9 (j := 2) (jb rfl) rfl tw_422 dX9_lure_1 ?_
  refine j_iload_n (pc := 4) hX 1 dX9_lure_4 rfl rfl ?_
  refine j_callV (pc := 5) hX [.int x1] (mX1_hasBeast _ E hX.2.2.2.2.2.2.2.2.1 fu 5 rfl x1 M) qX1_hasBeast tw_525 (jb rfl) rfl (ci := 1) (T := TX1) (N := 13) rfl (jb rfl) rfl ⟨rfl, rfl⟩ ⟨(Nat.le_of_ble_eq_true rfl), (Nat.le_of_ble_eq_true rfl)⟩ (Nat.le_of_ble_eq_true rfl) dX9_lure_5 (fun _ => rfl) rfl (fun r2 M1 => ?_)
  refine j_if_ne (pc := 8) hX 13 dX9_lure_8 (by decide) ?_ ?_
  · refine j_aload_n (pc := 13) hX 0 dX9_lure_13 rfl rfl ?_
    refine j_getR (pc := 14) (t := 27) hX (jb rfl) rfl (ci := 8) (C := RX9) (T := TX9) (N := 10) rfl (jb rfl) inX9 (j := 4) (jb rfl) rfl tw_424 dX9_lure_14 ?_
    refine j_iload_n (pc := 17) hX 1 dX9_lure_17 rfl rfl ?_
    refine j_iconst (pc := 18) (v := (1 : Int32)) hX dX9_lure_18 ci_1 ?_
    refine j_callV (pc := 19) hX [.int x1, .int (1 : Int32)] (mX4_is _ E hX.2.2.2.2.2.2.2.2.1 fu 27 rfl x1 (1 : Int32) M1) qX4_is tw_632 (jb rfl) rfl (ci := 4) (T := TX4) (N := 2) rfl (jb rfl) rfl ⟨rfl, rfl⟩ ⟨(Nat.le_of_ble_eq_true rfl), (Nat.le_of_ble_eq_true rfl)⟩ (Nat.le_of_ble_eq_true rfl) dX9_lure_19 (fun _ => rfl) rfl (fun r4 M3 => ?_)
    refine j_if_eq (pc := 22) hX 40 dX9_lure_22 (by decide) ?_ ?_
    · refine j_bipush (pc := 40) (v := (-2 : Int32)) hX dX9_lure_40 cb_m2 ?_
      exact j_iret (pc := 42) hX rfl dX9_lure_42
    · refine j_aload_n (pc := 25) hX 0 dX9_lure_25 rfl rfl ?_
      refine j_getR (pc := 26) (t := 53) hX (jb rfl) rfl (ci := 8) (C := RX9) (T := TX9) (N := 10) rfl (jb rfl) inX9 (j := 7) (jb rfl) rfl tw_427 dX9_lure_26 ?_
      refine j_aload_n (pc := 29) hX 0 dX9_lure_29 rfl rfl ?_
      refine j_getR (pc := 30) (t := 27) hX (jb rfl) rfl (ci := 8) (C := RX9) (T := TX9) (N := 10) rfl (jb rfl) inX9 (j := 4) (jb rfl) rfl tw_424 dX9_lure_30 ?_
      refine j_iload_n (pc := 33) hX 1 dX9_lure_33 rfl rfl ?_
      refine j_callV (pc := 34) hX [.ref (gad (gX E) 27), .int x1] (mX3_luringPlace _ E hX.2.2.2.2.2.2.2.2.1 fu 27 rfl x1 M3) qX3_luringPlace tw_766 (jb rfl) rfl (ci := 3) (T := TX3) (N := 2) rfl (jb rfl) rfl ⟨rfl, rfl⟩ ⟨(Nat.le_of_ble_eq_true rfl), (Nat.le_of_ble_eq_true rfl)⟩ (Nat.le_of_ble_eq_true rfl) dX9_lure_34 (fun _ => rfl) rfl (fun r6 M5 => ?_)
      refine j_goto (pc := 37) hX 42 dX9_lure_37 (by decide) ?_
      exact j_iret (pc := 42) hX rfl dX9_lure_42
  · refine j_iconst (pc := 11) (v := (-1 : Int32)) hX dX9_lure_11 ci_m1 ?_
    exact j_iret (pc := 12) hX rfl dX9_lure_12
theorem mX9_lure (l : Launch) (E : jE) (hI : jInj (gX E)) (fu : Nat)  (x1 : Int32) (M : Mem) : jMet l (gX E) yX9_lure cX9_lure 2 (some .int) rX9_lure [.ref (gad (gX E) 0), .int x1] M (pX9_lure fu  x1 M) :=
  j_entry hI (by decide +kernel) (Nat.le_of_ble_eq_true rfl) rfl (fun X _ hX => wX9_lure hX fu   x1 M)
theorem qX9_next : jYv yX9_next cX9_next 3 (some .int) 2 := ⟨tw_775, tw_776, tw_57, tw_777, ⟨by decide +kernel, by decide +kernel, by decide +kernel⟩⟩
abbrev rX9_next : Room := { frames := 3, cells := 0, slots := 0, locals := 68 }
def uX9_next : jM := (cX9_next, 3, RX9, (some .int), rX9_next)
def pX9_next (fu : Nat) (x1 : Int32) (x2 : Int32) (M : Mem) : Res :=
  bI (pX1_hasBeast fu 5 x1 M) fun r2 M1 =>
  if r2 = 0 then (
    some ((-1 : Int32), M1))
  else
  if 0 ≤ x2 then (
    bI (pX4_isUnderWay fu 27 x1 M1) fun r4 M3 =>
    if r4 = 0 then (
      some ((-2 : Int32), M3))
    else
    bI (pX4_placeAhead fu 27 x1 x2 M3) fun r6 M5 =>
    some (r6, M5))
  else
  some ((-1 : Int32), M1)
set_option maxRecDepth 100000 in
theorem wX9_next {E : jE} {X : jC} (hX : jOk X uX9_next (gX E)) (fu : Nat)  (x1 : Int32) (x2 : Int32) (M : Mem) : J X uX9_next (gX E) 0 [(0, .ref (gad (gX E) 0)), (1, .int x1), (2, .int x2)] [] M (pX9_next fu  x1 x2 M) := by
  unfold pX9_next
  refine j_aload_n (pc := 0) hX 0 dX9_next_0 rfl rfl ?_
  refine j_getR (pc := 1) (t := 5) hX (jb rfl) rfl (ci := 8) (C := RX9) (T := TX9) (N := 10) rfl (jb rfl) inX9 (j := 2) (jb rfl) rfl tw_422 dX9_next_1 ?_
  refine j_iload_n (pc := 4) hX 1 dX9_next_4 rfl rfl ?_
  refine j_callV (pc := 5) hX [.int x1] (mX1_hasBeast _ E hX.2.2.2.2.2.2.2.2.1 fu 5 rfl x1 M) qX1_hasBeast tw_525 (jb rfl) rfl (ci := 1) (T := TX1) (N := 13) rfl (jb rfl) rfl ⟨rfl, rfl⟩ ⟨(Nat.le_of_ble_eq_true rfl), (Nat.le_of_ble_eq_true rfl)⟩ (Nat.le_of_ble_eq_true rfl) dX9_next_5 (fun _ => rfl) rfl (fun r2 M1 => ?_)
  refine j_if_eq (pc := 8) hX 15 dX9_next_8 (by decide) ?_ ?_
  · refine j_iconst (pc := 15) (v := (-1 : Int32)) hX dX9_next_15 ci_m1 ?_
    exact j_iret (pc := 16) hX rfl dX9_next_16
  · refine j_iload_n (pc := 11) hX 2 dX9_next_11 rfl rfl ?_
    refine j_if_ge (pc := 12) hX 17 dX9_next_12 (by decide) ?_ ?_
    · refine j_aload_n (pc := 17) hX 0 dX9_next_17 rfl rfl ?_
      refine j_getR (pc := 18) (t := 27) hX (jb rfl) rfl (ci := 8) (C := RX9) (T := TX9) (N := 10) rfl (jb rfl) inX9 (j := 4) (jb rfl) rfl tw_424 dX9_next_18 ?_
      refine j_iload_n (pc := 21) hX 1 dX9_next_21 rfl rfl ?_
      refine j_callV (pc := 22) hX [.int x1] (mX4_isUnderWay _ E hX.2.2.2.2.2.2.2.2.1 fu 27 rfl x1 M1) qX4_isUnderWay tw_778 (jb rfl) rfl (ci := 4) (T := TX4) (N := 2) rfl (jb rfl) rfl ⟨rfl, rfl⟩ ⟨(Nat.le_of_ble_eq_true rfl), (Nat.le_of_ble_eq_true rfl)⟩ (Nat.le_of_ble_eq_true rfl) dX9_next_22 (fun _ => rfl) rfl (fun r4 M3 => ?_)
      refine j_if_eq (pc := 25) hX 40 dX9_next_25 (by decide) ?_ ?_
      · refine j_bipush (pc := 40) (v := (-2 : Int32)) hX dX9_next_40 cb_m2 ?_
        exact j_iret (pc := 42) hX rfl dX9_next_42
      · refine j_aload_n (pc := 28) hX 0 dX9_next_28 rfl rfl ?_
        refine j_getR (pc := 29) (t := 27) hX (jb rfl) rfl (ci := 8) (C := RX9) (T := TX9) (N := 10) rfl (jb rfl) inX9 (j := 4) (jb rfl) rfl tw_424 dX9_next_29 ?_
        refine j_iload_n (pc := 32) hX 1 dX9_next_32 rfl rfl ?_
        refine j_iload_n (pc := 33) hX 2 dX9_next_33 rfl rfl ?_
        refine j_callV (pc := 34) hX [.int x1, .int x2] (mX4_placeAhead _ E hX.2.2.2.2.2.2.2.2.1 fu 27 rfl x1 x2 M3) qX4_placeAhead tw_779 (jb rfl) rfl (ci := 4) (T := TX4) (N := 2) rfl (jb rfl) rfl ⟨rfl, rfl⟩ ⟨(Nat.le_of_ble_eq_true rfl), (Nat.le_of_ble_eq_true rfl)⟩ (Nat.le_of_ble_eq_true rfl) dX9_next_34 (fun _ => rfl) rfl (fun r6 M5 => ?_)
        refine j_goto (pc := 37) hX 42 dX9_next_37 (by decide) ?_
        exact j_iret (pc := 42) hX rfl dX9_next_42
    · refine j_iconst (pc := 15) (v := (-1 : Int32)) hX dX9_next_15 ci_m1 ?_
      exact j_iret (pc := 16) hX rfl dX9_next_16
theorem mX9_next (l : Launch) (E : jE) (hI : jInj (gX E)) (fu : Nat)  (x1 : Int32) (x2 : Int32) (M : Mem) : jMet l (gX E) yX9_next cX9_next 3 (some .int) rX9_next [.ref (gad (gX E) 0), .int x1, .int x2] M (pX9_next fu  x1 x2 M) :=
  j_entry hI (by decide +kernel) (Nat.le_of_ble_eq_true rfl) rfl (fun X _ hX => wX9_next hX fu   x1 x2 M)
theorem qX9_meet : jYv yX9_meet cX9_meet 3 (some .int) 2 := ⟨tw_784, tw_785, tw_57, tw_786, ⟨by decide +kernel, by decide +kernel, by decide +kernel⟩⟩
abbrev rX9_meet : Room := { frames := 6, cells := 0, slots := 0, locals := 142 }
def uX9_meet : jM := (cX9_meet, 3, RX9, (some .int), rX9_meet)
def pX9_meet (fu : Nat) (x1 : Int32) (x2 : Int32) (M : Mem) : Res :=
  bI (pX1_hasBeast fu 5 x1 M) fun r2 M1 =>
  if r2 = 0 then (
    some ((-1 : Int32), M1))
  else
  bI (pX1_hasBeast fu 5 x2 M1) fun r4 M3 =>
  if r4 = 0 then (
    some ((-1 : Int32), M3))
  else
  if x1 = x2 then (
    some ((-1 : Int32), M3))
  else
  bI (pX3_hoursTillMeeting fu 27 x1 x2 M3) fun r6 M5 =>
  some (r6, M5)
set_option maxRecDepth 100000 in
theorem wX9_meet {E : jE} {X : jC} (hX : jOk X uX9_meet (gX E)) (fu : Nat)  (x1 : Int32) (x2 : Int32) (M : Mem) : J X uX9_meet (gX E) 0 [(0, .ref (gad (gX E) 0)), (1, .int x1), (2, .int x2)] [] M (pX9_meet fu  x1 x2 M) := by
  unfold pX9_meet
  refine j_aload_n (pc := 0) hX 0 dX9_meet_0 rfl rfl ?_
  refine j_getR (pc := 1) (t := 5) hX (jb rfl) rfl (ci := 8) (C := RX9) (T := TX9) (N := 10) rfl (jb rfl) inX9 (j := 2) (jb rfl) rfl tw_422 dX9_meet_1 ?_
  refine j_iload_n (pc := 4) hX 1 dX9_meet_4 rfl rfl ?_
  refine j_callV (pc := 5) hX [.int x1] (mX1_hasBeast _ E hX.2.2.2.2.2.2.2.2.1 fu 5 rfl x1 M) qX1_hasBeast tw_525 (jb rfl) rfl (ci := 1) (T := TX1) (N := 13) rfl (jb rfl) rfl ⟨rfl, rfl⟩ ⟨(Nat.le_of_ble_eq_true rfl), (Nat.le_of_ble_eq_true rfl)⟩ (Nat.le_of_ble_eq_true rfl) dX9_meet_5 (fun _ => rfl) rfl (fun r2 M1 => ?_)
  refine j_if_eq (pc := 8) hX 27 dX9_meet_8 (by decide) ?_ ?_
  · refine j_iconst (pc := 27) (v := (-1 : Int32)) hX dX9_meet_27 ci_m1 ?_
    exact j_iret (pc := 28) hX rfl dX9_meet_28
  · refine j_aload_n (pc := 11) hX 0 dX9_meet_11 rfl rfl ?_
    refine j_getR (pc := 12) (t := 5) hX (jb rfl) rfl (ci := 8) (C := RX9) (T := TX9) (N := 10) rfl (jb rfl) inX9 (j := 2) (jb rfl) rfl tw_422 dX9_meet_12 ?_
    refine j_iload_n (pc := 15) hX 2 dX9_meet_15 rfl rfl ?_
    refine j_callV (pc := 16) hX [.int x2] (mX1_hasBeast _ E hX.2.2.2.2.2.2.2.2.1 fu 5 rfl x2 M1) qX1_hasBeast tw_525 (jb rfl) rfl (ci := 1) (T := TX1) (N := 13) rfl (jb rfl) rfl ⟨rfl, rfl⟩ ⟨(Nat.le_of_ble_eq_true rfl), (Nat.le_of_ble_eq_true rfl)⟩ (Nat.le_of_ble_eq_true rfl) dX9_meet_16 (fun _ => rfl) rfl (fun r4 M3 => ?_)
    refine j_if_eq (pc := 19) hX 27 dX9_meet_19 (by decide) ?_ ?_
    · refine j_iconst (pc := 27) (v := (-1 : Int32)) hX dX9_meet_27 ci_m1 ?_
      exact j_iret (pc := 28) hX rfl dX9_meet_28
    · refine j_iload_n (pc := 22) hX 1 dX9_meet_22 rfl rfl ?_
      refine j_iload_n (pc := 23) hX 2 dX9_meet_23 rfl rfl ?_
      refine j_icmp_ne (pc := 24) hX 29 dX9_meet_24 (by decide) ?_ ?_
      · refine j_aload_n (pc := 29) hX 0 dX9_meet_29 rfl rfl ?_
        refine j_getR (pc := 30) (t := 53) hX (jb rfl) rfl (ci := 8) (C := RX9) (T := TX9) (N := 10) rfl (jb rfl) inX9 (j := 7) (jb rfl) rfl tw_427 dX9_meet_30 ?_
        refine j_aload_n (pc := 33) hX 0 dX9_meet_33 rfl rfl ?_
        refine j_getR (pc := 34) (t := 27) hX (jb rfl) rfl (ci := 8) (C := RX9) (T := TX9) (N := 10) rfl (jb rfl) inX9 (j := 4) (jb rfl) rfl tw_424 dX9_meet_34 ?_
        refine j_iload_n (pc := 37) hX 1 dX9_meet_37 rfl rfl ?_
        refine j_iload_n (pc := 38) hX 2 dX9_meet_38 rfl rfl ?_
        refine j_callV (pc := 39) hX [.ref (gad (gX E) 27), .int x1, .int x2] (mX3_hoursTillMeeting _ E hX.2.2.2.2.2.2.2.2.1 fu 27 rfl x1 x2 M3) qX3_hoursTillMeeting tw_787 (jb rfl) rfl (ci := 3) (T := TX3) (N := 2) rfl (jb rfl) rfl ⟨rfl, rfl⟩ ⟨(Nat.le_of_ble_eq_true rfl), (Nat.le_of_ble_eq_true rfl)⟩ (Nat.le_of_ble_eq_true rfl) dX9_meet_39 (fun _ => rfl) rfl (fun r6 M5 => ?_)
        exact j_iret (pc := 42) hX rfl dX9_meet_42
      · refine j_iconst (pc := 27) (v := (-1 : Int32)) hX dX9_meet_27 ci_m1 ?_
        exact j_iret (pc := 28) hX rfl dX9_meet_28
theorem mX9_meet (l : Launch) (E : jE) (hI : jInj (gX E)) (fu : Nat)  (x1 : Int32) (x2 : Int32) (M : Mem) : jMet l (gX E) yX9_meet cX9_meet 3 (some .int) rX9_meet [.ref (gad (gX E) 0), .int x1, .int x2] M (pX9_meet fu  x1 x2 M) :=
  j_entry hI (by decide +kernel) (Nat.le_of_ble_eq_true rfl) rfl (fun X _ hX => wX9_meet hX fu   x1 x2 M)
theorem qX9_told : jYv yX9_told cX9_told 3 (some .int) 2 := ⟨tw_794, tw_795, tw_57, tw_796, ⟨by decide +kernel, by decide +kernel, by decide +kernel⟩⟩
abbrev rX9_told : Room := { frames := 4, cells := 0, slots := 0, locals := 90 }
def uX9_told : jM := (cX9_told, 3, RX9, (some .int), rX9_told)
def pX9_told (fu : Nat) (x1 : Int32) (x2 : Int32) (M : Mem) : Res :=
  bI (pX1_hasBeast fu 5 x1 M) fun r2 M1 =>
  if r2 = 0 then (
    some ((-1 : Int32), M1))
  else
  bI (pX9_isVerdict fu x2 M1) fun r4 M3 =>
  if r4 = 0 then (
    some ((-1 : Int32), M3))
  else
  bI (pX4_carries fu 27 x1 M3) fun r6 M5 =>
  if r6 = 0 then (
    some ((-2 : Int32), M5))
  else
  bI (pX4_verdictsOfSign fu 27 x1 x2 M5) fun r8 M7 =>
  some (r8, M7)
set_option maxRecDepth 100000 in
theorem wX9_told {E : jE} {X : jC} (hX : jOk X uX9_told (gX E)) (fu : Nat)  (x1 : Int32) (x2 : Int32) (M : Mem) : J X uX9_told (gX E) 0 [(0, .ref (gad (gX E) 0)), (1, .int x1), (2, .int x2)] [] M (pX9_told fu  x1 x2 M) := by
  unfold pX9_told
  refine j_aload_n (pc := 0) hX 0 dX9_told_0 rfl rfl ?_
  refine j_getR (pc := 1) (t := 5) hX (jb rfl) rfl (ci := 8) (C := RX9) (T := TX9) (N := 10) rfl (jb rfl) inX9 (j := 2) (jb rfl) rfl tw_422 dX9_told_1 ?_
  refine j_iload_n (pc := 4) hX 1 dX9_told_4 rfl rfl ?_
  refine j_callV (pc := 5) hX [.int x1] (mX1_hasBeast _ E hX.2.2.2.2.2.2.2.2.1 fu 5 rfl x1 M) qX1_hasBeast tw_525 (jb rfl) rfl (ci := 1) (T := TX1) (N := 13) rfl (jb rfl) rfl ⟨rfl, rfl⟩ ⟨(Nat.le_of_ble_eq_true rfl), (Nat.le_of_ble_eq_true rfl)⟩ (Nat.le_of_ble_eq_true rfl) dX9_told_5 (fun _ => rfl) rfl (fun r2 M1 => ?_)
  refine j_if_eq (pc := 8) hX 18 dX9_told_8 (by decide) ?_ ?_
  · refine j_iconst (pc := 18) (v := (-1 : Int32)) hX dX9_told_18 ci_m1 ?_
    exact j_iret (pc := 19) hX rfl dX9_told_19
  · refine j_iload_n (pc := 11) hX 2 dX9_told_11 rfl rfl ?_
    refine j_callS (pc := 12) hX [.int x2] (mX9_isVerdict _ E hX.2.2.2.2.2.2.2.2.1 fu   x2 M1) qX9_isVerdict tw_563 rfl ⟨rfl, rfl⟩ ⟨(Nat.le_of_ble_eq_true rfl), (Nat.le_of_ble_eq_true rfl)⟩ (Nat.le_of_ble_eq_true rfl) dX9_told_12 (fun _ => rfl) rfl (fun r4 M3 => ?_)
    refine j_if_ne (pc := 15) hX 20 dX9_told_15 (by decide) ?_ ?_
    · refine j_aload_n (pc := 20) hX 0 dX9_told_20 rfl rfl ?_
      refine j_getR (pc := 21) (t := 27) hX (jb rfl) rfl (ci := 8) (C := RX9) (T := TX9) (N := 10) rfl (jb rfl) inX9 (j := 4) (jb rfl) rfl tw_424 dX9_told_21 ?_
      refine j_iload_n (pc := 24) hX 1 dX9_told_24 rfl rfl ?_
      refine j_callV (pc := 25) hX [.int x1] (mX4_carries _ E hX.2.2.2.2.2.2.2.2.1 fu 27 rfl x1 M3) qX4_carries tw_542 (jb rfl) rfl (ci := 4) (T := TX4) (N := 2) rfl (jb rfl) rfl ⟨rfl, rfl⟩ ⟨(Nat.le_of_ble_eq_true rfl), (Nat.le_of_ble_eq_true rfl)⟩ (Nat.le_of_ble_eq_true rfl) dX9_told_25 (fun _ => rfl) rfl (fun r6 M5 => ?_)
      refine j_if_eq (pc := 28) hX 43 dX9_told_28 (by decide) ?_ ?_
      · refine j_bipush (pc := 43) (v := (-2 : Int32)) hX dX9_told_43 cb_m2 ?_
        exact j_iret (pc := 45) hX rfl dX9_told_45
      · refine j_aload_n (pc := 31) hX 0 dX9_told_31 rfl rfl ?_
        refine j_getR (pc := 32) (t := 27) hX (jb rfl) rfl (ci := 8) (C := RX9) (T := TX9) (N := 10) rfl (jb rfl) inX9 (j := 4) (jb rfl) rfl tw_424 dX9_told_32 ?_
        refine j_iload_n (pc := 35) hX 1 dX9_told_35 rfl rfl ?_
        refine j_iload_n (pc := 36) hX 2 dX9_told_36 rfl rfl ?_
        refine j_callV (pc := 37) hX [.int x1, .int x2] (mX4_verdictsOfSign _ E hX.2.2.2.2.2.2.2.2.1 fu 27 rfl x1 x2 M5) qX4_verdictsOfSign tw_797 (jb rfl) rfl (ci := 4) (T := TX4) (N := 2) rfl (jb rfl) rfl ⟨rfl, rfl⟩ ⟨(Nat.le_of_ble_eq_true rfl), (Nat.le_of_ble_eq_true rfl)⟩ (Nat.le_of_ble_eq_true rfl) dX9_told_37 (fun _ => rfl) rfl (fun r8 M7 => ?_)
        refine j_goto (pc := 40) hX 45 dX9_told_40 (by decide) ?_
        exact j_iret (pc := 45) hX rfl dX9_told_45
    · refine j_iconst (pc := 18) (v := (-1 : Int32)) hX dX9_told_18 ci_m1 ?_
      exact j_iret (pc := 19) hX rfl dX9_told_19
theorem mX9_told (l : Launch) (E : jE) (hI : jInj (gX E)) (fu : Nat)  (x1 : Int32) (x2 : Int32) (M : Mem) : jMet l (gX E) yX9_told cX9_told 3 (some .int) rX9_told [.ref (gad (gX E) 0), .int x1, .int x2] M (pX9_told fu  x1 x2 M) :=
  j_entry hI (by decide +kernel) (Nat.le_of_ble_eq_true rfl) rfl (fun X _ hX => wX9_told hX fu   x1 x2 M)
theorem qJ6_bitCount_0f7a4 : jYs yJ6_bitCount_0f7a4 cJ6_bitCount_0f7a4 1 (some .int) 1 := ⟨tw_806, tw_74, tw_807, ⟨by decide +kernel, by decide +kernel, by decide +kernel⟩⟩
abbrev rJ6_bitCount_0f7a4 : Room := { frames := 0, cells := 0, slots := 0, locals := 0 }
def uJ6_bitCount_0f7a4 : jM := (cJ6_bitCount_0f7a4, 1, RJ6, (some .int), rJ6_bitCount_0f7a4)
def pJ6_bitCount_0f7a4 (fu : Nat) (x0 : Int32) (M : Mem) : Res :=
  some (((((((((x0 - ((ius x0 (1 : Int32)) &&& (1431655765 : Int32))) &&& (858993459 : Int32)) + ((ius (x0 - ((ius x0 (1 : Int32)) &&& (1431655765 : Int32))) (2 : Int32)) &&& (858993459 : Int32))) + (ius (((x0 - ((ius x0 (1 : Int32)) &&& (1431655765 : Int32))) &&& (858993459 : Int32)) + ((ius (x0 - ((ius x0 (1 : Int32)) &&& (1431655765 : Int32))) (2 : Int32)) &&& (858993459 : Int32))) (4 : Int32))) &&& (252645135 : Int32)) + (ius (((((x0 - ((ius x0 (1 : Int32)) &&& (1431655765 : Int32))) &&& (858993459 : Int32)) + ((ius (x0 - ((ius x0 (1 : Int32)) &&& (1431655765 : Int32))) (2 : Int32)) &&& (858993459 : Int32))) + (ius (((x0 - ((ius x0 (1 : Int32)) &&& (1431655765 : Int32))) &&& (858993459 : Int32)) + ((ius (x0 - ((ius x0 (1 : Int32)) &&& (1431655765 : Int32))) (2 : Int32)) &&& (858993459 : Int32))) (4 : Int32))) &&& (252645135 : Int32)) (8 : Int32))) + (ius ((((((x0 - ((ius x0 (1 : Int32)) &&& (1431655765 : Int32))) &&& (858993459 : Int32)) + ((ius (x0 - ((ius x0 (1 : Int32)) &&& (1431655765 : Int32))) (2 : Int32)) &&& (858993459 : Int32))) + (ius (((x0 - ((ius x0 (1 : Int32)) &&& (1431655765 : Int32))) &&& (858993459 : Int32)) + ((ius (x0 - ((ius x0 (1 : Int32)) &&& (1431655765 : Int32))) (2 : Int32)) &&& (858993459 : Int32))) (4 : Int32))) &&& (252645135 : Int32)) + (ius (((((x0 - ((ius x0 (1 : Int32)) &&& (1431655765 : Int32))) &&& (858993459 : Int32)) + ((ius (x0 - ((ius x0 (1 : Int32)) &&& (1431655765 : Int32))) (2 : Int32)) &&& (858993459 : Int32))) + (ius (((x0 - ((ius x0 (1 : Int32)) &&& (1431655765 : Int32))) &&& (858993459 : Int32)) + ((ius (x0 - ((ius x0 (1 : Int32)) &&& (1431655765 : Int32))) (2 : Int32)) &&& (858993459 : Int32))) (4 : Int32))) &&& (252645135 : Int32)) (8 : Int32))) (16 : Int32))) &&& (63 : Int32)), M)
set_option maxRecDepth 100000 in
theorem wJ6_bitCount_0f7a4 {E : jE} {X : jC} (hX : jOk X uJ6_bitCount_0f7a4 (gX E)) (fu : Nat)  (x0 : Int32) (M : Mem) : J X uJ6_bitCount_0f7a4 (gX E) 0 [(0, .int x0)] [] M (pJ6_bitCount_0f7a4 fu  x0 M) := by
  unfold pJ6_bitCount_0f7a4
  refine j_iload_n (pc := 0) hX 0 dJ6_bitCount_0f7a4_0 rfl rfl ?_
  refine j_iload_n (pc := 1) hX 0 dJ6_bitCount_0f7a4_1 rfl rfl ?_
  refine j_iconst (pc := 2) (v := (1 : Int32)) hX dJ6_bitCount_0f7a4_2 ci_1 ?_
  refine j_iushr (pc := 3) hX dJ6_bitCount_0f7a4_3 ?_
  refine j_ldcw (pc := 4) (v := (1431655765 : Int32)) hX tw_808 dJ6_bitCount_0f7a4_4 ?_
  refine j_iand (pc := 7) hX dJ6_bitCount_0f7a4_7 ?_
  refine j_isub (pc := 8) hX dJ6_bitCount_0f7a4_8 ?_
  refine j_istore_n (pc := 9) (lv' := [(0, .int (x0 - ((ius x0 (1 : Int32)) &&& (1431655765 : Int32))))]) hX dJ6_bitCount_0f7a4_9 rfl (jb rfl) rfl ?_
  refine j_iload_n (pc := 10) hX 0 dJ6_bitCount_0f7a4_10 rfl rfl ?_
  refine j_ldcw (pc := 11) (v := (858993459 : Int32)) hX tw_809 dJ6_bitCount_0f7a4_11 ?_
  refine j_iand (pc := 14) hX dJ6_bitCount_0f7a4_14 ?_
  refine j_iload_n (pc := 15) hX 0 dJ6_bitCount_0f7a4_15 rfl rfl ?_
  refine j_iconst (pc := 16) (v := (2 : Int32)) hX dJ6_bitCount_0f7a4_16 ci_2 ?_
  refine j_iushr (pc := 17) hX dJ6_bitCount_0f7a4_17 ?_
  refine j_ldcw (pc := 18) (v := (858993459 : Int32)) hX tw_809 dJ6_bitCount_0f7a4_18 ?_
  refine j_iand (pc := 21) hX dJ6_bitCount_0f7a4_21 ?_
  refine j_iadd (pc := 22) hX dJ6_bitCount_0f7a4_22 ?_
  refine j_istore_n (pc := 23) (lv' := [(0, .int (((x0 - ((ius x0 (1 : Int32)) &&& (1431655765 : Int32))) &&& (858993459 : Int32)) + ((ius (x0 - ((ius x0 (1 : Int32)) &&& (1431655765 : Int32))) (2 : Int32)) &&& (858993459 : Int32))))]) hX dJ6_bitCount_0f7a4_23 rfl (jb rfl) rfl ?_
  refine j_iload_n (pc := 24) hX 0 dJ6_bitCount_0f7a4_24 rfl rfl ?_
  refine j_iload_n (pc := 25) hX 0 dJ6_bitCount_0f7a4_25 rfl rfl ?_
  refine j_iconst (pc := 26) (v := (4 : Int32)) hX dJ6_bitCount_0f7a4_26 ci_4 ?_
  refine j_iushr (pc := 27) hX dJ6_bitCount_0f7a4_27 ?_
  refine j_iadd (pc := 28) hX dJ6_bitCount_0f7a4_28 ?_
  refine j_ldcw (pc := 29) (v := (252645135 : Int32)) hX tw_810 dJ6_bitCount_0f7a4_29 ?_
  refine j_iand (pc := 32) hX dJ6_bitCount_0f7a4_32 ?_
  refine j_istore_n (pc := 33) (lv' := [(0, .int (((((x0 - ((ius x0 (1 : Int32)) &&& (1431655765 : Int32))) &&& (858993459 : Int32)) + ((ius (x0 - ((ius x0 (1 : Int32)) &&& (1431655765 : Int32))) (2 : Int32)) &&& (858993459 : Int32))) + (ius (((x0 - ((ius x0 (1 : Int32)) &&& (1431655765 : Int32))) &&& (858993459 : Int32)) + ((ius (x0 - ((ius x0 (1 : Int32)) &&& (1431655765 : Int32))) (2 : Int32)) &&& (858993459 : Int32))) (4 : Int32))) &&& (252645135 : Int32)))]) hX dJ6_bitCount_0f7a4_33 rfl (jb rfl) rfl ?_
  refine j_iload_n (pc := 34) hX 0 dJ6_bitCount_0f7a4_34 rfl rfl ?_
  refine j_iload_n (pc := 35) hX 0 dJ6_bitCount_0f7a4_35 rfl rfl ?_
  refine j_bipush (pc := 36) (v := (8 : Int32)) hX dJ6_bitCount_0f7a4_36 cb_8 ?_
  refine j_iushr (pc := 38) hX dJ6_bitCount_0f7a4_38 ?_
  refine j_iadd (pc := 39) hX dJ6_bitCount_0f7a4_39 ?_
  refine j_istore_n (pc := 40) (lv' := [(0, .int ((((((x0 - ((ius x0 (1 : Int32)) &&& (1431655765 : Int32))) &&& (858993459 : Int32)) + ((ius (x0 - ((ius x0 (1 : Int32)) &&& (1431655765 : Int32))) (2 : Int32)) &&& (858993459 : Int32))) + (ius (((x0 - ((ius x0 (1 : Int32)) &&& (1431655765 : Int32))) &&& (858993459 : Int32)) + ((ius (x0 - ((ius x0 (1 : Int32)) &&& (1431655765 : Int32))) (2 : Int32)) &&& (858993459 : Int32))) (4 : Int32))) &&& (252645135 : Int32)) + (ius (((((x0 - ((ius x0 (1 : Int32)) &&& (1431655765 : Int32))) &&& (858993459 : Int32)) + ((ius (x0 - ((ius x0 (1 : Int32)) &&& (1431655765 : Int32))) (2 : Int32)) &&& (858993459 : Int32))) + (ius (((x0 - ((ius x0 (1 : Int32)) &&& (1431655765 : Int32))) &&& (858993459 : Int32)) + ((ius (x0 - ((ius x0 (1 : Int32)) &&& (1431655765 : Int32))) (2 : Int32)) &&& (858993459 : Int32))) (4 : Int32))) &&& (252645135 : Int32)) (8 : Int32))))]) hX dJ6_bitCount_0f7a4_40 rfl (jb rfl) rfl ?_
  refine j_iload_n (pc := 41) hX 0 dJ6_bitCount_0f7a4_41 rfl rfl ?_
  refine j_iload_n (pc := 42) hX 0 dJ6_bitCount_0f7a4_42 rfl rfl ?_
  refine j_bipush (pc := 43) (v := (16 : Int32)) hX dJ6_bitCount_0f7a4_43 cb_16 ?_
  refine j_iushr (pc := 45) hX dJ6_bitCount_0f7a4_45 ?_
  refine j_iadd (pc := 46) hX dJ6_bitCount_0f7a4_46 ?_
  refine j_istore_n (pc := 47) (lv' := [(0, .int (((((((x0 - ((ius x0 (1 : Int32)) &&& (1431655765 : Int32))) &&& (858993459 : Int32)) + ((ius (x0 - ((ius x0 (1 : Int32)) &&& (1431655765 : Int32))) (2 : Int32)) &&& (858993459 : Int32))) + (ius (((x0 - ((ius x0 (1 : Int32)) &&& (1431655765 : Int32))) &&& (858993459 : Int32)) + ((ius (x0 - ((ius x0 (1 : Int32)) &&& (1431655765 : Int32))) (2 : Int32)) &&& (858993459 : Int32))) (4 : Int32))) &&& (252645135 : Int32)) + (ius (((((x0 - ((ius x0 (1 : Int32)) &&& (1431655765 : Int32))) &&& (858993459 : Int32)) + ((ius (x0 - ((ius x0 (1 : Int32)) &&& (1431655765 : Int32))) (2 : Int32)) &&& (858993459 : Int32))) + (ius (((x0 - ((ius x0 (1 : Int32)) &&& (1431655765 : Int32))) &&& (858993459 : Int32)) + ((ius (x0 - ((ius x0 (1 : Int32)) &&& (1431655765 : Int32))) (2 : Int32)) &&& (858993459 : Int32))) (4 : Int32))) &&& (252645135 : Int32)) (8 : Int32))) + (ius ((((((x0 - ((ius x0 (1 : Int32)) &&& (1431655765 : Int32))) &&& (858993459 : Int32)) + ((ius (x0 - ((ius x0 (1 : Int32)) &&& (1431655765 : Int32))) (2 : Int32)) &&& (858993459 : Int32))) + (ius (((x0 - ((ius x0 (1 : Int32)) &&& (1431655765 : Int32))) &&& (858993459 : Int32)) + ((ius (x0 - ((ius x0 (1 : Int32)) &&& (1431655765 : Int32))) (2 : Int32)) &&& (858993459 : Int32))) (4 : Int32))) &&& (252645135 : Int32)) + (ius (((((x0 - ((ius x0 (1 : Int32)) &&& (1431655765 : Int32))) &&& (858993459 : Int32)) + ((ius (x0 - ((ius x0 (1 : Int32)) &&& (1431655765 : Int32))) (2 : Int32)) &&& (858993459 : Int32))) + (ius (((x0 - ((ius x0 (1 : Int32)) &&& (1431655765 : Int32))) &&& (858993459 : Int32)) + ((ius (x0 - ((ius x0 (1 : Int32)) &&& (1431655765 : Int32))) (2 : Int32)) &&& (858993459 : Int32))) (4 : Int32))) &&& (252645135 : Int32)) (8 : Int32))) (16 : Int32))))]) hX dJ6_bitCount_0f7a4_47 rfl (jb rfl) rfl ?_
  refine j_iload_n (pc := 48) hX 0 dJ6_bitCount_0f7a4_48 rfl rfl ?_
  refine j_bipush (pc := 49) (v := (63 : Int32)) hX dJ6_bitCount_0f7a4_49 cb_63 ?_
  refine j_iand (pc := 51) hX dJ6_bitCount_0f7a4_51 ?_
  exact j_iret (pc := 52) hX rfl dJ6_bitCount_0f7a4_52
theorem mJ6_bitCount_0f7a4 (l : Launch) (E : jE) (hI : jInj (gX E)) (fu : Nat)  (x0 : Int32) (M : Mem) : jMet l (gX E) yJ6_bitCount_0f7a4 cJ6_bitCount_0f7a4 1 (some .int) rJ6_bitCount_0f7a4 [.int x0] M (pJ6_bitCount_0f7a4 fu  x0 M) :=
  j_entry hI (by decide +kernel) (Nat.le_of_ble_eq_true rfl) rfl (fun X _ hX => wJ6_bitCount_0f7a4 hX fu   x0 M)
theorem qX9_who : jYv yX9_who cX9_who 8 (some .int) 3 := ⟨tw_802, tw_803, tw_57, tw_804, ⟨by decide +kernel, by decide +kernel, by decide +kernel⟩⟩
abbrev rX9_who : Room := { frames := 7, cells := 0, slots := 0, locals := 165 }
def uX9_who : jM := (cX9_who, 8, RX9, (some .int), rX9_who)
def pX9_who_103 (fu : Nat) (x1 : Int32) (x2 : Int32) (x3 : Int32) (x4 : Int32) (x5 : Int32) (x6 : Int32) (M : Mem) (c39 : Int32 → Int32 → Int32 → Int32 → Int32 → Int32 → Mem → Res) : Res :=
  c39 x1 x2 x3 x4 x5 (x6 + (1 : Int32)) M
set_option maxRecDepth 100000 in
theorem wX9_who_103 {E : jE} {X : jC} (hX : jOk X uX9_who (gX E)) (fu : Nat)  (x1 : Int32) (x2 : Int32) (x3 : Int32) (x4 : Int32) (x5 : Int32) (x6 : Int32) (M : Mem) (c39 : Int32 → Int32 → Int32 → Int32 → Int32 → Int32 → Mem → Res) (hc39 : ∀ (x1 : Int32) (x2 : Int32) (x3 : Int32) (x4 : Int32) (x5 : Int32) (x6 : Int32) (M : Mem), J X uX9_who (gX E) 39 [(0, .ref (gad (gX E) 0)), (1, .int x1), (2, .int x2), (3, .int x3), (4, .int x4), (5, .int x5), (6, .int x6)] [] M (c39 x1 x2 x3 x4 x5 x6 M)) : J X uX9_who (gX E) 103 [(0, .ref (gad (gX E) 0)), (1, .int x1), (2, .int x2), (3, .int x3), (4, .int x4), (5, .int x5), (6, .int x6)] [] M (pX9_who_103 fu  x1 x2 x3 x4 x5 x6 M c39) := by
  unfold pX9_who_103
  refine j_iinc (pc := 103) (v := (x6 + (1 : Int32))) (lv' := [(6, .int (x6 + (1 : Int32))), (0, .ref (gad (gX E) 0)), (1, .int x1), (2, .int x2), (3, .int x3), (4, .int x4), (5, .int x5)]) hX 6 dX9_who_103 rfl (by rw [ci_1]) (jb rfl) rfl ?_
  refine j_goto (pc := 106) hX 39 dX9_who_106 (by decide) ?_
  exact j_sub [1, 2, 3, 4, 5, 6, 0] rfl (hc39 x1 x2 x3 x4 x5 (x6 + (1 : Int32)) M)
def pX9_who_39b (fu : Nat) (x1 : Int32) (x2 : Int32) (x3 : Int32) (x4 : Int32) (x5 : Int32) (x6 : Int32) (M : Mem) (c39 : Int32 → Int32 → Int32 → Int32 → Int32 → Int32 → Mem → Res) (c109 : Int32 → Int32 → Int32 → Mem → Res) : Res :=
  bI (pX1_beasts fu 5 M) fun r6 M5 =>
  if r6 ≤ x6 then (
    c109 x3 x4 x5 M5)
  else
  bI (pX3_verdictsReadAs fu 27 x6 x1 x2 M5) fun r8 M7 =>
  bI (pJ6_bitCount_0f7a4 fu r8 M7) fun r10 M9 =>
  if x5 = (-4 : Int32) then (
    if r8 = 0 then (
      pX9_who_103 fu  x1 x2 x3 (x4 + r10) x5 x6 M9 c39)
    else
    bI (pX9_lowestBit fu r8 M9) fun r12 M11 =>
    pX9_who_103 fu  x1 x2 x3 (x4 + r10) (((10 : Int32) * x6) + r12) x6 M11 c39)
  else
  pX9_who_103 fu  x1 x2 x3 (x4 + r10) x5 x6 M9 c39
set_option maxRecDepth 100000 in
theorem wX9_who_39b {E : jE} {X : jC} (hX : jOk X uX9_who (gX E)) (fu : Nat)  (x1 : Int32) (x2 : Int32) (x3 : Int32) (x4 : Int32) (x5 : Int32) (x6 : Int32) (M : Mem) (c39 : Int32 → Int32 → Int32 → Int32 → Int32 → Int32 → Mem → Res) (c109 : Int32 → Int32 → Int32 → Mem → Res) (hc39 : ∀ (x1 : Int32) (x2 : Int32) (x3 : Int32) (x4 : Int32) (x5 : Int32) (x6 : Int32) (M : Mem), J X uX9_who (gX E) 39 [(0, .ref (gad (gX E) 0)), (1, .int x1), (2, .int x2), (3, .int x3), (4, .int x4), (5, .int x5), (6, .int x6)] [] M (c39 x1 x2 x3 x4 x5 x6 M)) (hc109 : ∀ (x3 : Int32) (x4 : Int32) (x5 : Int32) (M : Mem), J X uX9_who (gX E) 109 [(3, .int x3), (4, .int x4), (5, .int x5)] [] M (c109 x3 x4 x5 M)) : J X uX9_who (gX E) 39 [(0, .ref (gad (gX E) 0)), (1, .int x1), (2, .int x2), (3, .int x3), (4, .int x4), (5, .int x5), (6, .int x6)] [] M (pX9_who_39b fu  x1 x2 x3 x4 x5 x6 M c39 c109) := by
  unfold pX9_who_39b
  refine j_iload (pc := 39) hX 6 dX9_who_39 rfl ?_
  refine j_aload_n (pc := 41) hX 0 dX9_who_41 rfl rfl ?_
  refine j_getR (pc := 42) (t := 5) hX (jb rfl) rfl (ci := 8) (C := RX9) (T := TX9) (N := 10) rfl (jb rfl) inX9 (j := 2) (jb rfl) rfl tw_422 dX9_who_42 ?_
  refine j_callV (pc := 45) hX [] (mX1_beasts _ E hX.2.2.2.2.2.2.2.2.1 fu 5 rfl  M) qX1_beasts tw_473 (jb rfl) rfl (ci := 1) (T := TX1) (N := 13) rfl (jb rfl) rfl ⟨rfl, rfl⟩ ⟨(Nat.le_of_ble_eq_true rfl), (Nat.le_of_ble_eq_true rfl)⟩ (Nat.le_of_ble_eq_true rfl) dX9_who_45 (fun _ => rfl) rfl (fun r6 M5 => ?_)
  refine j_icmp_ge (pc := 48) hX 109 dX9_who_48 (by decide) ?_ ?_
  · exact j_sub [3, 4, 5] rfl (hc109 x3 x4 x5 M5)
  · refine j_aload_n (pc := 51) hX 0 dX9_who_51 rfl rfl ?_
    refine j_getR (pc := 52) (t := 53) hX (jb rfl) rfl (ci := 8) (C := RX9) (T := TX9) (N := 10) rfl (jb rfl) inX9 (j := 7) (jb rfl) rfl tw_427 dX9_who_52 ?_
    refine j_aload_n (pc := 55) hX 0 dX9_who_55 rfl rfl ?_
    refine j_getR (pc := 56) (t := 27) hX (jb rfl) rfl (ci := 8) (C := RX9) (T := TX9) (N := 10) rfl (jb rfl) inX9 (j := 4) (jb rfl) rfl tw_424 dX9_who_56 ?_
    refine j_iload (pc := 59) hX 6 dX9_who_59 rfl ?_
    refine j_iload_n (pc := 61) hX 1 dX9_who_61 rfl rfl ?_
    refine j_iload_n (pc := 62) hX 2 dX9_who_62 rfl rfl ?_
    refine j_callV (pc := 63) hX [.ref (gad (gX E) 27), .int x6, .int x1, .int x2] (mX3_verdictsReadAs _ E hX.2.2.2.2.2.2.2.2.1 fu 27 rfl x6 x1 x2 M5) qX3_verdictsReadAs tw_715 (jb rfl) rfl (ci := 3) (T := TX3) (N := 2) rfl (jb rfl) rfl ⟨rfl, rfl⟩ ⟨(Nat.le_of_ble_eq_true rfl), (Nat.le_of_ble_eq_true rfl)⟩ (Nat.le_of_ble_eq_true rfl) dX9_who_63 (fun _ => rfl) rfl (fun r8 M7 => ?_)
    refine j_istore (pc := 66) (lv' := [(7, .int r8), (0, .ref (gad (gX E) 0)), (1, .int x1), (2, .int x2), (3, .int x3), (4, .int x4), (5, .int x5), (6, .int x6)]) hX dX9_who_66 (jb rfl) rfl ?_
    refine j_iload (pc := 68) hX 5 dX9_who_68 rfl ?_
    refine j_iload (pc := 70) hX 0 dX9_who_70 rfl ?_
    refine j_callS (pc := 72) hX [.int r8] (mJ6_bitCount_0f7a4 _ E hX.2.2.2.2.2.2.2.2.1 fu   r8 M7) qJ6_bitCount_0f7a4 tw_805 rfl ⟨rfl, rfl⟩ ⟨(Nat.le_of_ble_eq_true rfl), (Nat.le_of_ble_eq_true rfl)⟩ (Nat.le_of_ble_eq_true rfl) dX9_who_72 (fun _ => rfl) rfl (fun r10 M9 => ?_)
    refine j_iadd (pc := 75) hX dX9_who_75 ?_
    refine j_istore (pc := 76) (lv' := [(4, .int (x4 + r10)), (7, .int r8), (0, .ref (gad (gX E) 0)), (1, .int x1), (2, .int x2), (3, .int x3), (5, .int x5), (6, .int x6)]) hX dX9_who_76 (jb rfl) rfl ?_
    refine j_iload (pc := 78) hX 6 dX9_who_78 rfl ?_
    refine j_bipush (pc := 80) (v := (-4 : Int32)) hX dX9_who_80 cb_m4 ?_
    refine j_icmp_ne (pc := 82) hX 103 dX9_who_82 (by decide) ?_ ?_
    · exact j_sub [2, 3, 4, 5, 0, 6, 7] rfl (wX9_who_103 hX fu   x1 x2 x3 (x4 + r10) x5 x6 M9 c39 hc39)
    · refine j_iload (pc := 85) hX 1 dX9_who_85 rfl ?_
      refine j_if_eq (pc := 87) hX 103 dX9_who_87 (by decide) ?_ ?_
      · exact j_sub [2, 3, 4, 5, 0, 6, 7] rfl (wX9_who_103 hX fu   x1 x2 x3 (x4 + r10) x5 x6 M9 c39 hc39)
      · refine j_bipush (pc := 90) (v := (10 : Int32)) hX dX9_who_90 cb_10 ?_
        refine j_iload (pc := 92) hX 7 dX9_who_92 rfl ?_
        refine j_imul (pc := 94) hX dX9_who_94 ?_
        refine j_iload (pc := 95) hX 1 dX9_who_95 rfl ?_
        refine j_callS (pc := 97) hX [.int r8] (mX9_lowestBit _ E hX.2.2.2.2.2.2.2.2.1 fu   r8 M9) qX9_lowestBit tw_720 rfl ⟨rfl, rfl⟩ ⟨(Nat.le_of_ble_eq_true rfl), (Nat.le_of_ble_eq_true rfl)⟩ (Nat.le_of_ble_eq_true rfl) dX9_who_97 (fun _ => rfl) rfl (fun r12 M11 => ?_)
        refine j_iadd (pc := 100) hX dX9_who_100 ?_
        refine j_istore (pc := 101) (lv' := [(5, .int (((10 : Int32) * x6) + r12)), (4, .int (x4 + r10)), (7, .int r8), (0, .ref (gad (gX E) 0)), (1, .int x1), (2, .int x2), (3, .int x3), (6, .int x6)]) hX dX9_who_101 (jb rfl) rfl ?_
        exact j_sub [3, 4, 5, 6, 1, 0, 7] rfl (wX9_who_103 hX fu   x1 x2 x3 (x4 + r10) (((10 : Int32) * x6) + r12) x6 M11 c39 hc39)
def pX9_who_39 (fu : Nat) (c109 : Int32 → Int32 → Int32 → Mem → Res) : Nat → Int32 → Int32 → Int32 → Int32 → Int32 → Int32 → Mem → Res
  | 0, _, _, _, _, _, _, _ => none
  | n + 1, x1, x2, x3, x4, x5, x6, M => pX9_who_39b fu  x1 x2 x3 x4 x5 x6 M (pX9_who_39 fu  c109 n) c109
theorem wX9_who_39 {E : jE} {X : jC} (hX : jOk X uX9_who (gX E)) (fu : Nat)  (c109 : Int32 → Int32 → Int32 → Mem → Res) (hc109 : ∀ (x3 : Int32) (x4 : Int32) (x5 : Int32) (M : Mem), J X uX9_who (gX E) 109 [(3, .int x3), (4, .int x4), (5, .int x5)] [] M (c109 x3 x4 x5 M)) : ∀ (n : Nat) (x1 : Int32) (x2 : Int32) (x3 : Int32) (x4 : Int32) (x5 : Int32) (x6 : Int32) (M : Mem), J X uX9_who (gX E) 39 [(0, .ref (gad (gX E) 0)), (1, .int x1), (2, .int x2), (3, .int x3), (4, .int x4), (5, .int x5), (6, .int x6)] [] M (pX9_who_39 fu  c109 n x1 x2 x3 x4 x5 x6 M) := by
  intro n
  induction n with
  | zero => intro x1 x2 x3 x4 x5 x6 M; exact j_none
  | succ n ih => intro x1 x2 x3 x4 x5 x6 M; exact wX9_who_39b hX fu   x1 x2 x3 x4 x5 x6 M (pX9_who_39 fu  c109 n) c109 ih hc109
def pX9_who (fu : Nat) (x1 : Int32) (x2 : Int32) (x3 : Int32) (M : Mem) : Res :=
  bI (pX1_hasDoor fu 5 x1 M) fun r2 M1 =>
  if r2 = 0 then (
    some ((-1 : Int32), M1))
  else
  bI (pX9_isVerdict fu x2 M1) fun r4 M3 =>
  if r4 = 0 then (
    some ((-1 : Int32), M3))
  else
  if x3 < 0 then (
    some ((-1 : Int32), M3))
  else
  if x3 ≤ (1 : Int32) then (
    pX9_who_39 fu
      (fun y13 y14 y15 M16 =>
        if y13 = 0 then (
          some (y14, M16))
        else
        some (y15, M16))
      fu x1 x2 x3 (0 : Int32) (-4 : Int32) (0 : Int32) M3)
  else
  some ((-1 : Int32), M3)
set_option maxRecDepth 100000 in
theorem wX9_who {E : jE} {X : jC} (hX : jOk X uX9_who (gX E)) (fu : Nat)  (x1 : Int32) (x2 : Int32) (x3 : Int32) (M : Mem) : J X uX9_who (gX E) 0 [(0, .ref (gad (gX E) 0)), (1, .int x1), (2, .int x2), (3, .int x3)] [] M (pX9_who fu  x1 x2 x3 M) := by
  unfold pX9_who
  refine j_aload_n (pc := 0) hX 0 dX9_who_0 rfl rfl ?_
  refine j_getR (pc := 1) (t := 5) hX (jb rfl) rfl (ci := 8) (C := RX9) (T := TX9) (N := 10) rfl (jb rfl) inX9 (j := 2) (jb rfl) rfl tw_422 dX9_who_1 ?_
  refine j_iload_n (pc := 4) hX 1 dX9_who_4 rfl rfl ?_
  refine j_callV (pc := 5) hX [.int x1] (mX1_hasDoor _ E hX.2.2.2.2.2.2.2.2.1 fu 5 rfl x1 M) qX1_hasDoor tw_509 (jb rfl) rfl (ci := 1) (T := TX1) (N := 13) rfl (jb rfl) rfl ⟨rfl, rfl⟩ ⟨(Nat.le_of_ble_eq_true rfl), (Nat.le_of_ble_eq_true rfl)⟩ (Nat.le_of_ble_eq_true rfl) dX9_who_5 (fun _ => rfl) rfl (fun r2 M1 => ?_)
  refine j_if_eq (pc := 8) hX 27 dX9_who_8 (by decide) ?_ ?_
  · refine j_iconst (pc := 27) (v := (-1 : Int32)) hX dX9_who_27 ci_m1 ?_
    exact j_iret (pc := 28) hX rfl dX9_who_28
  · refine j_iload_n (pc := 11) hX 2 dX9_who_11 rfl rfl ?_
    refine j_callS (pc := 12) hX [.int x2] (mX9_isVerdict _ E hX.2.2.2.2.2.2.2.2.1 fu   x2 M1) qX9_isVerdict tw_563 rfl ⟨rfl, rfl⟩ ⟨(Nat.le_of_ble_eq_true rfl), (Nat.le_of_ble_eq_true rfl)⟩ (Nat.le_of_ble_eq_true rfl) dX9_who_12 (fun _ => rfl) rfl (fun r4 M3 => ?_)
    refine j_if_eq (pc := 15) hX 27 dX9_who_15 (by decide) ?_ ?_
    · refine j_iconst (pc := 27) (v := (-1 : Int32)) hX dX9_who_27 ci_m1 ?_
      exact j_iret (pc := 28) hX rfl dX9_who_28
    · refine j_iload_n (pc := 18) hX 3 dX9_who_18 rfl rfl ?_
      refine j_if_lt (pc := 19) hX 27 dX9_who_19 (by decide) ?_ ?_
      · refine j_iconst (pc := 27) (v := (-1 : Int32)) hX dX9_who_27 ci_m1 ?_
        exact j_iret (pc := 28) hX rfl dX9_who_28
      · refine j_iload_n (pc := 22) hX 3 dX9_who_22 rfl rfl ?_
        refine j_iconst (pc := 23) (v := (1 : Int32)) hX dX9_who_23 ci_1 ?_
        refine j_icmp_le (pc := 24) hX 29 dX9_who_24 (by decide) ?_ ?_
        · refine j_iconst (pc := 29) (v := (0 : Int32)) hX dX9_who_29 ci_0 ?_
          refine j_istore (pc := 30) (lv' := [(4, .int (0 : Int32)), (0, .ref (gad (gX E) 0)), (1, .int x1), (2, .int x2), (3, .int x3)]) hX dX9_who_30 (jb rfl) rfl ?_
          refine j_bipush (pc := 32) (v := (-4 : Int32)) hX dX9_who_32 cb_m4 ?_
          refine j_istore (pc := 34) (lv' := [(5, .int (-4 : Int32)), (4, .int (0 : Int32)), (0, .ref (gad (gX E) 0)), (1, .int x1), (2, .int x2), (3, .int x3)]) hX dX9_who_34 (jb rfl) rfl ?_
          refine j_iconst (pc := 36) (v := (0 : Int32)) hX dX9_who_36 ci_0 ?_
          refine j_istore (pc := 37) (lv' := [(6, .int (0 : Int32)), (5, .int (-4 : Int32)), (4, .int (0 : Int32)), (0, .ref (gad (gX E) 0)), (1, .int x1), (2, .int x2), (3, .int x3)]) hX dX9_who_37 (jb rfl) rfl ?_
          refine j_sub [3, 4, 5, 6, 2, 1, 0] rfl (wX9_who_39 hX fu   _ ?_ fu x1 x2 x3 (0 : Int32) (-4 : Int32) (0 : Int32) M3)
          · intro y13 y14 y15 M16
            refine j_iload_n (pc := 109) hX 0 dX9_who_109 rfl rfl ?_
            refine j_if_ne (pc := 110) hX 118 dX9_who_110 (by decide) ?_ ?_
            · refine j_iload (pc := 118) hX 2 dX9_who_118 rfl ?_
              exact j_iret (pc := 120) hX rfl dX9_who_120
            · refine j_iload (pc := 113) hX 1 dX9_who_113 rfl ?_
              refine j_goto (pc := 115) hX 120 dX9_who_115 (by decide) ?_
              exact j_iret (pc := 120) hX rfl dX9_who_120
        · refine j_iconst (pc := 27) (v := (-1 : Int32)) hX dX9_who_27 ci_m1 ?_
          exact j_iret (pc := 28) hX rfl dX9_who_28
theorem mX9_who (l : Launch) (E : jE) (hI : jInj (gX E)) (fu : Nat)  (x1 : Int32) (x2 : Int32) (x3 : Int32) (M : Mem) : jMet l (gX E) yX9_who cX9_who 8 (some .int) rX9_who [.ref (gad (gX E) 0), .int x1, .int x2, .int x3] M (pX9_who fu  x1 x2 x3 M) :=
  j_entry hI (by decide +kernel) (Nat.le_of_ble_eq_true rfl) rfl (fun X _ hX => wX9_who hX fu   x1 x2 x3 M)
theorem qX9_balks : jYv yX9_balks cX9_balks 8 (some .int) 4 := ⟨tw_812, tw_813, tw_57, tw_814, ⟨by decide +kernel, by decide +kernel, by decide +kernel⟩⟩
abbrev rX9_balks : Room := { frames := 17, cells := 0, slots := 0, locals := 566 }
def uX9_balks : jM := (cX9_balks, 8, RX9, (some .int), rX9_balks)
def pX9_balks (fu : Nat) (x1 : Int32) (x2 : Int32) (x3 : Int32) (x4 : Int32) (M : Mem) : Res :=
  bI (pX1_hasBeast fu 5 x1 M) fun r2 M1 =>
  if r2 = 0 then (
    some ((-1 : Int32), M1))
  else
  if x2 < 0 then (
    some ((-1 : Int32), M1))
  else
  if (8 : Int32) < x2 then (
    some ((-1 : Int32), M1))
  else
  if x3 < 0 then (
    some ((-1 : Int32), M1))
  else
  if (10 : Int32) < x3 then (
    some ((-1 : Int32), M1))
  else
  if x4 < 0 then (
    some ((-1 : Int32), M1))
  else
  if x4 ≤ (1 : Int32) then (
    bI (pX0_weightOf fu 27 x1 x2 x3 M1) fun r4 M3 =>
    bI (pX0_power fu x2 M3) fun r6 M5 =>
    bI (pX0_commonDivisor fu r4 r6 M5) fun r8 M7 =>
    if r8 = 0 then (
      some ((-4 : Int32), M7))
    else
    if x4 = 0 then (
      if r8 = 0 then none else
      some ((r4 / r8), M7))
    else
    if r8 = 0 then none else
    some ((r6 / r8), M7))
  else
  some ((-1 : Int32), M1)
set_option maxRecDepth 100000 in
theorem wX9_balks {E : jE} {X : jC} (hX : jOk X uX9_balks (gX E)) (fu : Nat)  (x1 : Int32) (x2 : Int32) (x3 : Int32) (x4 : Int32) (M : Mem) : J X uX9_balks (gX E) 0 [(0, .ref (gad (gX E) 0)), (1, .int x1), (2, .int x2), (3, .int x3), (4, .int x4)] [] M (pX9_balks fu  x1 x2 x3 x4 M) := by
  unfold pX9_balks
  refine j_aload_n (pc := 0) hX 0 dX9_balks_0 rfl rfl ?_
  refine j_getR (pc := 1) (t := 5) hX (jb rfl) rfl (ci := 8) (C := RX9) (T := TX9) (N := 10) rfl (jb rfl) inX9 (j := 2) (jb rfl) rfl tw_422 dX9_balks_1 ?_
  refine j_iload_n (pc := 4) hX 1 dX9_balks_4 rfl rfl ?_
  refine j_callV (pc := 5) hX [.int x1] (mX1_hasBeast _ E hX.2.2.2.2.2.2.2.2.1 fu 5 rfl x1 M) qX1_hasBeast tw_525 (jb rfl) rfl (ci := 1) (T := TX1) (N := 13) rfl (jb rfl) rfl ⟨rfl, rfl⟩ ⟨(Nat.le_of_ble_eq_true rfl), (Nat.le_of_ble_eq_true rfl)⟩ (Nat.le_of_ble_eq_true rfl) dX9_balks_5 (fun _ => rfl) rfl (fun r2 M1 => ?_)
  refine j_if_eq (pc := 8) hX 42 dX9_balks_8 (by decide) ?_ ?_
  · refine j_iconst (pc := 42) (v := (-1 : Int32)) hX dX9_balks_42 ci_m1 ?_
    exact j_iret (pc := 43) hX rfl dX9_balks_43
  · refine j_iload_n (pc := 11) hX 2 dX9_balks_11 rfl rfl ?_
    refine j_if_lt (pc := 12) hX 42 dX9_balks_12 (by decide) ?_ ?_
    · refine j_iconst (pc := 42) (v := (-1 : Int32)) hX dX9_balks_42 ci_m1 ?_
      exact j_iret (pc := 43) hX rfl dX9_balks_43
    · refine j_iload_n (pc := 15) hX 2 dX9_balks_15 rfl rfl ?_
      refine j_bipush (pc := 16) (v := (8 : Int32)) hX dX9_balks_16 cb_8 ?_
      refine j_icmp_gt (pc := 18) hX 42 dX9_balks_18 (by decide) ?_ ?_
      · refine j_iconst (pc := 42) (v := (-1 : Int32)) hX dX9_balks_42 ci_m1 ?_
        exact j_iret (pc := 43) hX rfl dX9_balks_43
      · refine j_iload_n (pc := 21) hX 3 dX9_balks_21 rfl rfl ?_
        refine j_if_lt (pc := 22) hX 42 dX9_balks_22 (by decide) ?_ ?_
        · refine j_iconst (pc := 42) (v := (-1 : Int32)) hX dX9_balks_42 ci_m1 ?_
          exact j_iret (pc := 43) hX rfl dX9_balks_43
        · refine j_iload_n (pc := 25) hX 3 dX9_balks_25 rfl rfl ?_
          refine j_bipush (pc := 26) (v := (10 : Int32)) hX dX9_balks_26 cb_10 ?_
          refine j_icmp_gt (pc := 28) hX 42 dX9_balks_28 (by decide) ?_ ?_
          · refine j_iconst (pc := 42) (v := (-1 : Int32)) hX dX9_balks_42 ci_m1 ?_
            exact j_iret (pc := 43) hX rfl dX9_balks_43
          · refine j_iload (pc := 31) hX 4 dX9_balks_31 rfl ?_
            refine j_if_lt (pc := 33) hX 42 dX9_balks_33 (by decide) ?_ ?_
            · refine j_iconst (pc := 42) (v := (-1 : Int32)) hX dX9_balks_42 ci_m1 ?_
              exact j_iret (pc := 43) hX rfl dX9_balks_43
            · refine j_iload (pc := 36) hX 4 dX9_balks_36 rfl ?_
              refine j_iconst (pc := 38) (v := (1 : Int32)) hX dX9_balks_38 ci_1 ?_
              refine j_icmp_le (pc := 39) hX 44 dX9_balks_39 (by decide) ?_ ?_
              · refine j_aload_n (pc := 44) hX 0 dX9_balks_44 rfl rfl ?_
                refine j_getR (pc := 45) (t := 61) hX (jb rfl) rfl (ci := 8) (C := RX9) (T := TX9) (N := 10) rfl (jb rfl) inX9 (j := 9) (jb rfl) rfl tw_429 dX9_balks_45 ?_
                refine j_aload_n (pc := 48) hX 0 dX9_balks_48 rfl rfl ?_
                refine j_getR (pc := 49) (t := 27) hX (jb rfl) rfl (ci := 8) (C := RX9) (T := TX9) (N := 10) rfl (jb rfl) inX9 (j := 4) (jb rfl) rfl tw_424 dX9_balks_49 ?_
                refine j_iload_n (pc := 52) hX 1 dX9_balks_52 rfl rfl ?_
                refine j_iload_n (pc := 53) hX 2 dX9_balks_53 rfl rfl ?_
                refine j_iload_n (pc := 54) hX 3 dX9_balks_54 rfl rfl ?_
                refine j_callV (pc := 55) hX [.ref (gad (gX E) 27), .int x1, .int x2, .int x3] (mX0_weightOf _ E hX.2.2.2.2.2.2.2.2.1 fu 27 rfl x1 x2 x3 M1) qX0_weightOf tw_815 (jb rfl) rfl (ci := 0) (T := TX0) (N := 1) rfl (jb rfl) rfl ⟨rfl, rfl⟩ ⟨(Nat.le_of_ble_eq_true rfl), (Nat.le_of_ble_eq_true rfl)⟩ (Nat.le_of_ble_eq_true rfl) dX9_balks_55 (fun _ => rfl) rfl (fun r4 M3 => ?_)
                refine j_istore (pc := 58) (lv' := [(5, .int r4), (0, .ref (gad (gX E) 0)), (1, .int x1), (2, .int x2), (3, .int x3), (4, .int x4)]) hX dX9_balks_58 (jb rfl) rfl ?_
                refine j_iload_n (pc := 60) hX 3 dX9_balks_60 rfl rfl ?_
                refine j_callS (pc := 61) hX [.int x2] (mX0_power _ E hX.2.2.2.2.2.2.2.2.1 fu   x2 M3) qX0_power tw_830 rfl ⟨rfl, rfl⟩ ⟨(Nat.le_of_ble_eq_true rfl), (Nat.le_of_ble_eq_true rfl)⟩ (Nat.le_of_ble_eq_true rfl) dX9_balks_61 (fun _ => rfl) rfl (fun r6 M5 => ?_)
                refine j_istore (pc := 64) (lv' := [(6, .int r6), (5, .int r4), (0, .ref (gad (gX E) 0)), (1, .int x1), (2, .int x2), (3, .int x3), (4, .int x4)]) hX dX9_balks_64 (jb rfl) rfl ?_
                refine j_iload (pc := 66) hX 1 dX9_balks_66 rfl ?_
                refine j_iload (pc := 68) hX 0 dX9_balks_68 rfl ?_
                refine j_callS (pc := 70) hX [.int r4, .int r6] (mX0_commonDivisor _ E hX.2.2.2.2.2.2.2.2.1 fu   r4 r6 M5) qX0_commonDivisor tw_831 rfl ⟨rfl, rfl⟩ ⟨(Nat.le_of_ble_eq_true rfl), (Nat.le_of_ble_eq_true rfl)⟩ (Nat.le_of_ble_eq_true rfl) dX9_balks_70 (fun _ => rfl) rfl (fun r8 M7 => ?_)
                refine j_istore (pc := 73) (lv' := [(7, .int r8), (6, .int r6), (5, .int r4), (0, .ref (gad (gX E) 0)), (1, .int x1), (2, .int x2), (3, .int x3), (4, .int x4)]) hX dX9_balks_73 (jb rfl) rfl ?_
                refine j_iload (pc := 75) hX 0 dX9_balks_75 rfl ?_
                refine j_if_ne (pc := 77) hX 85 dX9_balks_77 (by decide) ?_ ?_
                · refine j_iload (pc := 85) hX 7 dX9_balks_85 rfl ?_
                  refine j_if_ne (pc := 87) hX 95 dX9_balks_87 (by decide) ?_ ?_
                  · refine j_iload (pc := 95) hX 1 dX9_balks_95 rfl ?_
                    refine j_iload (pc := 97) hX 0 dX9_balks_97 rfl ?_
                    refine j_idiv (pc := 99) hX dX9_balks_99 ?_
                    exact j_iret (pc := 100) hX rfl dX9_balks_100
                  · refine j_iload (pc := 90) hX 2 dX9_balks_90 rfl ?_
                    refine j_goto (pc := 92) hX 97 dX9_balks_92 (by decide) ?_
                    refine j_iload (pc := 97) hX 0 dX9_balks_97 rfl ?_
                    refine j_idiv (pc := 99) hX dX9_balks_99 ?_
                    exact j_iret (pc := 100) hX rfl dX9_balks_100
                · refine j_bipush (pc := 80) (v := (-4 : Int32)) hX dX9_balks_80 cb_m4 ?_
                  refine j_goto (pc := 82) hX 100 dX9_balks_82 (by decide) ?_
                  exact j_iret (pc := 100) hX rfl dX9_balks_100
              · refine j_iconst (pc := 42) (v := (-1 : Int32)) hX dX9_balks_42 ci_m1 ?_
                exact j_iret (pc := 43) hX rfl dX9_balks_43
theorem mX9_balks (l : Launch) (E : jE) (hI : jInj (gX E)) (fu : Nat)  (x1 : Int32) (x2 : Int32) (x3 : Int32) (x4 : Int32) (M : Mem) : jMet l (gX E) yX9_balks cX9_balks 8 (some .int) rX9_balks [.ref (gad (gX E) 0), .int x1, .int x2, .int x3, .int x4] M (pX9_balks fu  x1 x2 x3 x4 M) :=
  j_entry hI (by decide +kernel) (Nat.le_of_ble_eq_true rfl) rfl (fun X _ hX => wX9_balks hX fu   x1 x2 x3 x4 M)
theorem qX9_year : jYv yX9_year cX9_year 4 (some .int) 3 := ⟨tw_835, tw_836, tw_57, tw_837, ⟨by decide +kernel, by decide +kernel, by decide +kernel⟩⟩
abbrev rX9_year : Room := { frames := 6, cells := 0, slots := 0, locals := 141 }
def uX9_year : jM := (cX9_year, 4, RX9, (some .int), rX9_year)
def pX9_year (fu : Nat) (x1 : Int32) (x2 : Int32) (x3 : Int32) (M : Mem) : Res :=
  if x1 < 0 then (
    some ((-1 : Int32), M))
  else
  if (9999 : Int32) < x1 then (
    some ((-1 : Int32), M))
  else
  if x2 < (1 : Int32) then (
    some ((-1 : Int32), M))
  else
  if x2 ≤ (60 : Int32) then (
    if x3 = (0 : Int32) then (
      bR (pX3_afterYear fu 27 x1 x2 M) 54 fun M1 =>
      bI (pX4_amount fu 54 (2 : Int32) M1) fun r3 M2 =>
      some (r3, M2))
    else
    if x3 = (1 : Int32) then (
      bR (pX3_afterYear fu 27 x1 x2 M) 54 fun M5 =>
      bI (pX4_readInSum fu 54 M5) fun r7 M6 =>
      some (r7, M6))
    else
    some ((-1 : Int32), M))
  else
  some ((-1 : Int32), M)
set_option maxRecDepth 100000 in
theorem wX9_year {E : jE} {X : jC} (hX : jOk X uX9_year (gX E)) (fu : Nat)  (x1 : Int32) (x2 : Int32) (x3 : Int32) (M : Mem) : J X uX9_year (gX E) 0 [(0, .ref (gad (gX E) 0)), (1, .int x1), (2, .int x2), (3, .int x3)] [] M (pX9_year fu  x1 x2 x3 M) := by
  unfold pX9_year
  refine j_iload_n (pc := 0) hX 1 dX9_year_0 rfl rfl ?_
  refine j_if_lt (pc := 1) hX 22 dX9_year_1 (by decide) ?_ ?_
  · refine j_iconst (pc := 22) (v := (-1 : Int32)) hX dX9_year_22 ci_m1 ?_
    exact j_iret (pc := 23) hX rfl dX9_year_23
  · refine j_iload_n (pc := 4) hX 1 dX9_year_4 rfl rfl ?_
    refine j_sipush (pc := 5) (v := (9999 : Int32)) hX dX9_year_5 cs_9999 ?_
    refine j_icmp_gt (pc := 8) hX 22 dX9_year_8 (by decide) ?_ ?_
    · refine j_iconst (pc := 22) (v := (-1 : Int32)) hX dX9_year_22 ci_m1 ?_
      exact j_iret (pc := 23) hX rfl dX9_year_23
    · refine j_iload_n (pc := 11) hX 2 dX9_year_11 rfl rfl ?_
      refine j_iconst (pc := 12) (v := (1 : Int32)) hX dX9_year_12 ci_1 ?_
      refine j_icmp_lt (pc := 13) hX 22 dX9_year_13 (by decide) ?_ ?_
      · refine j_iconst (pc := 22) (v := (-1 : Int32)) hX dX9_year_22 ci_m1 ?_
        exact j_iret (pc := 23) hX rfl dX9_year_23
      · refine j_iload_n (pc := 16) hX 2 dX9_year_16 rfl rfl ?_
        refine j_bipush (pc := 17) (v := (60 : Int32)) hX dX9_year_17 cb_60 ?_
        refine j_icmp_le (pc := 19) hX 24 dX9_year_19 (by decide) ?_ ?_
        · refine j_iload_n (pc := 24) hX 3 dX9_year_24 rfl rfl ?_
          refine j_if (fun hq4 => ?_) (fun hq4 => ?_)
          · rw [hq4]
            refine j_lookup (pc := 25) (off := 27) hX 52 dX9_year_25 (by decide) (by decide) (by decide) ?_
            refine j_aload_n (pc := 52) hX 0 dX9_year_52 rfl rfl ?_
            refine j_getR (pc := 53) (t := 53) hX (jb rfl) rfl (ci := 8) (C := RX9) (T := TX9) (N := 10) rfl (jb rfl) inX9 (j := 7) (jb rfl) rfl tw_427 dX9_year_53 ?_
            refine j_aload_n (pc := 56) hX 0 dX9_year_56 rfl rfl ?_
            refine j_getR (pc := 57) (t := 27) hX (jb rfl) rfl (ci := 8) (C := RX9) (T := TX9) (N := 10) rfl (jb rfl) inX9 (j := 4) (jb rfl) rfl tw_424 dX9_year_57 ?_
            refine j_iload_n (pc := 60) hX 1 dX9_year_60 rfl rfl ?_
            refine j_iload_n (pc := 61) hX 2 dX9_year_61 rfl rfl ?_
            refine j_callVr (pc := 62) hX [.ref (gad (gX E) 27), .int x1, .int x2] (mX3_afterYear _ E hX.2.2.2.2.2.2.2.2.1 fu 27 rfl x1 x2 M) qX3_afterYear tw_838 (jb rfl) rfl (ci := 3) (T := TX3) (N := 2) rfl (jb rfl) rfl ⟨rfl, rfl⟩ ⟨(Nat.le_of_ble_eq_true rfl), (Nat.le_of_ble_eq_true rfl)⟩ (Nat.le_of_ble_eq_true rfl) dX9_year_62 (by decide) rfl (fun M1 => ?_)
            refine j_iconst (pc := 65) (v := (2 : Int32)) hX dX9_year_65 ci_2 ?_
            refine j_callV (pc := 66) hX [.int (2 : Int32)] (mX4_amount _ E hX.2.2.2.2.2.2.2.2.1 fu 54 rfl (2 : Int32) M1) qX4_amount tw_857 (jb rfl) rfl (ci := 4) (T := TX4) (N := 2) rfl (jb rfl) rfl ⟨rfl, rfl⟩ ⟨(Nat.le_of_ble_eq_true rfl), (Nat.le_of_ble_eq_true rfl)⟩ (Nat.le_of_ble_eq_true rfl) dX9_year_66 (fun _ => rfl) rfl (fun r3 M2 => ?_)
            exact j_iret (pc := 69) hX rfl dX9_year_69
          refine j_if (fun hq8 => ?_) (fun hq8 => ?_)
          · rw [hq8]
            refine j_lookup (pc := 25) (off := 45) hX 70 dX9_year_25 (by decide) (by decide) (by decide) ?_
            refine j_aload_n (pc := 70) hX 0 dX9_year_70 rfl rfl ?_
            refine j_getR (pc := 71) (t := 53) hX (jb rfl) rfl (ci := 8) (C := RX9) (T := TX9) (N := 10) rfl (jb rfl) inX9 (j := 7) (jb rfl) rfl tw_427 dX9_year_71 ?_
            refine j_aload_n (pc := 74) hX 0 dX9_year_74 rfl rfl ?_
            refine j_getR (pc := 75) (t := 27) hX (jb rfl) rfl (ci := 8) (C := RX9) (T := TX9) (N := 10) rfl (jb rfl) inX9 (j := 4) (jb rfl) rfl tw_424 dX9_year_75 ?_
            refine j_iload_n (pc := 78) hX 1 dX9_year_78 rfl rfl ?_
            refine j_iload_n (pc := 79) hX 2 dX9_year_79 rfl rfl ?_
            refine j_callVr (pc := 80) hX [.ref (gad (gX E) 27), .int x1, .int x2] (mX3_afterYear _ E hX.2.2.2.2.2.2.2.2.1 fu 27 rfl x1 x2 M) qX3_afterYear tw_838 (jb rfl) rfl (ci := 3) (T := TX3) (N := 2) rfl (jb rfl) rfl ⟨rfl, rfl⟩ ⟨(Nat.le_of_ble_eq_true rfl), (Nat.le_of_ble_eq_true rfl)⟩ (Nat.le_of_ble_eq_true rfl) dX9_year_80 (by decide) rfl (fun M5 => ?_)
            refine j_callV (pc := 83) hX [] (mX4_readInSum _ E hX.2.2.2.2.2.2.2.2.1 fu 54 rfl  M5) qX4_readInSum tw_861 (jb rfl) rfl (ci := 4) (T := TX4) (N := 2) rfl (jb rfl) rfl ⟨rfl, rfl⟩ ⟨(Nat.le_of_ble_eq_true rfl), (Nat.le_of_ble_eq_true rfl)⟩ (Nat.le_of_ble_eq_true rfl) dX9_year_83 (fun _ => rfl) rfl (fun r7 M6 => ?_)
            exact j_iret (pc := 86) hX rfl dX9_year_86
          refine j_lookup (pc := 25) (off := 62) hX 87 dX9_year_25 (by decide) (by simp only [Op.lookupswitch.offset]; rw [if_neg (sw_ne (c := 0) hq4), if_neg (sw_ne (c := 1) hq8)]) (by decide) ?_
          refine j_iconst (pc := 87) (v := (-1 : Int32)) hX dX9_year_87 ci_m1 ?_
          exact j_iret (pc := 88) hX rfl dX9_year_88
        · refine j_iconst (pc := 22) (v := (-1 : Int32)) hX dX9_year_22 ci_m1 ?_
          exact j_iret (pc := 23) hX rfl dX9_year_23
theorem mX9_year (l : Launch) (E : jE) (hI : jInj (gX E)) (fu : Nat)  (x1 : Int32) (x2 : Int32) (x3 : Int32) (M : Mem) : jMet l (gX E) yX9_year cX9_year 4 (some .int) rX9_year [.ref (gad (gX E) 0), .int x1, .int x2, .int x3] M (pX9_year fu  x1 x2 x3 M) :=
  j_entry hI (by decide +kernel) (Nat.le_of_ble_eq_true rfl) rfl (fun X _ hX => wX9_year hX fu   x1 x2 x3 M)
theorem qX9_keep : jYv yX9_keep cX9_keep 1 (some .int) 0 := ⟨tw_867, tw_868, tw_57, tw_869, ⟨by decide +kernel, by decide +kernel, by decide +kernel⟩⟩
abbrev rX9_keep : Room := { frames := 3, cells := 0, slots := 0, locals := 122 }
def uX9_keep : jM := (cX9_keep, 1, RX9, (some .int), rX9_keep)
def pX9_keep (fu : Nat)  (M : Mem) : Res :=
  bI (pX8_size fu 47 M) fun r2 M1 =>
  if r2 = (2 : Int32) then (
    some ((-3 : Int32), M1))
  else
  bV (pX8_push fu 47 27 M1) fun M3 =>
  bI (pX8_size fu 47 M3) fun r5 M4 =>
  some (r5, M4)
set_option maxRecDepth 100000 in
theorem wX9_keep {E : jE} {X : jC} (hX : jOk X uX9_keep (gX E)) (fu : Nat)   (M : Mem) : J X uX9_keep (gX E) 0 [(0, .ref (gad (gX E) 0))] [] M (pX9_keep fu   M) := by
  unfold pX9_keep
  refine j_aload_n (pc := 0) hX 0 dX9_keep_0 rfl rfl ?_
  refine j_getR (pc := 1) (t := 47) hX (jb rfl) rfl (ci := 8) (C := RX9) (T := TX9) (N := 10) rfl (jb rfl) inX9 (j := 6) (jb rfl) rfl tw_426 dX9_keep_1 ?_
  refine j_callV (pc := 4) hX [] (mX8_size _ E hX.2.2.2.2.2.2.2.2.1 fu 47 rfl  M) qX8_size tw_660 (jb rfl) rfl (ci := 7) (T := TX8) (N := 3) rfl (jb rfl) rfl ⟨rfl, rfl⟩ ⟨(Nat.le_of_ble_eq_true rfl), (Nat.le_of_ble_eq_true rfl)⟩ (Nat.le_of_ble_eq_true rfl) dX9_keep_4 (fun _ => rfl) rfl (fun r2 M1 => ?_)
  refine j_iconst (pc := 7) (v := (2 : Int32)) hX dX9_keep_7 ci_2 ?_
  refine j_icmp_ne (pc := 8) hX 14 dX9_keep_8 (by decide) ?_ ?_
  · refine j_aload_n (pc := 14) hX 0 dX9_keep_14 rfl rfl ?_
    refine j_getR (pc := 15) (t := 47) hX (jb rfl) rfl (ci := 8) (C := RX9) (T := TX9) (N := 10) rfl (jb rfl) inX9 (j := 6) (jb rfl) rfl tw_426 dX9_keep_15 ?_
    refine j_aload_n (pc := 18) hX 0 dX9_keep_18 rfl rfl ?_
    refine j_getR (pc := 19) (t := 27) hX (jb rfl) rfl (ci := 8) (C := RX9) (T := TX9) (N := 10) rfl (jb rfl) inX9 (j := 4) (jb rfl) rfl tw_424 dX9_keep_19 ?_
    refine j_callVv (pc := 22) hX [.ref (gad (gX E) 27)] (mX8_push _ E hX.2.2.2.2.2.2.2.2.1 fu 47 27 rfl rfl  M1) qX8_push tw_575 (jb rfl) rfl (ci := 7) (T := TX8) (N := 3) rfl (jb rfl) rfl ⟨rfl, rfl⟩ ⟨(Nat.le_of_ble_eq_true rfl), (Nat.le_of_ble_eq_true rfl)⟩ (Nat.le_of_ble_eq_true rfl) dX9_keep_22 rfl (fun M3 => ?_)
    refine j_aload_n (pc := 25) hX 0 dX9_keep_25 rfl rfl ?_
    refine j_getR (pc := 26) (t := 47) hX (jb rfl) rfl (ci := 8) (C := RX9) (T := TX9) (N := 10) rfl (jb rfl) inX9 (j := 6) (jb rfl) rfl tw_426 dX9_keep_26 ?_
    refine j_callV (pc := 29) hX [] (mX8_size _ E hX.2.2.2.2.2.2.2.2.1 fu 47 rfl  M3) qX8_size tw_660 (jb rfl) rfl (ci := 7) (T := TX8) (N := 3) rfl (jb rfl) rfl ⟨rfl, rfl⟩ ⟨(Nat.le_of_ble_eq_true rfl), (Nat.le_of_ble_eq_true rfl)⟩ (Nat.le_of_ble_eq_true rfl) dX9_keep_29 (fun _ => rfl) rfl (fun r5 M4 => ?_)
    exact j_iret (pc := 32) hX rfl dX9_keep_32
  · refine j_bipush (pc := 11) (v := (-3 : Int32)) hX dX9_keep_11 cb_m3 ?_
    exact j_iret (pc := 13) hX rfl dX9_keep_13
theorem mX9_keep (l : Launch) (E : jE) (hI : jInj (gX E)) (fu : Nat)   (M : Mem) : jMet l (gX E) yX9_keep cX9_keep 1 (some .int) rX9_keep [.ref (gad (gX E) 0)] M (pX9_keep fu   M) :=
  j_entry hI (by decide +kernel) (Nat.le_of_ble_eq_true rfl) rfl (fun X _ hX => wX9_keep hX fu    M)
theorem qX9_back : jYv yX9_back cX9_back 1 (some .int) 0 := ⟨tw_871, tw_872, tw_57, tw_873, ⟨by decide +kernel, by decide +kernel, by decide +kernel⟩⟩
abbrev rX9_back : Room := { frames := 3, cells := 0, slots := 0, locals := 122 }
def uX9_back : jM := (cX9_back, 1, RX9, (some .int), rX9_back)
def pX9_back (fu : Nat)  (M : Mem) : Res :=
  bI (pX8_pop fu 47 27 M) fun r2 M1 =>
  if r2 = 0 then (
    some ((-2 : Int32), M1))
  else
  bV (pX8_clear fu 29 M1) fun M3 =>
  bI (pX8_size fu 47 M3) fun r5 M4 =>
  some (r5, M4)
set_option maxRecDepth 100000 in
theorem wX9_back {E : jE} {X : jC} (hX : jOk X uX9_back (gX E)) (fu : Nat)   (M : Mem) : J X uX9_back (gX E) 0 [(0, .ref (gad (gX E) 0))] [] M (pX9_back fu   M) := by
  unfold pX9_back
  refine j_aload_n (pc := 0) hX 0 dX9_back_0 rfl rfl ?_
  refine j_getR (pc := 1) (t := 47) hX (jb rfl) rfl (ci := 8) (C := RX9) (T := TX9) (N := 10) rfl (jb rfl) inX9 (j := 6) (jb rfl) rfl tw_426 dX9_back_1 ?_
  refine j_aload_n (pc := 4) hX 0 dX9_back_4 rfl rfl ?_
  refine j_getR (pc := 5) (t := 27) hX (jb rfl) rfl (ci := 8) (C := RX9) (T := TX9) (N := 10) rfl (jb rfl) inX9 (j := 4) (jb rfl) rfl tw_424 dX9_back_5 ?_
  refine j_callV (pc := 8) hX [.ref (gad (gX E) 27)] (mX8_pop _ E hX.2.2.2.2.2.2.2.2.1 fu 47 27 rfl rfl  M) qX8_pop tw_656 (jb rfl) rfl (ci := 7) (T := TX8) (N := 3) rfl (jb rfl) rfl ⟨rfl, rfl⟩ ⟨(Nat.le_of_ble_eq_true rfl), (Nat.le_of_ble_eq_true rfl)⟩ (Nat.le_of_ble_eq_true rfl) dX9_back_8 (fun _ => rfl) rfl (fun r2 M1 => ?_)
  refine j_if_ne (pc := 11) hX 17 dX9_back_11 (by decide) ?_ ?_
  · refine j_aload_n (pc := 17) hX 0 dX9_back_17 rfl rfl ?_
    refine j_getR (pc := 18) (t := 29) hX (jb rfl) rfl (ci := 8) (C := RX9) (T := TX9) (N := 10) rfl (jb rfl) inX9 (j := 5) (jb rfl) rfl tw_425 dX9_back_18 ?_
    refine j_callVv (pc := 21) hX [] (mX8_clear _ E hX.2.2.2.2.2.2.2.2.1 fu 29 rfl  M1) qX8_clear tw_412 (jb rfl) rfl (ci := 7) (T := TX8) (N := 3) rfl (jb rfl) rfl ⟨rfl, rfl⟩ ⟨(Nat.le_of_ble_eq_true rfl), (Nat.le_of_ble_eq_true rfl)⟩ (Nat.le_of_ble_eq_true rfl) dX9_back_21 rfl (fun M3 => ?_)
    refine j_aload_n (pc := 24) hX 0 dX9_back_24 rfl rfl ?_
    refine j_getR (pc := 25) (t := 47) hX (jb rfl) rfl (ci := 8) (C := RX9) (T := TX9) (N := 10) rfl (jb rfl) inX9 (j := 6) (jb rfl) rfl tw_426 dX9_back_25 ?_
    refine j_callV (pc := 28) hX [] (mX8_size _ E hX.2.2.2.2.2.2.2.2.1 fu 47 rfl  M3) qX8_size tw_660 (jb rfl) rfl (ci := 7) (T := TX8) (N := 3) rfl (jb rfl) rfl ⟨rfl, rfl⟩ ⟨(Nat.le_of_ble_eq_true rfl), (Nat.le_of_ble_eq_true rfl)⟩ (Nat.le_of_ble_eq_true rfl) dX9_back_28 (fun _ => rfl) rfl (fun r5 M4 => ?_)
    exact j_iret (pc := 31) hX rfl dX9_back_31
  · refine j_bipush (pc := 14) (v := (-2 : Int32)) hX dX9_back_14 cb_m2 ?_
    exact j_iret (pc := 16) hX rfl dX9_back_16
theorem mX9_back (l : Launch) (E : jE) (hI : jInj (gX E)) (fu : Nat)   (M : Mem) : jMet l (gX E) yX9_back cX9_back 1 (some .int) rX9_back [.ref (gad (gX E) 0)] M (pX9_back fu   M) :=
  j_entry hI (by decide +kernel) (Nat.le_of_ble_eq_true rfl) rfl (fun X _ hX => wX9_back hX fu    M)
