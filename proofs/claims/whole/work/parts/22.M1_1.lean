theorem dX10_number_0 : decode cX10_number 0 = .ok (.iconst 0, 1) := by decide +kernel
theorem dX10_number_1 : decode cX10_number 1 = .ok (.istore_n 3, 1) := by decide +kernel
theorem dX10_number_2 : decode cX10_number 2 = .ok (.iconst 0, 1) := by decide +kernel
theorem dX10_number_3 : decode cX10_number 3 = .ok (.istore 4, 2) := by decide +kernel
theorem dX10_number_5 : decode cX10_number 5 = .ok (.aload_n 0, 1) := by decide +kernel
theorem dX10_number_6 : decode cX10_number 6 = .ok (.invokevirtual 122, 3) := by decide +kernel
theorem dX10_number_9 : decode cX10_number 9 = .ok (.i2l, 1) := by decide +kernel
theorem dX10_number_10 : decode cX10_number 10 = .ok (.ldc2_w 126, 3) := by decide +kernel
theorem dX10_number_13 : decode cX10_number 13 = .ok (.ldc2_w 128, 3) := by decide +kernel
theorem dX10_number_16 : decode cX10_number 16 = .ok (.invokestatic 108, 3) := by decide +kernel
theorem dX10_number_19 : decode cX10_number 19 = .ok (.ifCond .eq 38, 3) := by decide +kernel
theorem dX10_number_22 : decode cX10_number 22 = .ok (.iload 4, 2) := by decide +kernel
theorem dX10_number_24 : decode cX10_number 24 = .ok (.iconst 3, 1) := by decide +kernel
theorem dX10_number_25 : decode cX10_number 25 = .ok (.if_icmp .ge 32, 3) := by decide +kernel
theorem dX10_number_28 : decode cX10_number 28 = .ok (.bipush 10, 2) := by decide +kernel
theorem dX10_number_30 : decode cX10_number 30 = .ok (.iload_n 3, 1) := by decide +kernel
theorem dX10_number_31 : decode cX10_number 31 = .ok (.imul, 1) := by decide +kernel
theorem dX10_number_32 : decode cX10_number 32 = .ok (.aload_n 0, 1) := by decide +kernel
theorem dX10_number_33 : decode cX10_number 33 = .ok (.invokevirtual 122, 3) := by decide +kernel
theorem dX10_number_36 : decode cX10_number 36 = .ok (.iadd, 1) := by decide +kernel
theorem dX10_number_37 : decode cX10_number 37 = .ok (.bipush 48, 2) := by decide +kernel
theorem dX10_number_39 : decode cX10_number 39 = .ok (.isub, 1) := by decide +kernel
theorem dX10_number_40 : decode cX10_number 40 = .ok (.istore_n 3, 1) := by decide +kernel
theorem dX10_number_41 : decode cX10_number 41 = .ok (.iinc 4 1, 3) := by decide +kernel
theorem dX10_number_44 : decode cX10_number 44 = .ok (.aload_n 0, 1) := by decide +kernel
theorem dX10_number_45 : decode cX10_number 45 = .ok (.dup, 1) := by decide +kernel
theorem dX10_number_46 : decode cX10_number 46 = .ok (.getfield 119, 3) := by decide +kernel
theorem dX10_number_49 : decode cX10_number 49 = .ok (.iconst 1, 1) := by decide +kernel
theorem dX10_number_50 : decode cX10_number 50 = .ok (.iadd, 1) := by decide +kernel
theorem dX10_number_51 : decode cX10_number 51 = .ok (.putfield 119, 3) := by decide +kernel
theorem dX10_number_54 : decode cX10_number 54 = .ok (.goto (-49), 3) := by decide +kernel
theorem dX10_number_57 : decode cX10_number 57 = .ok (.aload_n 0, 1) := by decide +kernel
theorem dX10_number_58 : decode cX10_number 58 = .ok (.aload_n 0, 1) := by decide +kernel
theorem dX10_number_59 : decode cX10_number 59 = .ok (.getfield 130, 3) := by decide +kernel
theorem dX10_number_62 : decode cX10_number 62 = .ok (.ifCond .ne 26, 3) := by decide +kernel
theorem dX10_number_65 : decode cX10_number 65 = .ok (.iload 4, 2) := by decide +kernel
theorem dX10_number_67 : decode cX10_number 67 = .ok (.ifCond .eq 21, 3) := by decide +kernel
theorem dX10_number_70 : decode cX10_number 70 = .ok (.iload 4, 2) := by decide +kernel
theorem dX10_number_72 : decode cX10_number 72 = .ok (.iconst 2, 1) := by decide +kernel
theorem dX10_number_73 : decode cX10_number 73 = .ok (.if_icmp .gt 15, 3) := by decide +kernel
theorem dX10_number_76 : decode cX10_number 76 = .ok (.iload_n 3, 1) := by decide +kernel
theorem dX10_number_77 : decode cX10_number 77 = .ok (.i2l, 1) := by decide +kernel
theorem dX10_number_78 : decode cX10_number 78 = .ok (.iload_n 1, 1) := by decide +kernel
theorem dX10_number_79 : decode cX10_number 79 = .ok (.i2l, 1) := by decide +kernel
theorem dX10_number_80 : decode cX10_number 80 = .ok (.iload_n 2, 1) := by decide +kernel
theorem dX10_number_81 : decode cX10_number 81 = .ok (.i2l, 1) := by decide +kernel
theorem dX10_number_82 : decode cX10_number 82 = .ok (.invokestatic 108, 3) := by decide +kernel
theorem dX10_number_85 : decode cX10_number 85 = .ok (.ifCond .ne 7, 3) := by decide +kernel
theorem dX10_number_88 : decode cX10_number 88 = .ok (.iconst 1, 1) := by decide +kernel
theorem dX10_number_89 : decode cX10_number 89 = .ok (.goto 4, 3) := by decide +kernel
theorem dX10_number_92 : decode cX10_number 92 = .ok (.iconst 0, 1) := by decide +kernel
theorem dX10_number_93 : decode cX10_number 93 = .ok (.putfield 130, 3) := by decide +kernel
theorem dX10_number_96 : decode cX10_number 96 = .ok (.aload_n 0, 1) := by decide +kernel
theorem dX10_number_97 : decode cX10_number 97 = .ok (.getfield 130, 3) := by decide +kernel
theorem dX10_number_100 : decode cX10_number 100 = .ok (.ifCond .eq 7, 3) := by decide +kernel
theorem dX10_number_103 : decode cX10_number 103 = .ok (.iconst 0, 1) := by decide +kernel
theorem dX10_number_104 : decode cX10_number 104 = .ok (.goto 4, 3) := by decide +kernel
theorem dX10_number_107 : decode cX10_number 107 = .ok (.iload_n 3, 1) := by decide +kernel
theorem dX10_number_108 : decode cX10_number 108 = .ok (.ireturn, 1) := by decide +kernel
theorem dX10_more_0 : decode cX10_more 0 = .ok (.aload_n 0, 1) := by decide +kernel
theorem dX10_more_1 : decode cX10_more 1 = .ok (.aload_n 0, 1) := by decide +kernel
theorem dX10_more_2 : decode cX10_more 2 = .ok (.getfield 130, 3) := by decide +kernel
theorem dX10_more_5 : decode cX10_more 5 = .ok (.ifCond .ne 12, 3) := by decide +kernel
theorem dX10_more_8 : decode cX10_more 8 = .ok (.aload_n 0, 1) := by decide +kernel
theorem dX10_more_9 : decode cX10_more 9 = .ok (.invokevirtual 122, 3) := by decide +kernel
theorem dX10_more_12 : decode cX10_more 12 = .ok (.bipush 44, 2) := by decide +kernel
theorem dX10_more_14 : decode cX10_more 14 = .ok (.if_icmp .eq 7, 3) := by decide +kernel
theorem dX10_more_17 : decode cX10_more 17 = .ok (.iconst 1, 1) := by decide +kernel
theorem dX10_more_18 : decode cX10_more 18 = .ok (.goto 4, 3) := by decide +kernel
theorem dX10_more_21 : decode cX10_more 21 = .ok (.iconst 0, 1) := by decide +kernel
theorem dX10_more_22 : decode cX10_more 22 = .ok (.putfield 130, 3) := by decide +kernel
theorem dX10_more_25 : decode cX10_more 25 = .ok (.aload_n 0, 1) := by decide +kernel
theorem dX10_more_26 : decode cX10_more 26 = .ok (.dup, 1) := by decide +kernel
theorem dX10_more_27 : decode cX10_more 27 = .ok (.getfield 119, 3) := by decide +kernel
theorem dX10_more_30 : decode cX10_more 30 = .ok (.iconst 1, 1) := by decide +kernel
theorem dX10_more_31 : decode cX10_more 31 = .ok (.iadd, 1) := by decide +kernel
theorem dX10_more_32 : decode cX10_more 32 = .ok (.putfield 119, 3) := by decide +kernel
theorem dX10_more_35 : decode cX10_more 35 = .ok (.aload_n 0, 1) := by decide +kernel
theorem dX10_more_36 : decode cX10_more 36 = .ok (.getfield 130, 3) := by decide +kernel
theorem dX10_more_39 : decode cX10_more 39 = .ok (.ifCond .eq 7, 3) := by decide +kernel
theorem dX10_more_42 : decode cX10_more 42 = .ok (.iconst 0, 1) := by decide +kernel
theorem dX10_more_43 : decode cX10_more 43 = .ok (.goto 9, 3) := by decide +kernel
theorem dX10_more_46 : decode cX10_more 46 = .ok (.aload_n 0, 1) := by decide +kernel
theorem dX10_more_47 : decode cX10_more 47 = .ok (.iload_n 1, 1) := by decide +kernel
theorem dX10_more_48 : decode cX10_more 48 = .ok (.iload_n 2, 1) := by decide +kernel
theorem dX10_more_49 : decode cX10_more 49 = .ok (.invokevirtual 134, 3) := by decide +kernel
theorem dX10_more_52 : decode cX10_more 52 = .ok (.ireturn, 1) := by decide +kernel
theorem dX10_wayItem_0 : decode cX10_wayItem 0 = .ok (.aload_n 0, 1) := by decide +kernel
theorem dX10_wayItem_1 : decode cX10_wayItem 1 = .ok (.iconst 0, 1) := by decide +kernel
theorem dX10_wayItem_2 : decode cX10_wayItem 2 = .ok (.aload_n 0, 1) := by decide +kernel
theorem dX10_wayItem_3 : decode cX10_wayItem 3 = .ok (.getfield 62, 3) := by decide +kernel
theorem dX10_wayItem_6 : decode cX10_wayItem 6 = .ok (.iconst 1, 1) := by decide +kernel
theorem dX10_wayItem_7 : decode cX10_wayItem 7 = .ok (.isub, 1) := by decide +kernel
theorem dX10_wayItem_8 : decode cX10_wayItem 8 = .ok (.invokevirtual 134, 3) := by decide +kernel
theorem dX10_wayItem_11 : decode cX10_wayItem 11 = .ok (.istore_n 1, 1) := by decide +kernel
theorem dX10_wayItem_12 : decode cX10_wayItem 12 = .ok (.aload_n 0, 1) := by decide +kernel
theorem dX10_wayItem_13 : decode cX10_wayItem 13 = .ok (.iconst 0, 1) := by decide +kernel
theorem dX10_wayItem_14 : decode cX10_wayItem 14 = .ok (.aload_n 0, 1) := by decide +kernel
theorem dX10_wayItem_15 : decode cX10_wayItem 15 = .ok (.getfield 62, 3) := by decide +kernel
theorem dX10_wayItem_18 : decode cX10_wayItem 18 = .ok (.iconst 1, 1) := by decide +kernel
theorem dX10_wayItem_19 : decode cX10_wayItem 19 = .ok (.isub, 1) := by decide +kernel
theorem dX10_wayItem_20 : decode cX10_wayItem 20 = .ok (.invokevirtual 137, 3) := by decide +kernel
theorem dX10_wayItem_23 : decode cX10_wayItem 23 = .ok (.istore_n 2, 1) := by decide +kernel
theorem dX10_wayItem_24 : decode cX10_wayItem 24 = .ok (.aload_n 0, 1) := by decide +kernel
theorem dX10_wayItem_25 : decode cX10_wayItem 25 = .ok (.iconst 1, 1) := by decide +kernel
theorem dX10_wayItem_26 : decode cX10_wayItem 26 = .ok (.bipush 9, 2) := by decide +kernel
theorem dX10_wayItem_28 : decode cX10_wayItem 28 = .ok (.invokevirtual 137, 3) := by decide +kernel
theorem dX10_wayItem_31 : decode cX10_wayItem 31 = .ok (.istore_n 3, 1) := by decide +kernel
theorem dX10_wayItem_32 : decode cX10_wayItem 32 = .ok (.aload_n 0, 1) := by decide +kernel
theorem dX10_wayItem_33 : decode cX10_wayItem 33 = .ok (.aload_n 0, 1) := by decide +kernel
theorem dX10_wayItem_34 : decode cX10_wayItem 34 = .ok (.getfield 130, 3) := by decide +kernel
theorem dX10_wayItem_37 : decode cX10_wayItem 37 = .ok (.ifCond .ne 8, 3) := by decide +kernel
theorem dX10_wayItem_40 : decode cX10_wayItem 40 = .ok (.iload_n 1, 1) := by decide +kernel
theorem dX10_wayItem_41 : decode cX10_wayItem 41 = .ok (.iload_n 2, 1) := by decide +kernel
theorem dX10_wayItem_42 : decode cX10_wayItem 42 = .ok (.if_icmp .ne 7, 3) := by decide +kernel
theorem dX10_wayItem_45 : decode cX10_wayItem 45 = .ok (.iconst 1, 1) := by decide +kernel
theorem dX10_wayItem_46 : decode cX10_wayItem 46 = .ok (.goto 4, 3) := by decide +kernel
theorem dX10_wayItem_49 : decode cX10_wayItem 49 = .ok (.iconst 0, 1) := by decide +kernel
theorem dX10_wayItem_50 : decode cX10_wayItem 50 = .ok (.putfield 130, 3) := by decide +kernel
theorem dX10_wayItem_53 : decode cX10_wayItem 53 = .ok (.aload_n 0, 1) := by decide +kernel
theorem dX10_wayItem_54 : decode cX10_wayItem 54 = .ok (.getfield 130, 3) := by decide +kernel
theorem dX10_wayItem_57 : decode cX10_wayItem 57 = .ok (.ifCond .ne 10, 3) := by decide +kernel
theorem dX10_wayItem_60 : decode cX10_wayItem 60 = .ok (.aload_n 0, 1) := by decide +kernel
theorem dX10_wayItem_61 : decode cX10_wayItem 61 = .ok (.iload_n 1, 1) := by decide +kernel
theorem dX10_wayItem_62 : decode cX10_wayItem 62 = .ok (.iload_n 2, 1) := by decide +kernel
theorem dX10_wayItem_63 : decode cX10_wayItem 63 = .ok (.iload_n 3, 1) := by decide +kernel
theorem dX10_wayItem_64 : decode cX10_wayItem 64 = .ok (.invokevirtual 66, 3) := by decide +kernel
theorem dX10_wayItem_67 : decode cX10_wayItem 67 = .ok (.return_, 1) := by decide +kernel
theorem dX10_doorItem_0 : decode cX10_doorItem 0 = .ok (.aload_n 0, 1) := by decide +kernel
theorem dX10_doorItem_1 : decode cX10_doorItem 1 = .ok (.aload_n 0, 1) := by decide +kernel
theorem dX10_doorItem_2 : decode cX10_doorItem 2 = .ok (.getfield 83, 3) := by decide +kernel
theorem dX10_doorItem_5 : decode cX10_doorItem 5 = .ok (.iconst 4, 1) := by decide +kernel
theorem dX10_doorItem_6 : decode cX10_doorItem 6 = .ok (.if_icmp .ne 7, 3) := by decide +kernel
theorem dX10_doorItem_9 : decode cX10_doorItem 9 = .ok (.iconst 1, 1) := by decide +kernel
theorem dX10_doorItem_10 : decode cX10_doorItem 10 = .ok (.goto 4, 3) := by decide +kernel
theorem dX10_doorItem_13 : decode cX10_doorItem 13 = .ok (.iconst 0, 1) := by decide +kernel
theorem dX10_doorItem_14 : decode cX10_doorItem 14 = .ok (.putfield 130, 3) := by decide +kernel
theorem dX10_doorItem_17 : decode cX10_doorItem 17 = .ok (.aload_n 0, 1) := by decide +kernel
theorem dX10_doorItem_18 : decode cX10_doorItem 18 = .ok (.getfield 130, 3) := by decide +kernel
theorem dX10_doorItem_21 : decode cX10_doorItem 21 = .ok (.ifCond .eq 7, 3) := by decide +kernel
theorem dX10_doorItem_24 : decode cX10_doorItem 24 = .ok (.iconst 0, 1) := by decide +kernel
theorem dX10_doorItem_25 : decode cX10_doorItem 25 = .ok (.goto 9, 3) := by decide +kernel
theorem dX10_doorItem_28 : decode cX10_doorItem 28 = .ok (.aload_n 0, 1) := by decide +kernel
theorem dX10_doorItem_29 : decode cX10_doorItem 29 = .ok (.iconst 0, 1) := by decide +kernel
theorem dX10_doorItem_30 : decode cX10_doorItem 30 = .ok (.iconst 3, 1) := by decide +kernel
theorem dX10_doorItem_31 : decode cX10_doorItem 31 = .ok (.invokevirtual 134, 3) := by decide +kernel
theorem dX10_doorItem_34 : decode cX10_doorItem 34 = .ok (.istore_n 1, 1) := by decide +kernel
theorem dX10_doorItem_35 : decode cX10_doorItem 35 = .ok (.aload_n 0, 1) := by decide +kernel
theorem dX10_doorItem_36 : decode cX10_doorItem 36 = .ok (.iconst 0, 1) := by decide +kernel
theorem dX10_doorItem_37 : decode cX10_doorItem 37 = .ok (.aload_n 0, 1) := by decide +kernel
theorem dX10_doorItem_38 : decode cX10_doorItem 38 = .ok (.getfield 62, 3) := by decide +kernel
theorem dX10_doorItem_41 : decode cX10_doorItem 41 = .ok (.iconst 1, 1) := by decide +kernel
theorem dX10_doorItem_42 : decode cX10_doorItem 42 = .ok (.isub, 1) := by decide +kernel
theorem dX10_doorItem_43 : decode cX10_doorItem 43 = .ok (.invokevirtual 137, 3) := by decide +kernel
theorem dX10_doorItem_46 : decode cX10_doorItem 46 = .ok (.istore_n 2, 1) := by decide +kernel
theorem dX10_doorItem_47 : decode cX10_doorItem 47 = .ok (.aload_n 0, 1) := by decide +kernel
theorem dX10_doorItem_48 : decode cX10_doorItem 48 = .ok (.getfield 130, 3) := by decide +kernel
theorem dX10_doorItem_51 : decode cX10_doorItem 51 = .ok (.ifCond .ne 9, 3) := by decide +kernel
theorem dX10_doorItem_54 : decode cX10_doorItem 54 = .ok (.aload_n 0, 1) := by decide +kernel
theorem dX10_doorItem_55 : decode cX10_doorItem 55 = .ok (.iload_n 1, 1) := by decide +kernel
theorem dX10_doorItem_56 : decode cX10_doorItem 56 = .ok (.iload_n 2, 1) := by decide +kernel
theorem dX10_doorItem_57 : decode cX10_doorItem 57 = .ok (.invokevirtual 70, 3) := by decide +kernel
theorem dX10_doorItem_60 : decode cX10_doorItem 60 = .ok (.return_, 1) := by decide +kernel
theorem dX10_beastItem_0 : decode cX10_beastItem 0 = .ok (.aload_n 0, 1) := by decide +kernel
theorem dX10_beastItem_1 : decode cX10_beastItem 1 = .ok (.aload_n 0, 1) := by decide +kernel
theorem dX10_beastItem_2 : decode cX10_beastItem 2 = .ok (.getfield 86, 3) := by decide +kernel
theorem dX10_beastItem_5 : decode cX10_beastItem 5 = .ok (.iconst 5, 1) := by decide +kernel
theorem dX10_beastItem_6 : decode cX10_beastItem 6 = .ok (.if_icmp .ne 7, 3) := by decide +kernel
theorem dX10_beastItem_9 : decode cX10_beastItem 9 = .ok (.iconst 1, 1) := by decide +kernel
theorem dX10_beastItem_10 : decode cX10_beastItem 10 = .ok (.goto 4, 3) := by decide +kernel
theorem dX10_beastItem_13 : decode cX10_beastItem 13 = .ok (.iconst 0, 1) := by decide +kernel
theorem dX10_beastItem_14 : decode cX10_beastItem 14 = .ok (.putfield 130, 3) := by decide +kernel
theorem dX10_beastItem_17 : decode cX10_beastItem 17 = .ok (.aload_n 0, 1) := by decide +kernel
theorem dX10_beastItem_18 : decode cX10_beastItem 18 = .ok (.getfield 130, 3) := by decide +kernel
theorem dX10_beastItem_21 : decode cX10_beastItem 21 = .ok (.ifCond .eq 7, 3) := by decide +kernel
theorem dX10_beastItem_24 : decode cX10_beastItem 24 = .ok (.iconst 0, 1) := by decide +kernel
theorem dX10_beastItem_25 : decode cX10_beastItem 25 = .ok (.goto 9, 3) := by decide +kernel
theorem dX10_beastItem_28 : decode cX10_beastItem 28 = .ok (.aload_n 0, 1) := by decide +kernel
theorem dX10_beastItem_29 : decode cX10_beastItem 29 = .ok (.iconst 0, 1) := by decide +kernel
theorem dX10_beastItem_30 : decode cX10_beastItem 30 = .ok (.iconst 3, 1) := by decide +kernel
theorem dX10_beastItem_31 : decode cX10_beastItem 31 = .ok (.invokevirtual 134, 3) := by decide +kernel
theorem dX10_beastItem_34 : decode cX10_beastItem 34 = .ok (.istore_n 1, 1) := by decide +kernel
theorem dX10_beastItem_35 : decode cX10_beastItem 35 = .ok (.aload_n 0, 1) := by decide +kernel
theorem dX10_beastItem_36 : decode cX10_beastItem 36 = .ok (.iconst 1, 1) := by decide +kernel
theorem dX10_beastItem_37 : decode cX10_beastItem 37 = .ok (.iconst 3, 1) := by decide +kernel
theorem dX10_beastItem_38 : decode cX10_beastItem 38 = .ok (.invokevirtual 137, 3) := by decide +kernel
theorem dX10_beastItem_41 : decode cX10_beastItem 41 = .ok (.istore_n 2, 1) := by decide +kernel
theorem dX10_beastItem_42 : decode cX10_beastItem 42 = .ok (.aload_n 0, 1) := by decide +kernel
theorem dX10_beastItem_43 : decode cX10_beastItem 43 = .ok (.iconst 0, 1) := by decide +kernel
theorem dX10_beastItem_44 : decode cX10_beastItem 44 = .ok (.bipush 9, 2) := by decide +kernel
theorem dX10_beastItem_46 : decode cX10_beastItem 46 = .ok (.invokevirtual 137, 3) := by decide +kernel
theorem dX10_beastItem_49 : decode cX10_beastItem 49 = .ok (.istore_n 3, 1) := by decide +kernel
theorem dX10_beastItem_50 : decode cX10_beastItem 50 = .ok (.aload_n 0, 1) := by decide +kernel
theorem dX10_beastItem_51 : decode cX10_beastItem 51 = .ok (.getfield 130, 3) := by decide +kernel
theorem dX10_beastItem_54 : decode cX10_beastItem 54 = .ok (.ifCond .ne 10, 3) := by decide +kernel
theorem dX10_beastItem_57 : decode cX10_beastItem 57 = .ok (.aload_n 0, 1) := by decide +kernel
theorem dX10_beastItem_58 : decode cX10_beastItem 58 = .ok (.iload_n 1, 1) := by decide +kernel
theorem dX10_beastItem_59 : decode cX10_beastItem 59 = .ok (.iload_n 2, 1) := by decide +kernel
theorem dX10_beastItem_60 : decode cX10_beastItem 60 = .ok (.iload_n 3, 1) := by decide +kernel
theorem dX10_beastItem_61 : decode cX10_beastItem 61 = .ok (.invokevirtual 74, 3) := by decide +kernel
theorem dX10_beastItem_64 : decode cX10_beastItem 64 = .ok (.return_, 1) := by decide +kernel
theorem dX10_item_0 : decode cX10_item 0 = .ok (.iload_n 1, 1) := by decide +kernel
theorem dX10_item_1 : decode cX10_item 1 = .ok (.bipush 110, 2) := by decide +kernel
theorem dX10_item_3 : decode cX10_item 3 = .ok (.if_icmp .ne 56, 3) := by decide +kernel
theorem dX10_item_6 : decode cX10_item 6 = .ok (.aload_n 0, 1) := by decide +kernel
theorem dX10_item_7 : decode cX10_item 7 = .ok (.iload_n 2, 1) := by decide +kernel
theorem dX10_item_8 : decode cX10_item 8 = .ok (.ifCond .ne 7, 3) := by decide +kernel
theorem dX10_item_11 : decode cX10_item 11 = .ok (.iconst 1, 1) := by decide +kernel
theorem dX10_item_12 : decode cX10_item 12 = .ok (.goto 4, 3) := by decide +kernel
theorem dX10_item_15 : decode cX10_item 15 = .ok (.iconst 0, 1) := by decide +kernel
theorem dX10_item_16 : decode cX10_item 16 = .ok (.putfield 130, 3) := by decide +kernel
theorem dX10_item_19 : decode cX10_item 19 = .ok (.aload_n 0, 1) := by decide +kernel
theorem dX10_item_20 : decode cX10_item 20 = .ok (.getfield 130, 3) := by decide +kernel
theorem dX10_item_23 : decode cX10_item 23 = .ok (.ifCond .eq 7, 3) := by decide +kernel
theorem dX10_item_26 : decode cX10_item 26 = .ok (.iconst 0, 1) := by decide +kernel
theorem dX10_item_27 : decode cX10_item 27 = .ok (.goto 10, 3) := by decide +kernel
theorem dX10_item_30 : decode cX10_item 30 = .ok (.aload_n 0, 1) := by decide +kernel
theorem dX10_item_31 : decode cX10_item 31 = .ok (.iconst 1, 1) := by decide +kernel
theorem dX10_item_32 : decode cX10_item 32 = .ok (.bipush 8, 2) := by decide +kernel
theorem dX10_item_34 : decode cX10_item 34 = .ok (.invokevirtual 134, 3) := by decide +kernel
theorem dX10_item_37 : decode cX10_item 37 = .ok (.istore_n 3, 1) := by decide +kernel
theorem dX10_item_38 : decode cX10_item 38 = .ok (.aload_n 0, 1) := by decide +kernel
theorem dX10_item_39 : decode cX10_item 39 = .ok (.aload_n 0, 1) := by decide +kernel
theorem dX10_item_40 : decode cX10_item 40 = .ok (.getfield 130, 3) := by decide +kernel
theorem dX10_item_43 : decode cX10_item 43 = .ok (.ifCond .eq 10, 3) := by decide +kernel
theorem dX10_item_46 : decode cX10_item 46 = .ok (.aload_n 0, 1) := by decide +kernel
theorem dX10_item_47 : decode cX10_item 47 = .ok (.getfield 62, 3) := by decide +kernel
theorem dX10_item_50 : decode cX10_item 50 = .ok (.goto 4, 3) := by decide +kernel
theorem dX10_item_53 : decode cX10_item 53 = .ok (.iload_n 3, 1) := by decide +kernel
theorem dX10_item_54 : decode cX10_item 54 = .ok (.putfield 62, 3) := by decide +kernel
theorem dX10_item_57 : decode cX10_item 57 = .ok (.iconst 1, 1) := by decide +kernel
theorem dX10_item_58 : decode cX10_item 58 = .ok (.ireturn, 1) := by decide +kernel
theorem dX10_item_59 : decode cX10_item 59 = .ok (.iload_n 1, 1) := by decide +kernel
theorem dX10_item_60 : decode cX10_item 60 = .ok (.bipush 119, 2) := by decide +kernel
theorem dX10_item_62 : decode cX10_item 62 = .ok (.if_icmp .ne 10, 3) := by decide +kernel
theorem dX10_item_65 : decode cX10_item 65 = .ok (.aload_n 0, 1) := by decide +kernel
theorem dX10_item_66 : decode cX10_item 66 = .ok (.invokevirtual 140, 3) := by decide +kernel
theorem dX10_item_69 : decode cX10_item 69 = .ok (.goto 131, 3) := by decide +kernel
theorem dX10_item_72 : decode cX10_item 72 = .ok (.iload_n 1, 1) := by decide +kernel
theorem dX10_item_73 : decode cX10_item 73 = .ok (.bipush 100, 2) := by decide +kernel
theorem dX10_item_75 : decode cX10_item 75 = .ok (.if_icmp .ne 10, 3) := by decide +kernel
theorem dX10_item_78 : decode cX10_item 78 = .ok (.aload_n 0, 1) := by decide +kernel
theorem dX10_item_79 : decode cX10_item 79 = .ok (.invokevirtual 143, 3) := by decide +kernel
theorem dX10_item_82 : decode cX10_item 82 = .ok (.goto 118, 3) := by decide +kernel
theorem dX10_item_85 : decode cX10_item 85 = .ok (.iload_n 1, 1) := by decide +kernel
theorem dX10_item_86 : decode cX10_item 86 = .ok (.bipush 98, 2) := by decide +kernel
theorem dX10_item_88 : decode cX10_item 88 = .ok (.if_icmp .ne 10, 3) := by decide +kernel
theorem dX10_item_91 : decode cX10_item 91 = .ok (.aload_n 0, 1) := by decide +kernel
theorem dX10_item_92 : decode cX10_item 92 = .ok (.invokevirtual 146, 3) := by decide +kernel
theorem dX10_item_95 : decode cX10_item 95 = .ok (.goto 105, 3) := by decide +kernel
theorem dX10_item_98 : decode cX10_item 98 = .ok (.iload_n 1, 1) := by decide +kernel
theorem dX10_item_99 : decode cX10_item 99 = .ok (.bipush 99, 2) := by decide +kernel
theorem dX10_item_101 : decode cX10_item 101 = .ok (.if_icmp .ne 50, 3) := by decide +kernel
theorem dX10_item_104 : decode cX10_item 104 = .ok (.aload_n 0, 1) := by decide +kernel
theorem dX10_item_105 : decode cX10_item 105 = .ok (.iconst 0, 1) := by decide +kernel
theorem dX10_item_106 : decode cX10_item 106 = .ok (.aload_n 0, 1) := by decide +kernel
theorem dX10_item_107 : decode cX10_item 107 = .ok (.getfield 62, 3) := by decide +kernel
theorem dX10_item_110 : decode cX10_item 110 = .ok (.iconst 1, 1) := by decide +kernel
theorem dX10_item_111 : decode cX10_item 111 = .ok (.isub, 1) := by decide +kernel
theorem dX10_item_112 : decode cX10_item 112 = .ok (.invokevirtual 134, 3) := by decide +kernel
theorem dX10_item_115 : decode cX10_item 115 = .ok (.istore_n 3, 1) := by decide +kernel
theorem dX10_item_116 : decode cX10_item 116 = .ok (.aload_n 0, 1) := by decide +kernel
theorem dX10_item_117 : decode cX10_item 117 = .ok (.iconst 0, 1) := by decide +kernel
theorem dX10_item_118 : decode cX10_item 118 = .ok (.bipush 9, 2) := by decide +kernel
theorem dX10_item_120 : decode cX10_item 120 = .ok (.invokevirtual 137, 3) := by decide +kernel
theorem dX10_item_123 : decode cX10_item 123 = .ok (.istore 4, 2) := by decide +kernel
theorem dX10_item_125 : decode cX10_item 125 = .ok (.aload_n 0, 1) := by decide +kernel
theorem dX10_item_126 : decode cX10_item 126 = .ok (.getfield 43, 3) := by decide +kernel
theorem dX10_item_129 : decode cX10_item 129 = .ok (.sipush 759, 3) := by decide +kernel
theorem dX10_item_132 : decode cX10_item 132 = .ok (.iload_n 3, 1) := by decide +kernel
theorem dX10_item_133 : decode cX10_item 133 = .ok (.iadd, 1) := by decide +kernel
theorem dX10_item_134 : decode cX10_item 134 = .ok (.aload_n 0, 1) := by decide +kernel
theorem dX10_item_135 : decode cX10_item 135 = .ok (.getfield 130, 3) := by decide +kernel
theorem dX10_item_138 : decode cX10_item 138 = .ok (.ifCond .eq 7, 3) := by decide +kernel
theorem dX10_item_141 : decode cX10_item 141 = .ok (.iconst 0, 1) := by decide +kernel
theorem dX10_item_142 : decode cX10_item 142 = .ok (.goto 5, 3) := by decide +kernel
theorem dX10_item_145 : decode cX10_item 145 = .ok (.iload 4, 2) := by decide +kernel
theorem dX10_item_147 : decode cX10_item 147 = .ok (.iastore, 1) := by decide +kernel
theorem dX10_item_148 : decode cX10_item 148 = .ok (.goto 52, 3) := by decide +kernel
theorem dX10_item_151 : decode cX10_item 151 = .ok (.iload_n 1, 1) := by decide +kernel
theorem dX10_item_152 : decode cX10_item 152 = .ok (.bipush 109, 2) := by decide +kernel
theorem dX10_item_154 : decode cX10_item 154 = .ok (.if_icmp .ne 41, 3) := by decide +kernel
theorem dX10_item_157 : decode cX10_item 157 = .ok (.aload_n 0, 1) := by decide +kernel
theorem dX10_item_158 : decode cX10_item 158 = .ok (.iconst 0, 1) := by decide +kernel
theorem dX10_item_159 : decode cX10_item 159 = .ok (.aload_n 0, 1) := by decide +kernel
theorem dX10_item_160 : decode cX10_item 160 = .ok (.getfield 62, 3) := by decide +kernel
theorem dX10_item_163 : decode cX10_item 163 = .ok (.iconst 1, 1) := by decide +kernel
theorem dX10_item_164 : decode cX10_item 164 = .ok (.isub, 1) := by decide +kernel
theorem dX10_item_165 : decode cX10_item 165 = .ok (.invokevirtual 134, 3) := by decide +kernel
theorem dX10_item_168 : decode cX10_item 168 = .ok (.istore_n 3, 1) := by decide +kernel
theorem dX10_item_169 : decode cX10_item 169 = .ok (.aload_n 0, 1) := by decide +kernel
theorem dX10_item_170 : decode cX10_item 170 = .ok (.dup, 1) := by decide +kernel
theorem dX10_item_171 : decode cX10_item 171 = .ok (.getfield 77, 3) := by decide +kernel
theorem dX10_item_174 : decode cX10_item 174 = .ok (.aload_n 0, 1) := by decide +kernel
theorem dX10_item_175 : decode cX10_item 175 = .ok (.getfield 130, 3) := by decide +kernel
theorem dX10_item_178 : decode cX10_item 178 = .ok (.ifCond .eq 7, 3) := by decide +kernel
theorem dX10_item_181 : decode cX10_item 181 = .ok (.iconst 0, 1) := by decide +kernel
theorem dX10_item_182 : decode cX10_item 182 = .ok (.goto 6, 3) := by decide +kernel
theorem dX10_item_185 : decode cX10_item 185 = .ok (.iconst 1, 1) := by decide +kernel
theorem dX10_item_186 : decode cX10_item 186 = .ok (.iload_n 3, 1) := by decide +kernel
theorem dX10_item_187 : decode cX10_item 187 = .ok (.ishl, 1) := by decide +kernel
theorem dX10_item_188 : decode cX10_item 188 = .ok (.ior, 1) := by decide +kernel
theorem dX10_item_189 : decode cX10_item 189 = .ok (.putfield 77, 3) := by decide +kernel
theorem dX10_item_192 : decode cX10_item 192 = .ok (.goto 8, 3) := by decide +kernel
theorem dX10_item_195 : decode cX10_item 195 = .ok (.aload_n 0, 1) := by decide +kernel
theorem dX10_item_196 : decode cX10_item 196 = .ok (.iconst 1, 1) := by decide +kernel
theorem dX10_item_197 : decode cX10_item 197 = .ok (.putfield 130, 3) := by decide +kernel
theorem dX10_item_200 : decode cX10_item 200 = .ok (.iconst 0, 1) := by decide +kernel
theorem dX10_item_201 : decode cX10_item 201 = .ok (.ireturn, 1) := by decide +kernel
theorem dX10_reads_0 : decode cX10_reads 0 = .ok (.aload_n 0, 1) := by decide +kernel
theorem dX10_reads_1 : decode cX10_reads 1 = .ok (.invokevirtual 59, 3) := by decide +kernel
theorem dX10_reads_4 : decode cX10_reads 4 = .ok (.aload_n 0, 1) := by decide +kernel
theorem dX10_reads_5 : decode cX10_reads 5 = .ok (.iconst 0, 1) := by decide +kernel
theorem dX10_reads_6 : decode cX10_reads 6 = .ok (.putfield 119, 3) := by decide +kernel
theorem dX10_reads_9 : decode cX10_reads 9 = .ok (.aload_n 0, 1) := by decide +kernel
theorem dX10_reads_10 : decode cX10_reads 10 = .ok (.iconst 0, 1) := by decide +kernel
theorem dX10_reads_11 : decode cX10_reads 11 = .ok (.putfield 130, 3) := by decide +kernel
theorem dX10_reads_14 : decode cX10_reads 14 = .ok (.iconst 1, 1) := by decide +kernel
theorem dX10_reads_15 : decode cX10_reads 15 = .ok (.istore_n 1, 1) := by decide +kernel
theorem dX10_reads_16 : decode cX10_reads 16 = .ok (.aload_n 0, 1) := by decide +kernel
theorem dX10_reads_17 : decode cX10_reads 17 = .ok (.getfield 119, 3) := by decide +kernel
theorem dX10_reads_20 : decode cX10_reads 20 = .ok (.aload_n 0, 1) := by decide +kernel
theorem dX10_reads_21 : decode cX10_reads 21 = .ok (.getfield 116, 3) := by decide +kernel
theorem dX10_reads_24 : decode cX10_reads 24 = .ok (.if_icmp .ge 90, 3) := by decide +kernel
theorem dX10_reads_27 : decode cX10_reads 27 = .ok (.aload_n 0, 1) := by decide +kernel
theorem dX10_reads_28 : decode cX10_reads 28 = .ok (.getfield 130, 3) := by decide +kernel
theorem dX10_reads_31 : decode cX10_reads 31 = .ok (.ifCond .ne 83, 3) := by decide +kernel
theorem dX10_reads_34 : decode cX10_reads 34 = .ok (.aload_n 0, 1) := by decide +kernel
theorem dX10_reads_35 : decode cX10_reads 35 = .ok (.aload_n 0, 1) := by decide +kernel
theorem dX10_reads_36 : decode cX10_reads 36 = .ok (.getfield 119, 3) := by decide +kernel
theorem dX10_reads_39 : decode cX10_reads 39 = .ok (.putfield 149, 3) := by decide +kernel
theorem dX10_reads_42 : decode cX10_reads 42 = .ok (.aload_n 0, 1) := by decide +kernel
theorem dX10_reads_43 : decode cX10_reads 43 = .ok (.invokevirtual 122, 3) := by decide +kernel
theorem dX10_reads_46 : decode cX10_reads 46 = .ok (.istore_n 2, 1) := by decide +kernel
theorem dX10_reads_47 : decode cX10_reads 47 = .ok (.aload_n 0, 1) := by decide +kernel
theorem dX10_reads_48 : decode cX10_reads 48 = .ok (.dup, 1) := by decide +kernel
theorem dX10_reads_49 : decode cX10_reads 49 = .ok (.getfield 119, 3) := by decide +kernel
theorem dX10_reads_52 : decode cX10_reads 52 = .ok (.iconst 1, 1) := by decide +kernel
theorem dX10_reads_53 : decode cX10_reads 53 = .ok (.iadd, 1) := by decide +kernel
theorem dX10_reads_54 : decode cX10_reads 54 = .ok (.putfield 119, 3) := by decide +kernel
theorem dX10_reads_57 : decode cX10_reads 57 = .ok (.aload_n 0, 1) := by decide +kernel
theorem dX10_reads_58 : decode cX10_reads 58 = .ok (.iload_n 2, 1) := by decide +kernel
theorem dX10_reads_59 : decode cX10_reads 59 = .ok (.iload_n 1, 1) := by decide +kernel
theorem dX10_reads_60 : decode cX10_reads 60 = .ok (.invokevirtual 152, 3) := by decide +kernel
theorem dX10_reads_63 : decode cX10_reads 63 = .ok (.ifCond .eq 11, 3) := by decide +kernel
theorem dX10_reads_66 : decode cX10_reads 66 = .ok (.iload_n 1, 1) := by decide +kernel
theorem dX10_reads_67 : decode cX10_reads 67 = .ok (.ifCond .eq 7, 3) := by decide +kernel
theorem dX10_reads_70 : decode cX10_reads 70 = .ok (.iconst 1, 1) := by decide +kernel
theorem dX10_reads_71 : decode cX10_reads 71 = .ok (.goto 4, 3) := by decide +kernel
theorem dX10_reads_74 : decode cX10_reads 74 = .ok (.iconst 0, 1) := by decide +kernel
theorem dX10_reads_75 : decode cX10_reads 75 = .ok (.istore_n 1, 1) := by decide +kernel
theorem dX10_reads_76 : decode cX10_reads 76 = .ok (.aload_n 0, 1) := by decide +kernel
theorem dX10_reads_77 : decode cX10_reads 77 = .ok (.aload_n 0, 1) := by decide +kernel
theorem dX10_reads_78 : decode cX10_reads 78 = .ok (.getfield 130, 3) := by decide +kernel
theorem dX10_reads_81 : decode cX10_reads 81 = .ok (.ifCond .ne 12, 3) := by decide +kernel
theorem dX10_reads_84 : decode cX10_reads 84 = .ok (.aload_n 0, 1) := by decide +kernel
theorem dX10_reads_85 : decode cX10_reads 85 = .ok (.invokevirtual 122, 3) := by decide +kernel
theorem dX10_reads_88 : decode cX10_reads 88 = .ok (.bipush 59, 2) := by decide +kernel
theorem dX10_reads_90 : decode cX10_reads 90 = .ok (.if_icmp .eq 7, 3) := by decide +kernel
theorem dX10_reads_93 : decode cX10_reads 93 = .ok (.iconst 1, 1) := by decide +kernel
theorem dX10_reads_94 : decode cX10_reads 94 = .ok (.goto 4, 3) := by decide +kernel
theorem dX10_reads_97 : decode cX10_reads 97 = .ok (.iconst 0, 1) := by decide +kernel
theorem dX10_reads_98 : decode cX10_reads 98 = .ok (.putfield 130, 3) := by decide +kernel
theorem dX10_reads_101 : decode cX10_reads 101 = .ok (.aload_n 0, 1) := by decide +kernel
theorem dX10_reads_102 : decode cX10_reads 102 = .ok (.dup, 1) := by decide +kernel
theorem dX10_reads_103 : decode cX10_reads 103 = .ok (.getfield 119, 3) := by decide +kernel
theorem dX10_reads_106 : decode cX10_reads 106 = .ok (.iconst 1, 1) := by decide +kernel
theorem dX10_reads_107 : decode cX10_reads 107 = .ok (.iadd, 1) := by decide +kernel
theorem dX10_reads_108 : decode cX10_reads 108 = .ok (.putfield 119, 3) := by decide +kernel
theorem dX10_reads_111 : decode cX10_reads 111 = .ok (.goto (-95), 3) := by decide +kernel
theorem dX10_reads_114 : decode cX10_reads 114 = .ok (.aload_n 0, 1) := by decide +kernel
theorem dX10_reads_115 : decode cX10_reads 115 = .ok (.getfield 130, 3) := by decide +kernel
theorem dX10_reads_118 : decode cX10_reads 118 = .ok (.ifCond .ne 7, 3) := by decide +kernel
theorem dX10_reads_121 : decode cX10_reads 121 = .ok (.iconst 1, 1) := by decide +kernel
theorem dX10_reads_122 : decode cX10_reads 122 = .ok (.goto 4, 3) := by decide +kernel
theorem dX10_reads_125 : decode cX10_reads 125 = .ok (.iconst 0, 1) := by decide +kernel
theorem dX10_reads_126 : decode cX10_reads 126 = .ok (.ireturn, 1) := by decide +kernel
theorem dX10_fault_0 : decode cX10_fault 0 = .ok (.aload_n 0, 1) := by decide +kernel
theorem dX10_fault_1 : decode cX10_fault 1 = .ok (.invokevirtual 156, 3) := by decide +kernel
theorem dX10_fault_4 : decode cX10_fault 4 = .ok (.ifCond .eq 8, 3) := by decide +kernel
theorem dX10_fault_7 : decode cX10_fault 7 = .ok (.bipush (-4), 2) := by decide +kernel
theorem dX10_fault_9 : decode cX10_fault 9 = .ok (.goto 7, 3) := by decide +kernel
theorem dX10_fault_12 : decode cX10_fault 12 = .ok (.aload_n 0, 1) := by decide +kernel
theorem dX10_fault_13 : decode cX10_fault 13 = .ok (.getfield 149, 3) := by decide +kernel
theorem dX10_fault_16 : decode cX10_fault 16 = .ok (.ireturn, 1) := by decide +kernel
theorem dX10_lay_0 : decode cX10_lay 0 = .ok (.aload_n 0, 1) := by decide +kernel
theorem dX10_lay_1 : decode cX10_lay 1 = .ok (.invokevirtual 156, 3) := by decide +kernel
theorem dX10_lay_4 : decode cX10_lay 4 = .ok (.ifCond .eq 17, 3) := by decide +kernel
theorem dX10_lay_7 : decode cX10_lay 7 = .ok (.aload_n 0, 1) := by decide +kernel
theorem dX10_lay_8 : decode cX10_lay 8 = .ok (.getfield 83, 3) := by decide +kernel
theorem dX10_lay_11 : decode cX10_lay 11 = .ok (.ifCond .eq 10, 3) := by decide +kernel
theorem dX10_lay_14 : decode cX10_lay 14 = .ok (.aload_n 0, 1) := by decide +kernel
theorem dX10_lay_15 : decode cX10_lay 15 = .ok (.getfield 86, 3) := by decide +kernel
theorem dX10_lay_18 : decode cX10_lay 18 = .ok (.ifCond .ne 6, 3) := by decide +kernel
theorem dX10_lay_21 : decode cX10_lay 21 = .ok (.bipush (-2), 2) := by decide +kernel
theorem dX10_lay_23 : decode cX10_lay 23 = .ok (.ireturn, 1) := by decide +kernel
theorem dX10_lay_24 : decode cX10_lay 24 = .ok (.aload_n 0, 1) := by decide +kernel
theorem dX10_lay_25 : decode cX10_lay 25 = .ok (.invokevirtual 80, 3) := by decide +kernel
theorem dX10_lay_28 : decode cX10_lay 28 = .ok (.aload_n 0, 1) := by decide +kernel
theorem dX10_lay_29 : decode cX10_lay 29 = .ok (.iconst 0, 1) := by decide +kernel
theorem dX10_lay_30 : decode cX10_lay 30 = .ok (.putfield 160, 3) := by decide +kernel
theorem dX10_lay_33 : decode cX10_lay 33 = .ok (.aload_n 0, 1) := by decide +kernel
theorem dX10_lay_34 : decode cX10_lay 34 = .ok (.iconst 0, 1) := by decide +kernel
theorem dX10_lay_35 : decode cX10_lay 35 = .ok (.putfield 163, 3) := by decide +kernel
theorem dX10_lay_38 : decode cX10_lay 38 = .ok (.aload_n 0, 1) := by decide +kernel
theorem dX10_lay_39 : decode cX10_lay 39 = .ok (.getfield 98, 3) := by decide +kernel
theorem dX10_lay_42 : decode cX10_lay 42 = .ok (.ireturn, 1) := by decide +kernel
theorem dX10_standing_0 : decode cX10_standing 0 = .ok (.iconst 0, 1) := by decide +kernel
theorem dX10_standing_1 : decode cX10_standing 1 = .ok (.istore_n 3, 1) := by decide +kernel
theorem dX10_standing_2 : decode cX10_standing 2 = .ok (.iconst 0, 1) := by decide +kernel
theorem dX10_standing_3 : decode cX10_standing 3 = .ok (.istore 4, 2) := by decide +kernel
theorem dX10_standing_5 : decode cX10_standing 5 = .ok (.iload 4, 2) := by decide +kernel
theorem dX10_standing_7 : decode cX10_standing 7 = .ok (.aload_n 0, 1) := by decide +kernel
theorem dX10_standing_8 : decode cX10_standing 8 = .ok (.getfield 98, 3) := by decide +kernel
theorem dX10_standing_11 : decode cX10_standing 11 = .ok (.if_icmp .ge 49, 3) := by decide +kernel
theorem dX10_standing_14 : decode cX10_standing 14 = .ok (.iload_n 3, 1) := by decide +kernel
theorem dX10_standing_15 : decode cX10_standing 15 = .ok (.aload_n 0, 1) := by decide +kernel
theorem dX10_standing_16 : decode cX10_standing 16 = .ok (.getfield 43, 3) := by decide +kernel
theorem dX10_standing_19 : decode cX10_standing 19 = .ok (.iload_n 1, 1) := by decide +kernel
theorem dX10_standing_20 : decode cX10_standing 20 = .ok (.bipush 10, 2) := by decide +kernel
theorem dX10_standing_22 : decode cX10_standing 22 = .ok (.iadd, 1) := by decide +kernel
theorem dX10_standing_23 : decode cX10_standing 23 = .ok (.iload 4, 2) := by decide +kernel
theorem dX10_standing_25 : decode cX10_standing 25 = .ok (.iadd, 1) := by decide +kernel
theorem dX10_standing_26 : decode cX10_standing 26 = .ok (.iaload, 1) := by decide +kernel
theorem dX10_standing_27 : decode cX10_standing 27 = .ok (.bipush (-4), 2) := by decide +kernel
theorem dX10_standing_29 : decode cX10_standing 29 = .ok (.if_icmp .ne 22, 3) := by decide +kernel
theorem dX10_standing_32 : decode cX10_standing 32 = .ok (.aload_n 0, 1) := by decide +kernel
theorem dX10_standing_33 : decode cX10_standing 33 = .ok (.getfield 43, 3) := by decide +kernel
theorem dX10_standing_36 : decode cX10_standing 36 = .ok (.iload_n 1, 1) := by decide +kernel
theorem dX10_standing_37 : decode cX10_standing 37 = .ok (.iconst 5, 1) := by decide +kernel
theorem dX10_standing_38 : decode cX10_standing 38 = .ok (.iadd, 1) := by decide +kernel
theorem dX10_standing_39 : decode cX10_standing 39 = .ok (.iload 4, 2) := by decide +kernel
theorem dX10_standing_41 : decode cX10_standing 41 = .ok (.iadd, 1) := by decide +kernel
theorem dX10_standing_42 : decode cX10_standing 42 = .ok (.iaload, 1) := by decide +kernel
theorem dX10_standing_43 : decode cX10_standing 43 = .ok (.iload_n 2, 1) := by decide +kernel
theorem dX10_standing_44 : decode cX10_standing 44 = .ok (.if_icmp .ne 7, 3) := by decide +kernel
theorem dX10_standing_47 : decode cX10_standing 47 = .ok (.iconst 1, 1) := by decide +kernel
theorem dX10_standing_48 : decode cX10_standing 48 = .ok (.goto 4, 3) := by decide +kernel
theorem dX10_standing_51 : decode cX10_standing 51 = .ok (.iconst 0, 1) := by decide +kernel
theorem dX10_standing_52 : decode cX10_standing 52 = .ok (.iadd, 1) := by decide +kernel
theorem dX10_standing_53 : decode cX10_standing 53 = .ok (.istore_n 3, 1) := by decide +kernel
theorem dX10_standing_54 : decode cX10_standing 54 = .ok (.iinc 4 1, 3) := by decide +kernel
theorem dX10_standing_57 : decode cX10_standing 57 = .ok (.goto (-52), 3) := by decide +kernel
theorem dX10_standing_60 : decode cX10_standing 60 = .ok (.iload_n 3, 1) := by decide +kernel
theorem dX10_standing_61 : decode cX10_standing 61 = .ok (.ireturn, 1) := by decide +kernel
theorem qX10_number : jYv yX10_number cX10_number 5 (some .int) 2 := ⟨tw_1042, tw_26, tw_72, tw_1043, ⟨by decide +kernel, by decide +kernel, by decide +kernel⟩⟩
abbrev rX10_number : Room := { frames := 1, cells := 0, slots := 0, locals := 25 }
def uX10_number : jM := (cX10_number, 5, RX10, (some .int), rX10_number)
def pX10_number_5b (fu : Nat) (x1 : Int32) (x2 : Int32) (x3 : Int32) (x4 : Int32) (M : Mem) (c5 : Int32 → Int32 → Int32 → Int32 → Mem → Res) (c57 : Int32 → Int32 → Int32 → Int32 → Mem → Res) : Res :=
  bI (pX10_byteNow fu  M) fun r2 M1 =>
  bI (pX10_in fu (r2).toInt64 (48 : Int64) (57 : Int64) M1) fun r4 M3 =>
  if r4 = 0 then (
    c57 x1 x2 x3 x4 M3)
  else
  if (3 : Int32) ≤ x4 then (
    c57 x1 x2 x3 x4 M3)
  else
  bI (pX10_byteNow fu  M3) fun r6 M5 =>
  fpt M5 0 24 ((M5 0 24) + (1 : Int32)) fun M7 =>
  c5 x1 x2 ((((10 : Int32) * x3) + r6) - (48 : Int32)) (x4 + (1 : Int32)) M7
set_option maxRecDepth 100000 in
theorem wX10_number_5b {E : jE} {X : jC} (hX : jOk X uX10_number (gM E)) (fu : Nat)  (x1 : Int32) (x2 : Int32) (x3 : Int32) (x4 : Int32) (M : Mem) (c5 : Int32 → Int32 → Int32 → Int32 → Mem → Res) (c57 : Int32 → Int32 → Int32 → Int32 → Mem → Res) (hc5 : ∀ (x1 : Int32) (x2 : Int32) (x3 : Int32) (x4 : Int32) (M : Mem), J X uX10_number (gM E) 5 [(0, .ref (gad (gM E) 0)), (1, .int x1), (2, .int x2), (3, .int x3), (4, .int x4)] [] M (c5 x1 x2 x3 x4 M)) (hc57 : ∀ (x1 : Int32) (x2 : Int32) (x3 : Int32) (x4 : Int32) (M : Mem), J X uX10_number (gM E) 57 [(0, .ref (gad (gM E) 0)), (1, .int x1), (2, .int x2), (3, .int x3), (4, .int x4)] [] M (c57 x1 x2 x3 x4 M)) : J X uX10_number (gM E) 5 [(0, .ref (gad (gM E) 0)), (1, .int x1), (2, .int x2), (3, .int x3), (4, .int x4)] [] M (pX10_number_5b fu  x1 x2 x3 x4 M c5 c57) := by
  unfold pX10_number_5b
  refine j_aload_n (pc := 5) hX 0 dX10_number_5 rfl rfl ?_
  refine j_callV (pc := 6) hX [] (mX10_byteNow _ E hX.2.2.2.2.2.2.2.2.1 fu    M) qX10_byteNow tw_1032 (jb rfl) rfl (ci := 9) (T := TX10) (N := 30) rfl (jb rfl) rfl ⟨rfl, rfl⟩ ⟨(Nat.le_of_ble_eq_true rfl), (Nat.le_of_ble_eq_true rfl)⟩ (Nat.le_of_ble_eq_true rfl) dX10_number_6 (fun _ => rfl) rfl (fun r2 M1 => ?_)
  refine j_i2l (pc := 9) hX dX10_number_9 ?_
  refine j_ldc2 (pc := 10) (v := (48 : Int64)) hX tw_1044 dX10_number_10 ?_
  refine j_ldc2 (pc := 13) (v := (57 : Int64)) hX tw_1045 dX10_number_13 ?_
  refine j_callS (pc := 16) hX [.long (r2).toInt64, .long (48 : Int64), .long (57 : Int64)] (mX10_in _ E hX.2.2.2.2.2.2.2.2.1 fu   (r2).toInt64 (48 : Int64) (57 : Int64) M1) qX10_in tw_1017 rfl ⟨rfl, rfl⟩ ⟨(Nat.le_of_ble_eq_true rfl), (Nat.le_of_ble_eq_true rfl)⟩ (Nat.le_of_ble_eq_true rfl) dX10_number_16 (fun _ => rfl) rfl (fun r4 M3 => ?_)
  refine j_if_eq (pc := 19) hX 57 dX10_number_19 (by decide) ?_ ?_
  · exact j_sub [0, 1, 2, 3, 4] rfl (hc57 x1 x2 x3 x4 M3)
  · refine j_iload (pc := 22) hX 4 dX10_number_22 rfl ?_
    refine j_iconst (pc := 24) (v := (3 : Int32)) hX dX10_number_24 ci_3 ?_
    refine j_icmp_ge (pc := 25) hX 57 dX10_number_25 (by decide) ?_ ?_
    · exact j_sub [0, 1, 2, 3, 4] rfl (hc57 x1 x2 x3 x4 M3)
    · refine j_bipush (pc := 28) (v := (10 : Int32)) hX dX10_number_28 cb_10 ?_
      refine j_iload_n (pc := 30) hX 3 dX10_number_30 rfl rfl ?_
      refine j_imul (pc := 31) hX dX10_number_31 ?_
      refine j_aload_n (pc := 32) hX 0 dX10_number_32 rfl rfl ?_
      refine j_callV (pc := 33) hX [] (mX10_byteNow _ E hX.2.2.2.2.2.2.2.2.1 fu    M3) qX10_byteNow tw_1032 (jb rfl) rfl (ci := 9) (T := TX10) (N := 30) rfl (jb rfl) rfl ⟨rfl, rfl⟩ ⟨(Nat.le_of_ble_eq_true rfl), (Nat.le_of_ble_eq_true rfl)⟩ (Nat.le_of_ble_eq_true rfl) dX10_number_33 (fun _ => rfl) rfl (fun r6 M5 => ?_)
      refine j_iadd (pc := 36) hX dX10_number_36 ?_
      refine j_bipush (pc := 37) (v := (48 : Int32)) hX dX10_number_37 cb_48 ?_
      refine j_isub (pc := 39) hX dX10_number_39 ?_
      refine j_istore_n (pc := 40) (lv' := [(3, .int ((((10 : Int32) * x3) + r6) - (48 : Int32))), (0, .ref (gad (gM E) 0)), (1, .int x1), (2, .int x2), (4, .int x4)]) hX dX10_number_40 rfl (jb rfl) rfl ?_
      refine j_iinc (pc := 41) (v := (x4 + (1 : Int32))) (lv' := [(4, .int (x4 + (1 : Int32))), (3, .int ((((10 : Int32) * x3) + r6) - (48 : Int32))), (0, .ref (gad (gM E) 0)), (1, .int x1), (2, .int x2)]) hX 4 dX10_number_41 rfl (by rw [ci_1]) (jb rfl) rfl ?_
      refine j_aload_n (pc := 44) hX 2 dX10_number_44 rfl rfl ?_
      refine j_dup (pc := 45) hX dX10_number_45 rfl ?_
      refine j_getI (pc := 46) hX (jb rfl) rfl (ci := 9) (C := RX10) (T := TX10) (N := 30) rfl (jb rfl) inX10 (j := 24) (jb rfl) rfl tw_944 dX10_number_46 ?_
      refine j_iconst (pc := 49) (v := (1 : Int32)) hX dX10_number_49 ci_1 ?_
      refine j_iadd (pc := 50) hX dX10_number_50 ?_
      refine j_putI (pc := 51) hX (jb rfl) rfl (ci := 9) (C := RX10) (T := TX10) (N := 30) rfl (jb rfl) inX10 tyX10 tyX10_ok nmX10 (j := 24) (jb rfl) rfl tw_944 rfl (tyX10_ok 24 (jb rfl)) dX10_number_51 (fun M7 => ?_)
      refine j_goto (pc := 54) hX 5 dX10_number_54 (by decide) ?_
      exact j_sub [2, 3, 4, 1, 0] rfl (hc5 x1 x2 ((((10 : Int32) * x3) + r6) - (48 : Int32)) (x4 + (1 : Int32)) M7)
def pX10_number_5 (fu : Nat) (c57 : Int32 → Int32 → Int32 → Int32 → Mem → Res) : Nat → Int32 → Int32 → Int32 → Int32 → Mem → Res
  | 0, _, _, _, _, _ => none
  | n + 1, x1, x2, x3, x4, M => pX10_number_5b fu  x1 x2 x3 x4 M (pX10_number_5 fu  c57 n) c57
theorem wX10_number_5 {E : jE} {X : jC} (hX : jOk X uX10_number (gM E)) (fu : Nat)  (c57 : Int32 → Int32 → Int32 → Int32 → Mem → Res) (hc57 : ∀ (x1 : Int32) (x2 : Int32) (x3 : Int32) (x4 : Int32) (M : Mem), J X uX10_number (gM E) 57 [(0, .ref (gad (gM E) 0)), (1, .int x1), (2, .int x2), (3, .int x3), (4, .int x4)] [] M (c57 x1 x2 x3 x4 M)) : ∀ (n : Nat) (x1 : Int32) (x2 : Int32) (x3 : Int32) (x4 : Int32) (M : Mem), J X uX10_number (gM E) 5 [(0, .ref (gad (gM E) 0)), (1, .int x1), (2, .int x2), (3, .int x3), (4, .int x4)] [] M (pX10_number_5 fu  c57 n x1 x2 x3 x4 M) := by
  intro n
  induction n with
  | zero => intro x1 x2 x3 x4 M; exact j_none
  | succ n ih => intro x1 x2 x3 x4 M; exact wX10_number_5b hX fu   x1 x2 x3 x4 M (pX10_number_5 fu  c57 n) c57 ih hc57
def pX10_number_93 (fu : Nat) (x3 : Int32) (s0 : Int32) (M : Mem)  : Res :=
  fpz M 0 26 s0 fun M13 =>
  if (M13 0 26) = 0 then (
    some (x3, M13))
  else
  some ((0 : Int32), M13)
set_option maxRecDepth 100000 in
theorem wX10_number_93 {E : jE} {X : jC} (hX : jOk X uX10_number (gM E)) (fu : Nat)  (x3 : Int32) (s0 : Int32) (M : Mem)   : J X uX10_number (gM E) 93 [(0, .ref (gad (gM E) 0)), (3, .int x3)] [.int s0, .ref (gad (gM E) 0)] M (pX10_number_93 fu  x3 s0 M ) := by
  unfold pX10_number_93
  refine j_putZ (pc := 93) hX (jb rfl) rfl (ci := 9) (C := RX10) (T := TX10) (N := 30) rfl (jb rfl) inX10 tyX10 tyX10_ok nmX10 (j := 26) (jb rfl) rfl tw_946 rfl (tyX10_ok 26 (jb rfl)) dX10_number_93 (fun M13 => ?_)
  refine j_aload_n (pc := 96) hX 0 dX10_number_96 rfl rfl ?_
  refine j_getI (pc := 97) hX (jb rfl) rfl (ci := 9) (C := RX10) (T := TX10) (N := 30) rfl (jb rfl) inX10 (j := 26) (jb rfl) rfl tw_946 dX10_number_97 ?_
  refine j_if_eq (pc := 100) hX 107 dX10_number_100 (by decide) ?_ ?_
  · refine j_iload_n (pc := 107) hX 1 dX10_number_107 rfl rfl ?_
    exact j_iret (pc := 108) hX rfl dX10_number_108
  · refine j_iconst (pc := 103) (v := (0 : Int32)) hX dX10_number_103 ci_0 ?_
    refine j_goto (pc := 104) hX 108 dX10_number_104 (by decide) ?_
    exact j_iret (pc := 108) hX rfl dX10_number_108
def pX10_number_88 (fu : Nat) (x3 : Int32) (M : Mem)  : Res :=
  pX10_number_93 fu  x3 (1 : Int32) M 
set_option maxRecDepth 100000 in
theorem wX10_number_88 {E : jE} {X : jC} (hX : jOk X uX10_number (gM E)) (fu : Nat)  (x3 : Int32) (M : Mem)   : J X uX10_number (gM E) 88 [(0, .ref (gad (gM E) 0)), (3, .int x3)] [.ref (gad (gM E) 0)] M (pX10_number_88 fu  x3 M ) := by
  unfold pX10_number_88
  refine j_iconst (pc := 88) (v := (1 : Int32)) hX dX10_number_88 ci_1 ?_
  refine j_goto (pc := 89) hX 93 dX10_number_89 (by decide) ?_
  exact j_sub [0, 1] rfl (wX10_number_93 hX fu   x3 (1 : Int32) M  )
def pX10_number_57 (fu : Nat) (x1 : Int32) (x2 : Int32) (x3 : Int32) (x4 : Int32) (M : Mem)  : Res :=
  if (M 0 26) = 0 then (
    if x4 = 0 then (
      pX10_number_88 fu  x3 M )
    else
    if (2 : Int32) < x4 then (
      pX10_number_88 fu  x3 M )
    else
    bI (pX10_in fu (x3).toInt64 (x1).toInt64 (x2).toInt64 M) fun r15 M14 =>
    if r15 = 0 then (
      pX10_number_88 fu  x3 M14 )
    else
    pX10_number_93 fu  x3 (0 : Int32) M14 )
  else
  pX10_number_88 fu  x3 M 
set_option maxRecDepth 100000 in
theorem wX10_number_57 {E : jE} {X : jC} (hX : jOk X uX10_number (gM E)) (fu : Nat)  (x1 : Int32) (x2 : Int32) (x3 : Int32) (x4 : Int32) (M : Mem)   : J X uX10_number (gM E) 57 [(0, .ref (gad (gM E) 0)), (1, .int x1), (2, .int x2), (3, .int x3), (4, .int x4)] [] M (pX10_number_57 fu  x1 x2 x3 x4 M ) := by
  unfold pX10_number_57
  refine j_aload_n (pc := 57) hX 0 dX10_number_57 rfl rfl ?_
  refine j_aload_n (pc := 58) hX 0 dX10_number_58 rfl rfl ?_
  refine j_getI (pc := 59) hX (jb rfl) rfl (ci := 9) (C := RX10) (T := TX10) (N := 30) rfl (jb rfl) inX10 (j := 26) (jb rfl) rfl tw_946 dX10_number_59 ?_
  refine j_if_ne (pc := 62) hX 88 dX10_number_62 (by decide) ?_ ?_
  · exact j_sub [0, 3] rfl (wX10_number_88 hX fu   x3 M  )
  · refine j_iload (pc := 65) hX 4 dX10_number_65 rfl ?_
    refine j_if_eq (pc := 67) hX 88 dX10_number_67 (by decide) ?_ ?_
    · exact j_sub [0, 3] rfl (wX10_number_88 hX fu   x3 M  )
    · refine j_iload (pc := 70) hX 4 dX10_number_70 rfl ?_
      refine j_iconst (pc := 72) (v := (2 : Int32)) hX dX10_number_72 ci_2 ?_
      refine j_icmp_gt (pc := 73) hX 88 dX10_number_73 (by decide) ?_ ?_
      · exact j_sub [0, 3] rfl (wX10_number_88 hX fu   x3 M  )
      · refine j_iload_n (pc := 76) hX 3 dX10_number_76 rfl rfl ?_
        refine j_i2l (pc := 77) hX dX10_number_77 ?_
        refine j_iload_n (pc := 78) hX 1 dX10_number_78 rfl rfl ?_
        refine j_i2l (pc := 79) hX dX10_number_79 ?_
        refine j_iload_n (pc := 80) hX 2 dX10_number_80 rfl rfl ?_
        refine j_i2l (pc := 81) hX dX10_number_81 ?_
        refine j_callS (pc := 82) hX [.long (x3).toInt64, .long (x1).toInt64, .long (x2).toInt64] (mX10_in _ E hX.2.2.2.2.2.2.2.2.1 fu   (x3).toInt64 (x1).toInt64 (x2).toInt64 M) qX10_in tw_1017 rfl ⟨rfl, rfl⟩ ⟨(Nat.le_of_ble_eq_true rfl), (Nat.le_of_ble_eq_true rfl)⟩ (Nat.le_of_ble_eq_true rfl) dX10_number_82 (fun _ => rfl) rfl (fun r15 M14 => ?_)
        refine j_if_ne (pc := 85) hX 92 dX10_number_85 (by decide) ?_ ?_
        · refine j_iconst (pc := 92) (v := (0 : Int32)) hX dX10_number_92 ci_0 ?_
          exact j_sub [0, 3] rfl (wX10_number_93 hX fu   x3 (0 : Int32) M14  )
        · exact j_sub [0, 3] rfl (wX10_number_88 hX fu   x3 M14  )
def pX10_number (fu : Nat) (x1 : Int32) (x2 : Int32) (M : Mem) : Res :=
  pX10_number_5 fu
    (fun y8 y9 y10 y11 M12 =>
      pX10_number_57 fu  y8 y9 y10 y11 M12 )
    fu x1 x2 (0 : Int32) (0 : Int32) M
set_option maxRecDepth 100000 in
theorem wX10_number {E : jE} {X : jC} (hX : jOk X uX10_number (gM E)) (fu : Nat)  (x1 : Int32) (x2 : Int32) (M : Mem) : J X uX10_number (gM E) 0 [(0, .ref (gad (gM E) 0)), (1, .int x1), (2, .int x2)] [] M (pX10_number fu  x1 x2 M) := by
  unfold pX10_number
  refine j_iconst (pc := 0) (v := (0 : Int32)) hX dX10_number_0 ci_0 ?_
  refine j_istore_n (pc := 1) (lv' := [(3, .int (0 : Int32)), (0, .ref (gad (gM E) 0)), (1, .int x1), (2, .int x2)]) hX dX10_number_1 rfl (jb rfl) rfl ?_
  refine j_iconst (pc := 2) (v := (0 : Int32)) hX dX10_number_2 ci_0 ?_
  refine j_istore (pc := 3) (lv' := [(4, .int (0 : Int32)), (3, .int (0 : Int32)), (0, .ref (gad (gM E) 0)), (1, .int x1), (2, .int x2)]) hX dX10_number_3 (jb rfl) rfl ?_
  refine j_sub [2, 3, 4, 1, 0] rfl (wX10_number_5 hX fu   _ ?_ fu x1 x2 (0 : Int32) (0 : Int32) M)
  · intro y8 y9 y10 y11 M12
    exact j_sub [0, 1, 2, 3, 4] rfl (wX10_number_57 hX fu   y8 y9 y10 y11 M12  )
theorem mX10_number (l : Launch) (E : jE) (hI : jInj (gM E)) (fu : Nat)  (x1 : Int32) (x2 : Int32) (M : Mem) : jMet l (gM E) yX10_number cX10_number 5 (some .int) rX10_number [.ref (gad (gM E) 0), .int x1, .int x2] M (pX10_number fu  x1 x2 M) :=
  j_entry hI (by decide +kernel) (Nat.le_of_ble_eq_true rfl) rfl (fun X _ hX => wX10_number hX fu   x1 x2 M)
theorem qX10_more : jYv yX10_more cX10_more 3 (some .int) 2 := ⟨tw_1052, tw_28, tw_72, tw_1053, ⟨by decide +kernel, by decide +kernel, by decide +kernel⟩⟩
abbrev rX10_more : Room := { frames := 2, cells := 0, slots := 0, locals := 49 }
def uX10_more : jM := (cX10_more, 3, RX10, (some .int), rX10_more)
def pX10_more_22 (fu : Nat) (x1 : Int32) (x2 : Int32) (s0 : Int32) (M : Mem)  : Res :=
  fpz M 0 26 s0 fun M1 =>
  fpt M1 0 24 ((M1 0 24) + (1 : Int32)) fun M2 =>
  if (M2 0 26) = 0 then (
    bI (pX10_number fu x1 x2 M2) fun r4 M3 =>
    some (r4, M3))
  else
  some ((0 : Int32), M2)
set_option maxRecDepth 100000 in
theorem wX10_more_22 {E : jE} {X : jC} (hX : jOk X uX10_more (gM E)) (fu : Nat)  (x1 : Int32) (x2 : Int32) (s0 : Int32) (M : Mem)   : J X uX10_more (gM E) 22 [(0, .ref (gad (gM E) 0)), (1, .int x1), (2, .int x2)] [.int s0, .ref (gad (gM E) 0)] M (pX10_more_22 fu  x1 x2 s0 M ) := by
  unfold pX10_more_22
  refine j_putZ (pc := 22) hX (jb rfl) rfl (ci := 9) (C := RX10) (T := TX10) (N := 30) rfl (jb rfl) inX10 tyX10 tyX10_ok nmX10 (j := 26) (jb rfl) rfl tw_946 rfl (tyX10_ok 26 (jb rfl)) dX10_more_22 (fun M1 => ?_)
  refine j_aload_n (pc := 25) hX 0 dX10_more_25 rfl rfl ?_
  refine j_dup (pc := 26) hX dX10_more_26 rfl ?_
  refine j_getI (pc := 27) hX (jb rfl) rfl (ci := 9) (C := RX10) (T := TX10) (N := 30) rfl (jb rfl) inX10 (j := 24) (jb rfl) rfl tw_944 dX10_more_27 ?_
  refine j_iconst (pc := 30) (v := (1 : Int32)) hX dX10_more_30 ci_1 ?_
  refine j_iadd (pc := 31) hX dX10_more_31 ?_
  refine j_putI (pc := 32) hX (jb rfl) rfl (ci := 9) (C := RX10) (T := TX10) (N := 30) rfl (jb rfl) inX10 tyX10 tyX10_ok nmX10 (j := 24) (jb rfl) rfl tw_944 rfl (tyX10_ok 24 (jb rfl)) dX10_more_32 (fun M2 => ?_)
  refine j_aload_n (pc := 35) hX 0 dX10_more_35 rfl rfl ?_
  refine j_getI (pc := 36) hX (jb rfl) rfl (ci := 9) (C := RX10) (T := TX10) (N := 30) rfl (jb rfl) inX10 (j := 26) (jb rfl) rfl tw_946 dX10_more_36 ?_
  refine j_if_eq (pc := 39) hX 46 dX10_more_39 (by decide) ?_ ?_
  · refine j_aload_n (pc := 46) hX 0 dX10_more_46 rfl rfl ?_
    refine j_iload_n (pc := 47) hX 1 dX10_more_47 rfl rfl ?_
    refine j_iload_n (pc := 48) hX 2 dX10_more_48 rfl rfl ?_
    refine j_callV (pc := 49) hX [.int x1, .int x2] (mX10_number _ E hX.2.2.2.2.2.2.2.2.1 fu   x1 x2 M2) qX10_number tw_1040 (jb rfl) rfl (ci := 9) (T := TX10) (N := 30) rfl (jb rfl) rfl ⟨rfl, rfl⟩ ⟨(Nat.le_of_ble_eq_true rfl), (Nat.le_of_ble_eq_true rfl)⟩ (Nat.le_of_ble_eq_true rfl) dX10_more_49 (fun _ => rfl) rfl (fun r4 M3 => ?_)
    exact j_iret (pc := 52) hX rfl dX10_more_52
  · refine j_iconst (pc := 42) (v := (0 : Int32)) hX dX10_more_42 ci_0 ?_
    refine j_goto (pc := 43) hX 52 dX10_more_43 (by decide) ?_
    exact j_iret (pc := 52) hX rfl dX10_more_52
def pX10_more_17 (fu : Nat) (x1 : Int32) (x2 : Int32) (M : Mem)  : Res :=
  pX10_more_22 fu  x1 x2 (1 : Int32) M 
set_option maxRecDepth 100000 in
theorem wX10_more_17 {E : jE} {X : jC} (hX : jOk X uX10_more (gM E)) (fu : Nat)  (x1 : Int32) (x2 : Int32) (M : Mem)   : J X uX10_more (gM E) 17 [(0, .ref (gad (gM E) 0)), (1, .int x1), (2, .int x2)] [.ref (gad (gM E) 0)] M (pX10_more_17 fu  x1 x2 M ) := by
  unfold pX10_more_17
  refine j_iconst (pc := 17) (v := (1 : Int32)) hX dX10_more_17 ci_1 ?_
  refine j_goto (pc := 18) hX 22 dX10_more_18 (by decide) ?_
  exact j_sub [0, 1, 2] rfl (wX10_more_22 hX fu   x1 x2 (1 : Int32) M  )
def pX10_more (fu : Nat) (x1 : Int32) (x2 : Int32) (M : Mem) : Res :=
  if (M 0 26) = 0 then (
    bI (pX10_byteNow fu  M) fun r6 M5 =>
    if r6 = (44 : Int32) then (
      pX10_more_22 fu  x1 x2 (0 : Int32) M5 )
    else
    pX10_more_17 fu  x1 x2 M5 )
  else
  pX10_more_17 fu  x1 x2 M 
set_option maxRecDepth 100000 in
theorem wX10_more {E : jE} {X : jC} (hX : jOk X uX10_more (gM E)) (fu : Nat)  (x1 : Int32) (x2 : Int32) (M : Mem) : J X uX10_more (gM E) 0 [(0, .ref (gad (gM E) 0)), (1, .int x1), (2, .int x2)] [] M (pX10_more fu  x1 x2 M) := by
  unfold pX10_more
  refine j_aload_n (pc := 0) hX 0 dX10_more_0 rfl rfl ?_
  refine j_aload_n (pc := 1) hX 0 dX10_more_1 rfl rfl ?_
  refine j_getI (pc := 2) hX (jb rfl) rfl (ci := 9) (C := RX10) (T := TX10) (N := 30) rfl (jb rfl) inX10 (j := 26) (jb rfl) rfl tw_946 dX10_more_2 ?_
  refine j_if_ne (pc := 5) hX 17 dX10_more_5 (by decide) ?_ ?_
  · exact j_sub [0, 1, 2] rfl (wX10_more_17 hX fu   x1 x2 M  )
  · refine j_aload_n (pc := 8) hX 0 dX10_more_8 rfl rfl ?_
    refine j_callV (pc := 9) hX [] (mX10_byteNow _ E hX.2.2.2.2.2.2.2.2.1 fu    M) qX10_byteNow tw_1032 (jb rfl) rfl (ci := 9) (T := TX10) (N := 30) rfl (jb rfl) rfl ⟨rfl, rfl⟩ ⟨(Nat.le_of_ble_eq_true rfl), (Nat.le_of_ble_eq_true rfl)⟩ (Nat.le_of_ble_eq_true rfl) dX10_more_9 (fun _ => rfl) rfl (fun r6 M5 => ?_)
    refine j_bipush (pc := 12) (v := (44 : Int32)) hX dX10_more_12 cb_44 ?_
    refine j_icmp_eq (pc := 14) hX 21 dX10_more_14 (by decide) ?_ ?_
    · refine j_iconst (pc := 21) (v := (0 : Int32)) hX dX10_more_21 ci_0 ?_
      exact j_sub [0, 1, 2] rfl (wX10_more_22 hX fu   x1 x2 (0 : Int32) M5  )
    · exact j_sub [0, 1, 2] rfl (wX10_more_17 hX fu   x1 x2 M5  )
theorem mX10_more (l : Launch) (E : jE) (hI : jInj (gM E)) (fu : Nat)  (x1 : Int32) (x2 : Int32) (M : Mem) : jMet l (gM E) yX10_more cX10_more 3 (some .int) rX10_more [.ref (gad (gM E) 0), .int x1, .int x2] M (pX10_more fu  x1 x2 M) :=
  j_entry hI (by decide +kernel) (Nat.le_of_ble_eq_true rfl) rfl (fun X _ hX => wX10_more hX fu   x1 x2 M)
theorem qX10_wayItem : jYv yX10_wayItem cX10_wayItem 4 none 0 := ⟨tw_1048, tw_27, tw_72, tw_1049, ⟨by decide +kernel, by decide +kernel, by decide +kernel⟩⟩
abbrev rX10_wayItem : Room := { frames := 3, cells := 0, slots := 0, locals := 71 }
def uX10_wayItem : jM := (cX10_wayItem, 4, RX10, none, rX10_wayItem)
def pX10_wayItem_50 (fu : Nat) (x1 : Int32) (x2 : Int32) (x3 : Int32) (s0 : Int32) (M : Mem)  : Res :=
  fpz M 0 26 s0 fun M7 =>
  if (M7 0 26) = 0 then (
    bV (pX10_leads fu x1 x2 x3 M7) fun M8 =>
    some (0, M8))
  else
  some (0, M7)
set_option maxRecDepth 100000 in
theorem wX10_wayItem_50 {E : jE} {X : jC} (hX : jOk X uX10_wayItem (gM E)) (fu : Nat)  (x1 : Int32) (x2 : Int32) (x3 : Int32) (s0 : Int32) (M : Mem)   : J X uX10_wayItem (gM E) 50 [(0, .ref (gad (gM E) 0)), (1, .int x1), (2, .int x2), (3, .int x3)] [.int s0, .ref (gad (gM E) 0)] M (pX10_wayItem_50 fu  x1 x2 x3 s0 M ) := by
  unfold pX10_wayItem_50
  refine j_putZ (pc := 50) hX (jb rfl) rfl (ci := 9) (C := RX10) (T := TX10) (N := 30) rfl (jb rfl) inX10 tyX10 tyX10_ok nmX10 (j := 26) (jb rfl) rfl tw_946 rfl (tyX10_ok 26 (jb rfl)) dX10_wayItem_50 (fun M7 => ?_)
  refine j_aload_n (pc := 53) hX 0 dX10_wayItem_53 rfl rfl ?_
  refine j_getI (pc := 54) hX (jb rfl) rfl (ci := 9) (C := RX10) (T := TX10) (N := 30) rfl (jb rfl) inX10 (j := 26) (jb rfl) rfl tw_946 dX10_wayItem_54 ?_
  refine j_if_ne (pc := 57) hX 67 dX10_wayItem_57 (by decide) ?_ ?_
  · exact j_vret (pc := 67) hX rfl dX10_wayItem_67
  · refine j_aload_n (pc := 60) hX 0 dX10_wayItem_60 rfl rfl ?_
    refine j_iload_n (pc := 61) hX 1 dX10_wayItem_61 rfl rfl ?_
    refine j_iload_n (pc := 62) hX 2 dX10_wayItem_62 rfl rfl ?_
    refine j_iload_n (pc := 63) hX 3 dX10_wayItem_63 rfl rfl ?_
    refine j_callVv (pc := 64) hX [.int x1, .int x2, .int x3] (mX10_leads _ E hX.2.2.2.2.2.2.2.2.1 fu   x1 x2 x3 M7) qX10_leads tw_897 (jb rfl) rfl (ci := 9) (T := TX10) (N := 30) rfl (jb rfl) rfl ⟨rfl, rfl⟩ ⟨(Nat.le_of_ble_eq_true rfl), (Nat.le_of_ble_eq_true rfl)⟩ (Nat.le_of_ble_eq_true rfl) dX10_wayItem_64 rfl (fun M8 => ?_)
    exact j_vret (pc := 67) hX rfl dX10_wayItem_67
def pX10_wayItem_45 (fu : Nat) (x1 : Int32) (x2 : Int32) (x3 : Int32) (M : Mem)  : Res :=
  pX10_wayItem_50 fu  x1 x2 x3 (1 : Int32) M 
set_option maxRecDepth 100000 in
theorem wX10_wayItem_45 {E : jE} {X : jC} (hX : jOk X uX10_wayItem (gM E)) (fu : Nat)  (x1 : Int32) (x2 : Int32) (x3 : Int32) (M : Mem)   : J X uX10_wayItem (gM E) 45 [(0, .ref (gad (gM E) 0)), (1, .int x1), (2, .int x2), (3, .int x3)] [.ref (gad (gM E) 0)] M (pX10_wayItem_45 fu  x1 x2 x3 M ) := by
  unfold pX10_wayItem_45
  refine j_iconst (pc := 45) (v := (1 : Int32)) hX dX10_wayItem_45 ci_1 ?_
  refine j_goto (pc := 46) hX 50 dX10_wayItem_46 (by decide) ?_
  exact j_sub [0, 1, 2, 3] rfl (wX10_wayItem_50 hX fu   x1 x2 x3 (1 : Int32) M  )
def pX10_wayItem (fu : Nat)  (M : Mem) : Res :=
  bI (pX10_number fu (0 : Int32) ((M 0 10) - (1 : Int32)) M) fun r2 M1 =>
  bI (pX10_more fu (0 : Int32) ((M1 0 10) - (1 : Int32)) M1) fun r4 M3 =>
  bI (pX10_more fu (1 : Int32) (9 : Int32) M3) fun r6 M5 =>
  if (M5 0 26) = 0 then (
    if r2 = r4 then (
      pX10_wayItem_45 fu  r2 r4 r6 M5 )
    else
    pX10_wayItem_50 fu  r2 r4 r6 (0 : Int32) M5 )
  else
  pX10_wayItem_45 fu  r2 r4 r6 M5 
set_option maxRecDepth 100000 in
theorem wX10_wayItem {E : jE} {X : jC} (hX : jOk X uX10_wayItem (gM E)) (fu : Nat)   (M : Mem) : J X uX10_wayItem (gM E) 0 [(0, .ref (gad (gM E) 0))] [] M (pX10_wayItem fu   M) := by
  unfold pX10_wayItem
  refine j_aload_n (pc := 0) hX 0 dX10_wayItem_0 rfl rfl ?_
  refine j_iconst (pc := 1) (v := (0 : Int32)) hX dX10_wayItem_1 ci_0 ?_
  refine j_aload_n (pc := 2) hX 0 dX10_wayItem_2 rfl rfl ?_
  refine j_getI (pc := 3) hX (jb rfl) rfl (ci := 9) (C := RX10) (T := TX10) (N := 30) rfl (jb rfl) inX10 (j := 10) (jb rfl) rfl tw_930 dX10_wayItem_3 ?_
  refine j_iconst (pc := 6) (v := (1 : Int32)) hX dX10_wayItem_6 ci_1 ?_
  refine j_isub (pc := 7) hX dX10_wayItem_7 ?_
  refine j_callV (pc := 8) hX [.int (0 : Int32), .int ((M 0 10) - (1 : Int32))] (mX10_number _ E hX.2.2.2.2.2.2.2.2.1 fu   (0 : Int32) ((M 0 10) - (1 : Int32)) M) qX10_number tw_1040 (jb rfl) rfl (ci := 9) (T := TX10) (N := 30) rfl (jb rfl) rfl ⟨rfl, rfl⟩ ⟨(Nat.le_of_ble_eq_true rfl), (Nat.le_of_ble_eq_true rfl)⟩ (Nat.le_of_ble_eq_true rfl) dX10_wayItem_8 (fun _ => rfl) rfl (fun r2 M1 => ?_)
  refine j_istore_n (pc := 11) (lv' := [(1, .int r2), (0, .ref (gad (gM E) 0))]) hX dX10_wayItem_11 rfl (jb rfl) rfl ?_
  refine j_aload_n (pc := 12) hX 1 dX10_wayItem_12 rfl rfl ?_
  refine j_iconst (pc := 13) (v := (0 : Int32)) hX dX10_wayItem_13 ci_0 ?_
  refine j_aload_n (pc := 14) hX 1 dX10_wayItem_14 rfl rfl ?_
  refine j_getI (pc := 15) hX (jb rfl) rfl (ci := 9) (C := RX10) (T := TX10) (N := 30) rfl (jb rfl) inX10 (j := 10) (jb rfl) rfl tw_930 dX10_wayItem_15 ?_
  refine j_iconst (pc := 18) (v := (1 : Int32)) hX dX10_wayItem_18 ci_1 ?_
  refine j_isub (pc := 19) hX dX10_wayItem_19 ?_
  refine j_callV (pc := 20) hX [.int (0 : Int32), .int ((M1 0 10) - (1 : Int32))] (mX10_more _ E hX.2.2.2.2.2.2.2.2.1 fu   (0 : Int32) ((M1 0 10) - (1 : Int32)) M1) qX10_more tw_1050 (jb rfl) rfl (ci := 9) (T := TX10) (N := 30) rfl (jb rfl) rfl ⟨rfl, rfl⟩ ⟨(Nat.le_of_ble_eq_true rfl), (Nat.le_of_ble_eq_true rfl)⟩ (Nat.le_of_ble_eq_true rfl) dX10_wayItem_20 (fun _ => rfl) rfl (fun r4 M3 => ?_)
  refine j_istore_n (pc := 23) (lv' := [(2, .int r4), (1, .int r2), (0, .ref (gad (gM E) 0))]) hX dX10_wayItem_23 rfl (jb rfl) rfl ?_
  refine j_aload_n (pc := 24) hX 2 dX10_wayItem_24 rfl rfl ?_
  refine j_iconst (pc := 25) (v := (1 : Int32)) hX dX10_wayItem_25 ci_1 ?_
  refine j_bipush (pc := 26) (v := (9 : Int32)) hX dX10_wayItem_26 cb_9 ?_
  refine j_callV (pc := 28) hX [.int (1 : Int32), .int (9 : Int32)] (mX10_more _ E hX.2.2.2.2.2.2.2.2.1 fu   (1 : Int32) (9 : Int32) M3) qX10_more tw_1050 (jb rfl) rfl (ci := 9) (T := TX10) (N := 30) rfl (jb rfl) rfl ⟨rfl, rfl⟩ ⟨(Nat.le_of_ble_eq_true rfl), (Nat.le_of_ble_eq_true rfl)⟩ (Nat.le_of_ble_eq_true rfl) dX10_wayItem_28 (fun _ => rfl) rfl (fun r6 M5 => ?_)
  refine j_istore_n (pc := 31) (lv' := [(3, .int r6), (2, .int r4), (1, .int r2), (0, .ref (gad (gM E) 0))]) hX dX10_wayItem_31 rfl (jb rfl) rfl ?_
  refine j_aload_n (pc := 32) hX 3 dX10_wayItem_32 rfl rfl ?_
  refine j_aload_n (pc := 33) hX 3 dX10_wayItem_33 rfl rfl ?_
  refine j_getI (pc := 34) hX (jb rfl) rfl (ci := 9) (C := RX10) (T := TX10) (N := 30) rfl (jb rfl) inX10 (j := 26) (jb rfl) rfl tw_946 dX10_wayItem_34 ?_
  refine j_if_ne (pc := 37) hX 45 dX10_wayItem_37 (by decide) ?_ ?_
  · exact j_sub [3, 2, 1, 0] rfl (wX10_wayItem_45 hX fu   r2 r4 r6 M5  )
  · refine j_iload_n (pc := 40) hX 2 dX10_wayItem_40 rfl rfl ?_
    refine j_iload_n (pc := 41) hX 1 dX10_wayItem_41 rfl rfl ?_
    refine j_icmp_ne (pc := 42) hX 49 dX10_wayItem_42 (by decide) ?_ ?_
    · refine j_iconst (pc := 49) (v := (0 : Int32)) hX dX10_wayItem_49 ci_0 ?_
      exact j_sub [3, 2, 1, 0] rfl (wX10_wayItem_50 hX fu   r2 r4 r6 (0 : Int32) M5  )
    · exact j_sub [3, 2, 1, 0] rfl (wX10_wayItem_45 hX fu   r2 r4 r6 M5  )
theorem mX10_wayItem (l : Launch) (E : jE) (hI : jInj (gM E)) (fu : Nat)   (M : Mem) : jMet l (gM E) yX10_wayItem cX10_wayItem 4 none rX10_wayItem [.ref (gad (gM E) 0)] M (pX10_wayItem fu   M) :=
  j_entry hI (by decide +kernel) (Nat.le_of_ble_eq_true rfl) rfl (fun X _ hX => wX10_wayItem hX fu    M)
theorem qX10_doorItem : jYv yX10_doorItem cX10_doorItem 3 none 0 := ⟨tw_1056, tw_29, tw_72, tw_1057, ⟨by decide +kernel, by decide +kernel, by decide +kernel⟩⟩
abbrev rX10_doorItem : Room := { frames := 3, cells := 0, slots := 0, locals := 71 }
def uX10_doorItem : jM := (cX10_doorItem, 3, RX10, none, rX10_doorItem)
def pX10_doorItem_34 (fu : Nat) (s0 : Int32) (M : Mem)  : Res :=
  bI (pX10_more fu (0 : Int32) ((M 0 10) - (1 : Int32)) M) fun r5 M4 =>
  if (M4 0 26) = 0 then (
    bV (pX10_opens fu s0 r5 M4) fun M6 =>
    some (0, M6))
  else
  some (0, M4)
set_option maxRecDepth 100000 in
theorem wX10_doorItem_34 {E : jE} {X : jC} (hX : jOk X uX10_doorItem (gM E)) (fu : Nat)  (s0 : Int32) (M : Mem)   : J X uX10_doorItem (gM E) 34 [(0, .ref (gad (gM E) 0))] [.int s0] M (pX10_doorItem_34 fu  s0 M ) := by
  unfold pX10_doorItem_34
  refine j_istore_n (pc := 34) (lv' := [(1, .int s0), (0, .ref (gad (gM E) 0))]) hX dX10_doorItem_34 rfl (jb rfl) rfl ?_
  refine j_aload_n (pc := 35) hX 1 dX10_doorItem_35 rfl rfl ?_
  refine j_iconst (pc := 36) (v := (0 : Int32)) hX dX10_doorItem_36 ci_0 ?_
  refine j_aload_n (pc := 37) hX 1 dX10_doorItem_37 rfl rfl ?_
  refine j_getI (pc := 38) hX (jb rfl) rfl (ci := 9) (C := RX10) (T := TX10) (N := 30) rfl (jb rfl) inX10 (j := 10) (jb rfl) rfl tw_930 dX10_doorItem_38 ?_
  refine j_iconst (pc := 41) (v := (1 : Int32)) hX dX10_doorItem_41 ci_1 ?_
  refine j_isub (pc := 42) hX dX10_doorItem_42 ?_
  refine j_callV (pc := 43) hX [.int (0 : Int32), .int ((M 0 10) - (1 : Int32))] (mX10_more _ E hX.2.2.2.2.2.2.2.2.1 fu   (0 : Int32) ((M 0 10) - (1 : Int32)) M) qX10_more tw_1050 (jb rfl) rfl (ci := 9) (T := TX10) (N := 30) rfl (jb rfl) rfl ⟨rfl, rfl⟩ ⟨(Nat.le_of_ble_eq_true rfl), (Nat.le_of_ble_eq_true rfl)⟩ (Nat.le_of_ble_eq_true rfl) dX10_doorItem_43 (fun _ => rfl) rfl (fun r5 M4 => ?_)
  refine j_istore_n (pc := 46) (lv' := [(2, .int r5), (1, .int s0), (0, .ref (gad (gM E) 0))]) hX dX10_doorItem_46 rfl (jb rfl) rfl ?_
  refine j_aload_n (pc := 47) hX 2 dX10_doorItem_47 rfl rfl ?_
  refine j_getI (pc := 48) hX (jb rfl) rfl (ci := 9) (C := RX10) (T := TX10) (N := 30) rfl (jb rfl) inX10 (j := 26) (jb rfl) rfl tw_946 dX10_doorItem_48 ?_
  refine j_if_ne (pc := 51) hX 60 dX10_doorItem_51 (by decide) ?_ ?_
  · exact j_vret (pc := 60) hX rfl dX10_doorItem_60
  · refine j_aload_n (pc := 54) hX 2 dX10_doorItem_54 rfl rfl ?_
    refine j_iload_n (pc := 55) hX 1 dX10_doorItem_55 rfl rfl ?_
    refine j_iload_n (pc := 56) hX 0 dX10_doorItem_56 rfl rfl ?_
    refine j_callVv (pc := 57) hX [.int s0, .int r5] (mX10_opens _ E hX.2.2.2.2.2.2.2.2.1 fu   s0 r5 M4) qX10_opens tw_901 (jb rfl) rfl (ci := 9) (T := TX10) (N := 30) rfl (jb rfl) rfl ⟨rfl, rfl⟩ ⟨(Nat.le_of_ble_eq_true rfl), (Nat.le_of_ble_eq_true rfl)⟩ (Nat.le_of_ble_eq_true rfl) dX10_doorItem_57 rfl (fun M6 => ?_)
    exact j_vret (pc := 60) hX rfl dX10_doorItem_60
def pX10_doorItem_14 (fu : Nat) (s0 : Int32) (M : Mem)  : Res :=
  fpz M 0 26 s0 fun M1 =>
  if (M1 0 26) = 0 then (
    bI (pX10_number fu (0 : Int32) (3 : Int32) M1) fun r3 M2 =>
    pX10_doorItem_34 fu  r3 M2 )
  else
  pX10_doorItem_34 fu  (0 : Int32) M1 
set_option maxRecDepth 100000 in
theorem wX10_doorItem_14 {E : jE} {X : jC} (hX : jOk X uX10_doorItem (gM E)) (fu : Nat)  (s0 : Int32) (M : Mem)   : J X uX10_doorItem (gM E) 14 [(0, .ref (gad (gM E) 0))] [.int s0, .ref (gad (gM E) 0)] M (pX10_doorItem_14 fu  s0 M ) := by
  unfold pX10_doorItem_14
  refine j_putZ (pc := 14) hX (jb rfl) rfl (ci := 9) (C := RX10) (T := TX10) (N := 30) rfl (jb rfl) inX10 tyX10 tyX10_ok nmX10 (j := 26) (jb rfl) rfl tw_946 rfl (tyX10_ok 26 (jb rfl)) dX10_doorItem_14 (fun M1 => ?_)
  refine j_aload_n (pc := 17) hX 0 dX10_doorItem_17 rfl rfl ?_
  refine j_getI (pc := 18) hX (jb rfl) rfl (ci := 9) (C := RX10) (T := TX10) (N := 30) rfl (jb rfl) inX10 (j := 26) (jb rfl) rfl tw_946 dX10_doorItem_18 ?_
  refine j_if_eq (pc := 21) hX 28 dX10_doorItem_21 (by decide) ?_ ?_
  · refine j_aload_n (pc := 28) hX 0 dX10_doorItem_28 rfl rfl ?_
    refine j_iconst (pc := 29) (v := (0 : Int32)) hX dX10_doorItem_29 ci_0 ?_
    refine j_iconst (pc := 30) (v := (3 : Int32)) hX dX10_doorItem_30 ci_3 ?_
    refine j_callV (pc := 31) hX [.int (0 : Int32), .int (3 : Int32)] (mX10_number _ E hX.2.2.2.2.2.2.2.2.1 fu   (0 : Int32) (3 : Int32) M1) qX10_number tw_1040 (jb rfl) rfl (ci := 9) (T := TX10) (N := 30) rfl (jb rfl) rfl ⟨rfl, rfl⟩ ⟨(Nat.le_of_ble_eq_true rfl), (Nat.le_of_ble_eq_true rfl)⟩ (Nat.le_of_ble_eq_true rfl) dX10_doorItem_31 (fun _ => rfl) rfl (fun r3 M2 => ?_)
    exact j_sub [0] rfl (wX10_doorItem_34 hX fu   r3 M2  )
  · refine j_iconst (pc := 24) (v := (0 : Int32)) hX dX10_doorItem_24 ci_0 ?_
    refine j_goto (pc := 25) hX 34 dX10_doorItem_25 (by decide) ?_
    exact j_sub [0] rfl (wX10_doorItem_34 hX fu   (0 : Int32) M1  )
def pX10_doorItem (fu : Nat)  (M : Mem) : Res :=
  if (M 0 13) = (4 : Int32) then (
    pX10_doorItem_14 fu  (1 : Int32) M )
  else
  pX10_doorItem_14 fu  (0 : Int32) M 
set_option maxRecDepth 100000 in
theorem wX10_doorItem {E : jE} {X : jC} (hX : jOk X uX10_doorItem (gM E)) (fu : Nat)   (M : Mem) : J X uX10_doorItem (gM E) 0 [(0, .ref (gad (gM E) 0))] [] M (pX10_doorItem fu   M) := by
  unfold pX10_doorItem
  refine j_aload_n (pc := 0) hX 0 dX10_doorItem_0 rfl rfl ?_
  refine j_aload_n (pc := 1) hX 0 dX10_doorItem_1 rfl rfl ?_
  refine j_getI (pc := 2) hX (jb rfl) rfl (ci := 9) (C := RX10) (T := TX10) (N := 30) rfl (jb rfl) inX10 (j := 13) (jb rfl) rfl tw_933 dX10_doorItem_2 ?_
  refine j_iconst (pc := 5) (v := (4 : Int32)) hX dX10_doorItem_5 ci_4 ?_
  refine j_icmp_ne (pc := 6) hX 13 dX10_doorItem_6 (by decide) ?_ ?_
  · refine j_iconst (pc := 13) (v := (0 : Int32)) hX dX10_doorItem_13 ci_0 ?_
    exact j_sub [0] rfl (wX10_doorItem_14 hX fu   (0 : Int32) M  )
  · refine j_iconst (pc := 9) (v := (1 : Int32)) hX dX10_doorItem_9 ci_1 ?_
    refine j_goto (pc := 10) hX 14 dX10_doorItem_10 (by decide) ?_
    exact j_sub [0] rfl (wX10_doorItem_14 hX fu   (1 : Int32) M  )
theorem mX10_doorItem (l : Launch) (E : jE) (hI : jInj (gM E)) (fu : Nat)   (M : Mem) : jMet l (gM E) yX10_doorItem cX10_doorItem 3 none rX10_doorItem [.ref (gad (gM E) 0)] M (pX10_doorItem fu   M) :=
  j_entry hI (by decide +kernel) (Nat.le_of_ble_eq_true rfl) rfl (fun X _ hX => wX10_doorItem hX fu    M)
theorem qX10_beastItem : jYv yX10_beastItem cX10_beastItem 4 none 0 := ⟨tw_1060, tw_30, tw_72, tw_1061, ⟨by decide +kernel, by decide +kernel, by decide +kernel⟩⟩
abbrev rX10_beastItem : Room := { frames := 3, cells := 0, slots := 0, locals := 71 }
def uX10_beastItem : jM := (cX10_beastItem, 4, RX10, none, rX10_beastItem)
def pX10_beastItem_34 (fu : Nat) (s0 : Int32) (M : Mem)  : Res :=
  bI (pX10_more fu (1 : Int32) (3 : Int32) M) fun r5 M4 =>
  bI (pX10_more fu (0 : Int32) (9 : Int32) M4) fun r7 M6 =>
  if (M6 0 26) = 0 then (
    bV (pX10_comes fu s0 r5 r7 M6) fun M8 =>
    some (0, M8))
  else
  some (0, M6)
set_option maxRecDepth 100000 in
theorem wX10_beastItem_34 {E : jE} {X : jC} (hX : jOk X uX10_beastItem (gM E)) (fu : Nat)  (s0 : Int32) (M : Mem)   : J X uX10_beastItem (gM E) 34 [(0, .ref (gad (gM E) 0))] [.int s0] M (pX10_beastItem_34 fu  s0 M ) := by
  unfold pX10_beastItem_34
  refine j_istore_n (pc := 34) (lv' := [(1, .int s0), (0, .ref (gad (gM E) 0))]) hX dX10_beastItem_34 rfl (jb rfl) rfl ?_
  refine j_aload_n (pc := 35) hX 1 dX10_beastItem_35 rfl rfl ?_
  refine j_iconst (pc := 36) (v := (1 : Int32)) hX dX10_beastItem_36 ci_1 ?_
  refine j_iconst (pc := 37) (v := (3 : Int32)) hX dX10_beastItem_37 ci_3 ?_
  refine j_callV (pc := 38) hX [.int (1 : Int32), .int (3 : Int32)] (mX10_more _ E hX.2.2.2.2.2.2.2.2.1 fu   (1 : Int32) (3 : Int32) M) qX10_more tw_1050 (jb rfl) rfl (ci := 9) (T := TX10) (N := 30) rfl (jb rfl) rfl ⟨rfl, rfl⟩ ⟨(Nat.le_of_ble_eq_true rfl), (Nat.le_of_ble_eq_true rfl)⟩ (Nat.le_of_ble_eq_true rfl) dX10_beastItem_38 (fun _ => rfl) rfl (fun r5 M4 => ?_)
  refine j_istore_n (pc := 41) (lv' := [(2, .int r5), (1, .int s0), (0, .ref (gad (gM E) 0))]) hX dX10_beastItem_41 rfl (jb rfl) rfl ?_
  refine j_aload_n (pc := 42) hX 2 dX10_beastItem_42 rfl rfl ?_
  refine j_iconst (pc := 43) (v := (0 : Int32)) hX dX10_beastItem_43 ci_0 ?_
  refine j_bipush (pc := 44) (v := (9 : Int32)) hX dX10_beastItem_44 cb_9 ?_
  refine j_callV (pc := 46) hX [.int (0 : Int32), .int (9 : Int32)] (mX10_more _ E hX.2.2.2.2.2.2.2.2.1 fu   (0 : Int32) (9 : Int32) M4) qX10_more tw_1050 (jb rfl) rfl (ci := 9) (T := TX10) (N := 30) rfl (jb rfl) rfl ⟨rfl, rfl⟩ ⟨(Nat.le_of_ble_eq_true rfl), (Nat.le_of_ble_eq_true rfl)⟩ (Nat.le_of_ble_eq_true rfl) dX10_beastItem_46 (fun _ => rfl) rfl (fun r7 M6 => ?_)
  refine j_istore_n (pc := 49) (lv' := [(3, .int r7), (2, .int r5), (1, .int s0), (0, .ref (gad (gM E) 0))]) hX dX10_beastItem_49 rfl (jb rfl) rfl ?_
  refine j_aload_n (pc := 50) hX 3 dX10_beastItem_50 rfl rfl ?_
  refine j_getI (pc := 51) hX (jb rfl) rfl (ci := 9) (C := RX10) (T := TX10) (N := 30) rfl (jb rfl) inX10 (j := 26) (jb rfl) rfl tw_946 dX10_beastItem_51 ?_
  refine j_if_ne (pc := 54) hX 64 dX10_beastItem_54 (by decide) ?_ ?_
  · exact j_vret (pc := 64) hX rfl dX10_beastItem_64
  · refine j_aload_n (pc := 57) hX 3 dX10_beastItem_57 rfl rfl ?_
    refine j_iload_n (pc := 58) hX 2 dX10_beastItem_58 rfl rfl ?_
    refine j_iload_n (pc := 59) hX 1 dX10_beastItem_59 rfl rfl ?_
    refine j_iload_n (pc := 60) hX 0 dX10_beastItem_60 rfl rfl ?_
    refine j_callVv (pc := 61) hX [.int s0, .int r5, .int r7] (mX10_comes _ E hX.2.2.2.2.2.2.2.2.1 fu   s0 r5 r7 M6) qX10_comes tw_905 (jb rfl) rfl (ci := 9) (T := TX10) (N := 30) rfl (jb rfl) rfl ⟨rfl, rfl⟩ ⟨(Nat.le_of_ble_eq_true rfl), (Nat.le_of_ble_eq_true rfl)⟩ (Nat.le_of_ble_eq_true rfl) dX10_beastItem_61 rfl (fun M8 => ?_)
    exact j_vret (pc := 64) hX rfl dX10_beastItem_64
def pX10_beastItem_14 (fu : Nat) (s0 : Int32) (M : Mem)  : Res :=
  fpz M 0 26 s0 fun M1 =>
  if (M1 0 26) = 0 then (
    bI (pX10_number fu (0 : Int32) (3 : Int32) M1) fun r3 M2 =>
    pX10_beastItem_34 fu  r3 M2 )
  else
  pX10_beastItem_34 fu  (0 : Int32) M1 
set_option maxRecDepth 100000 in
theorem wX10_beastItem_14 {E : jE} {X : jC} (hX : jOk X uX10_beastItem (gM E)) (fu : Nat)  (s0 : Int32) (M : Mem)   : J X uX10_beastItem (gM E) 14 [(0, .ref (gad (gM E) 0))] [.int s0, .ref (gad (gM E) 0)] M (pX10_beastItem_14 fu  s0 M ) := by
  unfold pX10_beastItem_14
  refine j_putZ (pc := 14) hX (jb rfl) rfl (ci := 9) (C := RX10) (T := TX10) (N := 30) rfl (jb rfl) inX10 tyX10 tyX10_ok nmX10 (j := 26) (jb rfl) rfl tw_946 rfl (tyX10_ok 26 (jb rfl)) dX10_beastItem_14 (fun M1 => ?_)
  refine j_aload_n (pc := 17) hX 0 dX10_beastItem_17 rfl rfl ?_
  refine j_getI (pc := 18) hX (jb rfl) rfl (ci := 9) (C := RX10) (T := TX10) (N := 30) rfl (jb rfl) inX10 (j := 26) (jb rfl) rfl tw_946 dX10_beastItem_18 ?_
  refine j_if_eq (pc := 21) hX 28 dX10_beastItem_21 (by decide) ?_ ?_
  · refine j_aload_n (pc := 28) hX 0 dX10_beastItem_28 rfl rfl ?_
    refine j_iconst (pc := 29) (v := (0 : Int32)) hX dX10_beastItem_29 ci_0 ?_
    refine j_iconst (pc := 30) (v := (3 : Int32)) hX dX10_beastItem_30 ci_3 ?_
    refine j_callV (pc := 31) hX [.int (0 : Int32), .int (3 : Int32)] (mX10_number _ E hX.2.2.2.2.2.2.2.2.1 fu   (0 : Int32) (3 : Int32) M1) qX10_number tw_1040 (jb rfl) rfl (ci := 9) (T := TX10) (N := 30) rfl (jb rfl) rfl ⟨rfl, rfl⟩ ⟨(Nat.le_of_ble_eq_true rfl), (Nat.le_of_ble_eq_true rfl)⟩ (Nat.le_of_ble_eq_true rfl) dX10_beastItem_31 (fun _ => rfl) rfl (fun r3 M2 => ?_)
    exact j_sub [0] rfl (wX10_beastItem_34 hX fu   r3 M2  )
  · refine j_iconst (pc := 24) (v := (0 : Int32)) hX dX10_beastItem_24 ci_0 ?_
    refine j_goto (pc := 25) hX 34 dX10_beastItem_25 (by decide) ?_
    exact j_sub [0] rfl (wX10_beastItem_34 hX fu   (0 : Int32) M1  )
def pX10_beastItem (fu : Nat)  (M : Mem) : Res :=
  if (M 0 16) = (5 : Int32) then (
    pX10_beastItem_14 fu  (1 : Int32) M )
  else
  pX10_beastItem_14 fu  (0 : Int32) M 
set_option maxRecDepth 100000 in
theorem wX10_beastItem {E : jE} {X : jC} (hX : jOk X uX10_beastItem (gM E)) (fu : Nat)   (M : Mem) : J X uX10_beastItem (gM E) 0 [(0, .ref (gad (gM E) 0))] [] M (pX10_beastItem fu   M) := by
  unfold pX10_beastItem
  refine j_aload_n (pc := 0) hX 0 dX10_beastItem_0 rfl rfl ?_
  refine j_aload_n (pc := 1) hX 0 dX10_beastItem_1 rfl rfl ?_
  refine j_getI (pc := 2) hX (jb rfl) rfl (ci := 9) (C := RX10) (T := TX10) (N := 30) rfl (jb rfl) inX10 (j := 16) (jb rfl) rfl tw_936 dX10_beastItem_2 ?_
  refine j_iconst (pc := 5) (v := (5 : Int32)) hX dX10_beastItem_5 ci_5 ?_
  refine j_icmp_ne (pc := 6) hX 13 dX10_beastItem_6 (by decide) ?_ ?_
  · refine j_iconst (pc := 13) (v := (0 : Int32)) hX dX10_beastItem_13 ci_0 ?_
    exact j_sub [0] rfl (wX10_beastItem_14 hX fu   (0 : Int32) M  )
  · refine j_iconst (pc := 9) (v := (1 : Int32)) hX dX10_beastItem_9 ci_1 ?_
    refine j_goto (pc := 10) hX 14 dX10_beastItem_10 (by decide) ?_
    exact j_sub [0] rfl (wX10_beastItem_14 hX fu   (1 : Int32) M  )
theorem mX10_beastItem (l : Launch) (E : jE) (hI : jInj (gM E)) (fu : Nat)   (M : Mem) : jMet l (gM E) yX10_beastItem cX10_beastItem 4 none rX10_beastItem [.ref (gad (gM E) 0)] M (pX10_beastItem fu   M) :=
  j_entry hI (by decide +kernel) (Nat.le_of_ble_eq_true rfl) rfl (fun X _ hX => wX10_beastItem hX fu    M)
theorem qX10_item : jYv yX10_item cX10_item 5 (some .boolean) 2 := ⟨tw_1038, tw_25, tw_72, tw_1039, ⟨by decide +kernel, by decide +kernel, by decide +kernel⟩⟩
abbrev rX10_item : Room := { frames := 4, cells := 0, slots := 0, locals := 94 }
def uX10_item : jM := (cX10_item, 5, RX10, (some .boolean), rX10_item)
def pX10_item_188 (fu : Nat) (s0 : Int32) (s1 : Int32) (M : Mem)  : Res :=
  fpt M 0 12 (s1 ||| s0) fun M4 =>
  rtz (0 : Int32) M4
set_option maxRecDepth 100000 in
theorem wX10_item_188 {E : jE} {X : jC} (hX : jOk X uX10_item (gM E)) (fu : Nat)  (s0 : Int32) (s1 : Int32) (M : Mem)   : J X uX10_item (gM E) 188 [] [.int s0, .int s1, .ref (gad (gM E) 0)] M (pX10_item_188 fu  s0 s1 M ) := by
  unfold pX10_item_188
  refine j_ior (pc := 188) hX dX10_item_188 ?_
  refine j_putI (pc := 189) hX (jb rfl) rfl (ci := 9) (C := RX10) (T := TX10) (N := 30) rfl (jb rfl) inX10 tyX10 tyX10_ok nmX10 (j := 12) (jb rfl) rfl tw_932 rfl (tyX10_ok 12 (jb rfl)) dX10_item_189 (fun M4 => ?_)
  refine j_goto (pc := 192) hX 200 dX10_item_192 (by decide) ?_
  refine j_iconst (pc := 200) (v := (0 : Int32)) hX dX10_item_200 ci_0 ?_
  exact j_zret (pc := 201) hX rfl dX10_item_201
def pX10_item_147 (fu : Nat) (s0 : Int32) (s1 : Int32) (M : Mem)  : Res :=
  sto M 12 768 s1 s0 fun M9 =>
  rtz (0 : Int32) M9
set_option maxRecDepth 100000 in
theorem wX10_item_147 {E : jE} {X : jC} (hX : jOk X uX10_item (gM E)) (fu : Nat)  (s0 : Int32) (s1 : Int32) (M : Mem)   : J X uX10_item (gM E) 147 [] [.int s0, .int s1, .ref (gad (gM E) 12)] M (pX10_item_147 fu  s0 s1 M ) := by
  unfold pX10_item_147
  refine j_iast (pc := 147) hX (jb rfl) rfl rfl dX10_item_147 (fun M9 => ?_)
  refine j_goto (pc := 148) hX 200 dX10_item_148 (by decide) ?_
  refine j_iconst (pc := 200) (v := (0 : Int32)) hX dX10_item_200 ci_0 ?_
  exact j_zret (pc := 201) hX rfl dX10_item_201
def pX10_item_54 (fu : Nat) (s0 : Int32) (M : Mem)  : Res :=
  fpt M 0 10 s0 fun M16 =>
  rtz (1 : Int32) M16
set_option maxRecDepth 100000 in
theorem wX10_item_54 {E : jE} {X : jC} (hX : jOk X uX10_item (gM E)) (fu : Nat)  (s0 : Int32) (M : Mem)   : J X uX10_item (gM E) 54 [] [.int s0, .ref (gad (gM E) 0)] M (pX10_item_54 fu  s0 M ) := by
  unfold pX10_item_54
  refine j_putI (pc := 54) hX (jb rfl) rfl (ci := 9) (C := RX10) (T := TX10) (N := 30) rfl (jb rfl) inX10 tyX10 tyX10_ok nmX10 (j := 10) (jb rfl) rfl tw_930 rfl (tyX10_ok 10 (jb rfl)) dX10_item_54 (fun M16 => ?_)
  refine j_iconst (pc := 57) (v := (1 : Int32)) hX dX10_item_57 ci_1 ?_
  exact j_zret (pc := 58) hX rfl dX10_item_58
def pX10_item_37 (fu : Nat) (s0 : Int32) (M : Mem)  : Res :=
  if (M 0 26) = 0 then (
    pX10_item_54 fu  s0 M )
  else
  pX10_item_54 fu  (M 0 10) M 
set_option maxRecDepth 100000 in
theorem wX10_item_37 {E : jE} {X : jC} (hX : jOk X uX10_item (gM E)) (fu : Nat)  (s0 : Int32) (M : Mem)   : J X uX10_item (gM E) 37 [(0, .ref (gad (gM E) 0))] [.int s0] M (pX10_item_37 fu  s0 M ) := by
  unfold pX10_item_37
  refine j_istore_n (pc := 37) (lv' := [(3, .int s0), (0, .ref (gad (gM E) 0))]) hX dX10_item_37 rfl (jb rfl) rfl ?_
  refine j_aload_n (pc := 38) hX 1 dX10_item_38 rfl rfl ?_
  refine j_aload_n (pc := 39) hX 1 dX10_item_39 rfl rfl ?_
  refine j_getI (pc := 40) hX (jb rfl) rfl (ci := 9) (C := RX10) (T := TX10) (N := 30) rfl (jb rfl) inX10 (j := 26) (jb rfl) rfl tw_946 dX10_item_40 ?_
  refine j_if_eq (pc := 43) hX 53 dX10_item_43 (by decide) ?_ ?_
  · refine j_iload_n (pc := 53) hX 0 dX10_item_53 rfl rfl ?_
    exact j_sub [] rfl (wX10_item_54 hX fu   s0 M  )
  · refine j_aload_n (pc := 46) hX 1 dX10_item_46 rfl rfl ?_
    refine j_getI (pc := 47) hX (jb rfl) rfl (ci := 9) (C := RX10) (T := TX10) (N := 30) rfl (jb rfl) inX10 (j := 10) (jb rfl) rfl tw_930 dX10_item_47 ?_
    refine j_goto (pc := 50) hX 54 dX10_item_50 (by decide) ?_
    exact j_sub [] rfl (wX10_item_54 hX fu   (M 0 10) M  )
def pX10_item_16 (fu : Nat) (s0 : Int32) (M : Mem)  : Res :=
  fpz M 0 26 s0 fun M13 =>
  if (M13 0 26) = 0 then (
    bI (pX10_number fu (1 : Int32) (8 : Int32) M13) fun r15 M14 =>
    pX10_item_37 fu  r15 M14 )
  else
  pX10_item_37 fu  (0 : Int32) M13 
set_option maxRecDepth 100000 in
theorem wX10_item_16 {E : jE} {X : jC} (hX : jOk X uX10_item (gM E)) (fu : Nat)  (s0 : Int32) (M : Mem)   : J X uX10_item (gM E) 16 [(0, .ref (gad (gM E) 0))] [.int s0, .ref (gad (gM E) 0)] M (pX10_item_16 fu  s0 M ) := by
  unfold pX10_item_16
  refine j_putZ (pc := 16) hX (jb rfl) rfl (ci := 9) (C := RX10) (T := TX10) (N := 30) rfl (jb rfl) inX10 tyX10 tyX10_ok nmX10 (j := 26) (jb rfl) rfl tw_946 rfl (tyX10_ok 26 (jb rfl)) dX10_item_16 (fun M13 => ?_)
  refine j_aload_n (pc := 19) hX 0 dX10_item_19 rfl rfl ?_
  refine j_getI (pc := 20) hX (jb rfl) rfl (ci := 9) (C := RX10) (T := TX10) (N := 30) rfl (jb rfl) inX10 (j := 26) (jb rfl) rfl tw_946 dX10_item_20 ?_
  refine j_if_eq (pc := 23) hX 30 dX10_item_23 (by decide) ?_ ?_
  · refine j_aload_n (pc := 30) hX 0 dX10_item_30 rfl rfl ?_
    refine j_iconst (pc := 31) (v := (1 : Int32)) hX dX10_item_31 ci_1 ?_
    refine j_bipush (pc := 32) (v := (8 : Int32)) hX dX10_item_32 cb_8 ?_
    refine j_callV (pc := 34) hX [.int (1 : Int32), .int (8 : Int32)] (mX10_number _ E hX.2.2.2.2.2.2.2.2.1 fu   (1 : Int32) (8 : Int32) M13) qX10_number tw_1040 (jb rfl) rfl (ci := 9) (T := TX10) (N := 30) rfl (jb rfl) rfl ⟨rfl, rfl⟩ ⟨(Nat.le_of_ble_eq_true rfl), (Nat.le_of_ble_eq_true rfl)⟩ (Nat.le_of_ble_eq_true rfl) dX10_item_34 (fun _ => rfl) rfl (fun r15 M14 => ?_)
    exact j_sub [0] rfl (wX10_item_37 hX fu   r15 M14  )
  · refine j_iconst (pc := 26) (v := (0 : Int32)) hX dX10_item_26 ci_0 ?_
    refine j_goto (pc := 27) hX 37 dX10_item_27 (by decide) ?_
    exact j_sub [0] rfl (wX10_item_37 hX fu   (0 : Int32) M13  )
def pX10_item (fu : Nat) (x1 : Int32) (x2 : Int32) (M : Mem) : Res :=
  if x1 = (110 : Int32) then (
    if x2 = 0 then (
      pX10_item_16 fu  (1 : Int32) M )
    else
    pX10_item_16 fu  (0 : Int32) M )
  else
  if x1 = (119 : Int32) then (
    bV (pX10_wayItem fu  M) fun M12 =>
    rtz (0 : Int32) M12)
  else
  if x1 = (100 : Int32) then (
    bV (pX10_doorItem fu  M) fun M11 =>
    rtz (0 : Int32) M11)
  else
  if x1 = (98 : Int32) then (
    bV (pX10_beastItem fu  M) fun M10 =>
    rtz (0 : Int32) M10)
  else
  if x1 = (99 : Int32) then (
    bI (pX10_number fu (0 : Int32) ((M 0 10) - (1 : Int32)) M) fun r6 M5 =>
    bI (pX10_more fu (0 : Int32) (9 : Int32) M5) fun r8 M7 =>
    if (M7 0 26) = 0 then (
      pX10_item_147 fu  r8 ((759 : Int32) + r6) M7 )
    else
    pX10_item_147 fu  (0 : Int32) ((759 : Int32) + r6) M7 )
  else
  if x1 = (109 : Int32) then (
    bI (pX10_number fu (0 : Int32) ((M 0 10) - (1 : Int32)) M) fun r3 M2 =>
    if (M2 0 26) = 0 then (
      pX10_item_188 fu  ((1 : Int32) <<< (r3 &&& 31)) (M2 0 12) M2 )
    else
    pX10_item_188 fu  (0 : Int32) (M2 0 12) M2 )
  else
  fpz M 0 26 (1 : Int32) fun M1 =>
  rtz (0 : Int32) M1
set_option maxRecDepth 100000 in
theorem wX10_item {E : jE} {X : jC} (hX : jOk X uX10_item (gM E)) (fu : Nat)  (x1 : Int32) (x2 : Int32) (M : Mem) : J X uX10_item (gM E) 0 [(0, .ref (gad (gM E) 0)), (1, .int x1), (2, .int x2)] [] M (pX10_item fu  x1 x2 M) := by
  unfold pX10_item
  refine j_iload_n (pc := 0) hX 1 dX10_item_0 rfl rfl ?_
  refine j_bipush (pc := 1) (v := (110 : Int32)) hX dX10_item_1 cb_110 ?_
  refine j_icmp_ne (pc := 3) hX 59 dX10_item_3 (by decide) ?_ ?_
  · refine j_iload_n (pc := 59) hX 1 dX10_item_59 rfl rfl ?_
    refine j_bipush (pc := 60) (v := (119 : Int32)) hX dX10_item_60 cb_119 ?_
    refine j_icmp_ne (pc := 62) hX 72 dX10_item_62 (by decide) ?_ ?_
    · refine j_iload_n (pc := 72) hX 1 dX10_item_72 rfl rfl ?_
      refine j_bipush (pc := 73) (v := (100 : Int32)) hX dX10_item_73 cb_100 ?_
      refine j_icmp_ne (pc := 75) hX 85 dX10_item_75 (by decide) ?_ ?_
      · refine j_iload_n (pc := 85) hX 1 dX10_item_85 rfl rfl ?_
        refine j_bipush (pc := 86) (v := (98 : Int32)) hX dX10_item_86 cb_98 ?_
        refine j_icmp_ne (pc := 88) hX 98 dX10_item_88 (by decide) ?_ ?_
        · refine j_iload_n (pc := 98) hX 1 dX10_item_98 rfl rfl ?_
          refine j_bipush (pc := 99) (v := (99 : Int32)) hX dX10_item_99 cb_99 ?_
          refine j_icmp_ne (pc := 101) hX 151 dX10_item_101 (by decide) ?_ ?_
          · refine j_iload_n (pc := 151) hX 1 dX10_item_151 rfl rfl ?_
            refine j_bipush (pc := 152) (v := (109 : Int32)) hX dX10_item_152 cb_109 ?_
            refine j_icmp_ne (pc := 154) hX 195 dX10_item_154 (by decide) ?_ ?_
            · refine j_aload_n (pc := 195) hX 0 dX10_item_195 rfl rfl ?_
              refine j_iconst (pc := 196) (v := (1 : Int32)) hX dX10_item_196 ci_1 ?_
              refine j_putZ (pc := 197) hX (jb rfl) rfl (ci := 9) (C := RX10) (T := TX10) (N := 30) rfl (jb rfl) inX10 tyX10 tyX10_ok nmX10 (j := 26) (jb rfl) rfl tw_946 rfl (tyX10_ok 26 (jb rfl)) dX10_item_197 (fun M1 => ?_)
              refine j_iconst (pc := 200) (v := (0 : Int32)) hX dX10_item_200 ci_0 ?_
              exact j_zret (pc := 201) hX rfl dX10_item_201
            · refine j_aload_n (pc := 157) hX 0 dX10_item_157 rfl rfl ?_
              refine j_iconst (pc := 158) (v := (0 : Int32)) hX dX10_item_158 ci_0 ?_
              refine j_aload_n (pc := 159) hX 0 dX10_item_159 rfl rfl ?_
              refine j_getI (pc := 160) hX (jb rfl) rfl (ci := 9) (C := RX10) (T := TX10) (N := 30) rfl (jb rfl) inX10 (j := 10) (jb rfl) rfl tw_930 dX10_item_160 ?_
              refine j_iconst (pc := 163) (v := (1 : Int32)) hX dX10_item_163 ci_1 ?_
              refine j_isub (pc := 164) hX dX10_item_164 ?_
              refine j_callV (pc := 165) hX [.int (0 : Int32), .int ((M 0 10) - (1 : Int32))] (mX10_number _ E hX.2.2.2.2.2.2.2.2.1 fu   (0 : Int32) ((M 0 10) - (1 : Int32)) M) qX10_number tw_1040 (jb rfl) rfl (ci := 9) (T := TX10) (N := 30) rfl (jb rfl) rfl ⟨rfl, rfl⟩ ⟨(Nat.le_of_ble_eq_true rfl), (Nat.le_of_ble_eq_true rfl)⟩ (Nat.le_of_ble_eq_true rfl) dX10_item_165 (fun _ => rfl) rfl (fun r3 M2 => ?_)
              refine j_istore_n (pc := 168) (lv' := [(3, .int r3), (0, .ref (gad (gM E) 0)), (1, .int x1), (2, .int x2)]) hX dX10_item_168 rfl (jb rfl) rfl ?_
              refine j_aload_n (pc := 169) hX 1 dX10_item_169 rfl rfl ?_
              refine j_dup (pc := 170) hX dX10_item_170 rfl ?_
              refine j_getI (pc := 171) hX (jb rfl) rfl (ci := 9) (C := RX10) (T := TX10) (N := 30) rfl (jb rfl) inX10 (j := 12) (jb rfl) rfl tw_932 dX10_item_171 ?_
              refine j_aload_n (pc := 174) hX 1 dX10_item_174 rfl rfl ?_
              refine j_getI (pc := 175) hX (jb rfl) rfl (ci := 9) (C := RX10) (T := TX10) (N := 30) rfl (jb rfl) inX10 (j := 26) (jb rfl) rfl tw_946 dX10_item_175 ?_
              refine j_if_eq (pc := 178) hX 185 dX10_item_178 (by decide) ?_ ?_
              · refine j_iconst (pc := 185) (v := (1 : Int32)) hX dX10_item_185 ci_1 ?_
                refine j_iload_n (pc := 186) hX 0 dX10_item_186 rfl rfl ?_
                refine j_ishl (pc := 187) hX dX10_item_187 ?_
                exact j_sub [] rfl (wX10_item_188 hX fu   ((1 : Int32) <<< (r3 &&& 31)) (M2 0 12) M2  )
              · refine j_iconst (pc := 181) (v := (0 : Int32)) hX dX10_item_181 ci_0 ?_
                refine j_goto (pc := 182) hX 188 dX10_item_182 (by decide) ?_
                exact j_sub [] rfl (wX10_item_188 hX fu   (0 : Int32) (M2 0 12) M2  )
          · refine j_aload_n (pc := 104) hX 0 dX10_item_104 rfl rfl ?_
            refine j_iconst (pc := 105) (v := (0 : Int32)) hX dX10_item_105 ci_0 ?_
            refine j_aload_n (pc := 106) hX 0 dX10_item_106 rfl rfl ?_
            refine j_getI (pc := 107) hX (jb rfl) rfl (ci := 9) (C := RX10) (T := TX10) (N := 30) rfl (jb rfl) inX10 (j := 10) (jb rfl) rfl tw_930 dX10_item_107 ?_
            refine j_iconst (pc := 110) (v := (1 : Int32)) hX dX10_item_110 ci_1 ?_
            refine j_isub (pc := 111) hX dX10_item_111 ?_
            refine j_callV (pc := 112) hX [.int (0 : Int32), .int ((M 0 10) - (1 : Int32))] (mX10_number _ E hX.2.2.2.2.2.2.2.2.1 fu   (0 : Int32) ((M 0 10) - (1 : Int32)) M) qX10_number tw_1040 (jb rfl) rfl (ci := 9) (T := TX10) (N := 30) rfl (jb rfl) rfl ⟨rfl, rfl⟩ ⟨(Nat.le_of_ble_eq_true rfl), (Nat.le_of_ble_eq_true rfl)⟩ (Nat.le_of_ble_eq_true rfl) dX10_item_112 (fun _ => rfl) rfl (fun r6 M5 => ?_)
            refine j_istore_n (pc := 115) (lv' := [(3, .int r6), (0, .ref (gad (gM E) 0)), (1, .int x1), (2, .int x2)]) hX dX10_item_115 rfl (jb rfl) rfl ?_
            refine j_aload_n (pc := 116) hX 1 dX10_item_116 rfl rfl ?_
            refine j_iconst (pc := 117) (v := (0 : Int32)) hX dX10_item_117 ci_0 ?_
            refine j_bipush (pc := 118) (v := (9 : Int32)) hX dX10_item_118 cb_9 ?_
            refine j_callV (pc := 120) hX [.int (0 : Int32), .int (9 : Int32)] (mX10_more _ E hX.2.2.2.2.2.2.2.2.1 fu   (0 : Int32) (9 : Int32) M5) qX10_more tw_1050 (jb rfl) rfl (ci := 9) (T := TX10) (N := 30) rfl (jb rfl) rfl ⟨rfl, rfl⟩ ⟨(Nat.le_of_ble_eq_true rfl), (Nat.le_of_ble_eq_true rfl)⟩ (Nat.le_of_ble_eq_true rfl) dX10_item_120 (fun _ => rfl) rfl (fun r8 M7 => ?_)
            refine j_istore (pc := 123) (lv' := [(4, .int r8), (3, .int r6), (0, .ref (gad (gM E) 0)), (1, .int x1), (2, .int x2)]) hX dX10_item_123 (jb rfl) rfl ?_
            refine j_aload_n (pc := 125) hX 2 dX10_item_125 rfl rfl ?_
            refine j_getR (pc := 126) (t := 12) hX (jb rfl) rfl (ci := 9) (C := RX10) (T := TX10) (N := 30) rfl (jb rfl) inX10 (j := 19) (jb rfl) rfl tw_939 dX10_item_126 ?_
            refine j_sipush (pc := 129) (v := (759 : Int32)) hX dX10_item_129 cs_759 ?_
            refine j_iload_n (pc := 132) hX 1 dX10_item_132 rfl rfl ?_
            refine j_iadd (pc := 133) hX dX10_item_133 ?_
            refine j_aload_n (pc := 134) hX 2 dX10_item_134 rfl rfl ?_
            refine j_getI (pc := 135) hX (jb rfl) rfl (ci := 9) (C := RX10) (T := TX10) (N := 30) rfl (jb rfl) inX10 (j := 26) (jb rfl) rfl tw_946 dX10_item_135 ?_
            refine j_if_eq (pc := 138) hX 145 dX10_item_138 (by decide) ?_ ?_
            · refine j_iload (pc := 145) hX 0 dX10_item_145 rfl ?_
              exact j_sub [] rfl (wX10_item_147 hX fu   r8 ((759 : Int32) + r6) M7  )
            · refine j_iconst (pc := 141) (v := (0 : Int32)) hX dX10_item_141 ci_0 ?_
              refine j_goto (pc := 142) hX 147 dX10_item_142 (by decide) ?_
              exact j_sub [] rfl (wX10_item_147 hX fu   (0 : Int32) ((759 : Int32) + r6) M7  )
        · refine j_aload_n (pc := 91) hX 0 dX10_item_91 rfl rfl ?_
          refine j_callVv (pc := 92) hX [] (mX10_beastItem _ E hX.2.2.2.2.2.2.2.2.1 fu    M) qX10_beastItem tw_1058 (jb rfl) rfl (ci := 9) (T := TX10) (N := 30) rfl (jb rfl) rfl ⟨rfl, rfl⟩ ⟨(Nat.le_of_ble_eq_true rfl), (Nat.le_of_ble_eq_true rfl)⟩ (Nat.le_of_ble_eq_true rfl) dX10_item_92 rfl (fun M10 => ?_)
          refine j_goto (pc := 95) hX 200 dX10_item_95 (by decide) ?_
          refine j_iconst (pc := 200) (v := (0 : Int32)) hX dX10_item_200 ci_0 ?_
          exact j_zret (pc := 201) hX rfl dX10_item_201
      · refine j_aload_n (pc := 78) hX 0 dX10_item_78 rfl rfl ?_
        refine j_callVv (pc := 79) hX [] (mX10_doorItem _ E hX.2.2.2.2.2.2.2.2.1 fu    M) qX10_doorItem tw_1054 (jb rfl) rfl (ci := 9) (T := TX10) (N := 30) rfl (jb rfl) rfl ⟨rfl, rfl⟩ ⟨(Nat.le_of_ble_eq_true rfl), (Nat.le_of_ble_eq_true rfl)⟩ (Nat.le_of_ble_eq_true rfl) dX10_item_79 rfl (fun M11 => ?_)
        refine j_goto (pc := 82) hX 200 dX10_item_82 (by decide) ?_
        refine j_iconst (pc := 200) (v := (0 : Int32)) hX dX10_item_200 ci_0 ?_
        exact j_zret (pc := 201) hX rfl dX10_item_201
    · refine j_aload_n (pc := 65) hX 0 dX10_item_65 rfl rfl ?_
      refine j_callVv (pc := 66) hX [] (mX10_wayItem _ E hX.2.2.2.2.2.2.2.2.1 fu    M) qX10_wayItem tw_1046 (jb rfl) rfl (ci := 9) (T := TX10) (N := 30) rfl (jb rfl) rfl ⟨rfl, rfl⟩ ⟨(Nat.le_of_ble_eq_true rfl), (Nat.le_of_ble_eq_true rfl)⟩ (Nat.le_of_ble_eq_true rfl) dX10_item_66 rfl (fun M12 => ?_)
      refine j_goto (pc := 69) hX 200 dX10_item_69 (by decide) ?_
      refine j_iconst (pc := 200) (v := (0 : Int32)) hX dX10_item_200 ci_0 ?_
      exact j_zret (pc := 201) hX rfl dX10_item_201
  · refine j_aload_n (pc := 6) hX 0 dX10_item_6 rfl rfl ?_
    refine j_iload_n (pc := 7) hX 2 dX10_item_7 rfl rfl ?_
    refine j_if_ne (pc := 8) hX 15 dX10_item_8 (by decide) ?_ ?_
    · refine j_iconst (pc := 15) (v := (0 : Int32)) hX dX10_item_15 ci_0 ?_
      exact j_sub [0] rfl (wX10_item_16 hX fu   (0 : Int32) M  )
    · refine j_iconst (pc := 11) (v := (1 : Int32)) hX dX10_item_11 ci_1 ?_
      refine j_goto (pc := 12) hX 16 dX10_item_12 (by decide) ?_
      exact j_sub [0] rfl (wX10_item_16 hX fu   (1 : Int32) M  )
theorem mX10_item (l : Launch) (E : jE) (hI : jInj (gM E)) (fu : Nat)  (x1 : Int32) (x2 : Int32) (M : Mem) : jMet l (gM E) yX10_item cX10_item 5 (some .boolean) rX10_item [.ref (gad (gM E) 0), .int x1, .int x2] M (pX10_item fu  x1 x2 M) :=
  j_entry hI (by decide +kernel) (Nat.le_of_ble_eq_true rfl) rfl (fun X _ hX => wX10_item hX fu   x1 x2 M)
theorem qX10_reads : jYv yX10_reads cX10_reads 3 (some .boolean) 0 := ⟨tw_1030, tw_23, tw_72, tw_1031, ⟨by decide +kernel, by decide +kernel, by decide +kernel⟩⟩
abbrev rX10_reads : Room := { frames := 5, cells := 0, slots := 0, locals := 118 }
def uX10_reads : jM := (cX10_reads, 3, RX10, (some .boolean), rX10_reads)
def pX10_reads_98 (fu : Nat) (x1 : Int32) (s0 : Int32) (M : Mem) (c16 : Int32 → Mem → Res) : Res :=
  fpz M 0 26 s0 fun M10 =>
  fpt M10 0 24 ((M10 0 24) + (1 : Int32)) fun M11 =>
  c16 x1 M11
set_option maxRecDepth 100000 in
theorem wX10_reads_98 {E : jE} {X : jC} (hX : jOk X uX10_reads (gM E)) (fu : Nat)  (x1 : Int32) (s0 : Int32) (M : Mem) (c16 : Int32 → Mem → Res) (hc16 : ∀ (x1 : Int32) (M : Mem), J X uX10_reads (gM E) 16 [(0, .ref (gad (gM E) 0)), (1, .int x1)] [] M (c16 x1 M)) : J X uX10_reads (gM E) 98 [(0, .ref (gad (gM E) 0)), (1, .int x1)] [.int s0, .ref (gad (gM E) 0)] M (pX10_reads_98 fu  x1 s0 M c16) := by
  unfold pX10_reads_98
  refine j_putZ (pc := 98) hX (jb rfl) rfl (ci := 9) (C := RX10) (T := TX10) (N := 30) rfl (jb rfl) inX10 tyX10 tyX10_ok nmX10 (j := 26) (jb rfl) rfl tw_946 rfl (tyX10_ok 26 (jb rfl)) dX10_reads_98 (fun M10 => ?_)
  refine j_aload_n (pc := 101) hX 0 dX10_reads_101 rfl rfl ?_
  refine j_dup (pc := 102) hX dX10_reads_102 rfl ?_
  refine j_getI (pc := 103) hX (jb rfl) rfl (ci := 9) (C := RX10) (T := TX10) (N := 30) rfl (jb rfl) inX10 (j := 24) (jb rfl) rfl tw_944 dX10_reads_103 ?_
  refine j_iconst (pc := 106) (v := (1 : Int32)) hX dX10_reads_106 ci_1 ?_
  refine j_iadd (pc := 107) hX dX10_reads_107 ?_
  refine j_putI (pc := 108) hX (jb rfl) rfl (ci := 9) (C := RX10) (T := TX10) (N := 30) rfl (jb rfl) inX10 tyX10 tyX10_ok nmX10 (j := 24) (jb rfl) rfl tw_944 rfl (tyX10_ok 24 (jb rfl)) dX10_reads_108 (fun M11 => ?_)
  refine j_goto (pc := 111) hX 16 dX10_reads_111 (by decide) ?_
  exact j_sub [0, 1] rfl (hc16 x1 M11)
def pX10_reads_93 (fu : Nat) (x1 : Int32) (M : Mem) (c16 : Int32 → Mem → Res) : Res :=
  pX10_reads_98 fu  x1 (1 : Int32) M c16
set_option maxRecDepth 100000 in
theorem wX10_reads_93 {E : jE} {X : jC} (hX : jOk X uX10_reads (gM E)) (fu : Nat)  (x1 : Int32) (M : Mem) (c16 : Int32 → Mem → Res) (hc16 : ∀ (x1 : Int32) (M : Mem), J X uX10_reads (gM E) 16 [(0, .ref (gad (gM E) 0)), (1, .int x1)] [] M (c16 x1 M)) : J X uX10_reads (gM E) 93 [(0, .ref (gad (gM E) 0)), (1, .int x1)] [.ref (gad (gM E) 0)] M (pX10_reads_93 fu  x1 M c16) := by
  unfold pX10_reads_93
  refine j_iconst (pc := 93) (v := (1 : Int32)) hX dX10_reads_93 ci_1 ?_
  refine j_goto (pc := 94) hX 98 dX10_reads_94 (by decide) ?_
  exact j_sub [0, 1] rfl (wX10_reads_98 hX fu   x1 (1 : Int32) M c16 hc16)
def pX10_reads_75 (fu : Nat) (s0 : Int32) (M : Mem) (c16 : Int32 → Mem → Res) : Res :=
  if (M 0 26) = 0 then (
    bI (pX10_byteNow fu  M) fun r13 M12 =>
    if r13 = (59 : Int32) then (
      pX10_reads_98 fu  s0 (0 : Int32) M12 c16)
    else
    pX10_reads_93 fu  s0 M12 c16)
  else
  pX10_reads_93 fu  s0 M c16
set_option maxRecDepth 100000 in
theorem wX10_reads_75 {E : jE} {X : jC} (hX : jOk X uX10_reads (gM E)) (fu : Nat)  (s0 : Int32) (M : Mem) (c16 : Int32 → Mem → Res) (hc16 : ∀ (x1 : Int32) (M : Mem), J X uX10_reads (gM E) 16 [(0, .ref (gad (gM E) 0)), (1, .int x1)] [] M (c16 x1 M)) : J X uX10_reads (gM E) 75 [(0, .ref (gad (gM E) 0))] [.int s0] M (pX10_reads_75 fu  s0 M c16) := by
  unfold pX10_reads_75
  refine j_istore_n (pc := 75) (lv' := [(1, .int s0), (0, .ref (gad (gM E) 0))]) hX dX10_reads_75 rfl (jb rfl) rfl ?_
  refine j_aload_n (pc := 76) hX 1 dX10_reads_76 rfl rfl ?_
  refine j_aload_n (pc := 77) hX 1 dX10_reads_77 rfl rfl ?_
  refine j_getI (pc := 78) hX (jb rfl) rfl (ci := 9) (C := RX10) (T := TX10) (N := 30) rfl (jb rfl) inX10 (j := 26) (jb rfl) rfl tw_946 dX10_reads_78 ?_
  refine j_if_ne (pc := 81) hX 93 dX10_reads_81 (by decide) ?_ ?_
  · exact j_sub [1, 0] rfl (wX10_reads_93 hX fu   s0 M c16 hc16)
  · refine j_aload_n (pc := 84) hX 1 dX10_reads_84 rfl rfl ?_
    refine j_callV (pc := 85) hX [] (mX10_byteNow _ E hX.2.2.2.2.2.2.2.2.1 fu    M) qX10_byteNow tw_1032 (jb rfl) rfl (ci := 9) (T := TX10) (N := 30) rfl (jb rfl) rfl ⟨rfl, rfl⟩ ⟨(Nat.le_of_ble_eq_true rfl), (Nat.le_of_ble_eq_true rfl)⟩ (Nat.le_of_ble_eq_true rfl) dX10_reads_85 (fun _ => rfl) rfl (fun r13 M12 => ?_)
    refine j_bipush (pc := 88) (v := (59 : Int32)) hX dX10_reads_88 cb_59 ?_
    refine j_icmp_eq (pc := 90) hX 97 dX10_reads_90 (by decide) ?_ ?_
    · refine j_iconst (pc := 97) (v := (0 : Int32)) hX dX10_reads_97 ci_0 ?_
      exact j_sub [1, 0] rfl (wX10_reads_98 hX fu   s0 (0 : Int32) M12 c16 hc16)
    · exact j_sub [1, 0] rfl (wX10_reads_93 hX fu   s0 M12 c16 hc16)
def pX10_reads_74 (fu : Nat)  (M : Mem) (c16 : Int32 → Mem → Res) : Res :=
  pX10_reads_75 fu  (0 : Int32) M c16
set_option maxRecDepth 100000 in
theorem wX10_reads_74 {E : jE} {X : jC} (hX : jOk X uX10_reads (gM E)) (fu : Nat)   (M : Mem) (c16 : Int32 → Mem → Res) (hc16 : ∀ (x1 : Int32) (M : Mem), J X uX10_reads (gM E) 16 [(0, .ref (gad (gM E) 0)), (1, .int x1)] [] M (c16 x1 M)) : J X uX10_reads (gM E) 74 [(0, .ref (gad (gM E) 0))] [] M (pX10_reads_74 fu   M c16) := by
  unfold pX10_reads_74
  refine j_iconst (pc := 74) (v := (0 : Int32)) hX dX10_reads_74 ci_0 ?_
  exact j_sub [0] rfl (wX10_reads_75 hX fu   (0 : Int32) M c16 hc16)
def pX10_reads_16b (fu : Nat) (x1 : Int32) (M : Mem) (c16 : Int32 → Mem → Res) (c114 : Mem → Res) : Res :=
  if (M 0 22) ≤ (M 0 24) then (
    c114 M)
  else
  if (M 0 26) = 0 then (
    fpt M 0 25 (M 0 24) fun M4 =>
    bI (pX10_byteNow fu  M4) fun r6 M5 =>
    fpt M5 0 24 ((M5 0 24) + (1 : Int32)) fun M7 =>
    bI (pX10_item fu r6 x1 M7) fun r9 M8 =>
    if r9 = 0 then (
      pX10_reads_74 fu   M8 c16)
    else
    if x1 = 0 then (
      pX10_reads_74 fu   M8 c16)
    else
    pX10_reads_75 fu  (1 : Int32) M8 c16)
  else
  c114 M
set_option maxRecDepth 100000 in
theorem wX10_reads_16b {E : jE} {X : jC} (hX : jOk X uX10_reads (gM E)) (fu : Nat)  (x1 : Int32) (M : Mem) (c16 : Int32 → Mem → Res) (c114 : Mem → Res) (hc16 : ∀ (x1 : Int32) (M : Mem), J X uX10_reads (gM E) 16 [(0, .ref (gad (gM E) 0)), (1, .int x1)] [] M (c16 x1 M)) (hc114 : ∀  (M : Mem), J X uX10_reads (gM E) 114 [(0, .ref (gad (gM E) 0))] [] M (c114  M)) : J X uX10_reads (gM E) 16 [(0, .ref (gad (gM E) 0)), (1, .int x1)] [] M (pX10_reads_16b fu  x1 M c16 c114) := by
  unfold pX10_reads_16b
  refine j_aload_n (pc := 16) hX 0 dX10_reads_16 rfl rfl ?_
  refine j_getI (pc := 17) hX (jb rfl) rfl (ci := 9) (C := RX10) (T := TX10) (N := 30) rfl (jb rfl) inX10 (j := 24) (jb rfl) rfl tw_944 dX10_reads_17 ?_
  refine j_aload_n (pc := 20) hX 0 dX10_reads_20 rfl rfl ?_
  refine j_getI (pc := 21) hX (jb rfl) rfl (ci := 9) (C := RX10) (T := TX10) (N := 30) rfl (jb rfl) inX10 (j := 22) (jb rfl) rfl tw_942 dX10_reads_21 ?_
  refine j_icmp_ge (pc := 24) hX 114 dX10_reads_24 (by decide) ?_ ?_
  · exact j_sub [0] rfl (hc114  M)
  · refine j_aload_n (pc := 27) hX 0 dX10_reads_27 rfl rfl ?_
    refine j_getI (pc := 28) hX (jb rfl) rfl (ci := 9) (C := RX10) (T := TX10) (N := 30) rfl (jb rfl) inX10 (j := 26) (jb rfl) rfl tw_946 dX10_reads_28 ?_
    refine j_if_ne (pc := 31) hX 114 dX10_reads_31 (by decide) ?_ ?_
    · exact j_sub [0] rfl (hc114  M)
    · refine j_aload_n (pc := 34) hX 0 dX10_reads_34 rfl rfl ?_
      refine j_aload_n (pc := 35) hX 0 dX10_reads_35 rfl rfl ?_
      refine j_getI (pc := 36) hX (jb rfl) rfl (ci := 9) (C := RX10) (T := TX10) (N := 30) rfl (jb rfl) inX10 (j := 24) (jb rfl) rfl tw_944 dX10_reads_36 ?_
      refine j_putI (pc := 39) hX (jb rfl) rfl (ci := 9) (C := RX10) (T := TX10) (N := 30) rfl (jb rfl) inX10 tyX10 tyX10_ok nmX10 (j := 25) (jb rfl) rfl tw_945 rfl (tyX10_ok 25 (jb rfl)) dX10_reads_39 (fun M4 => ?_)
      refine j_aload_n (pc := 42) hX 0 dX10_reads_42 rfl rfl ?_
      refine j_callV (pc := 43) hX [] (mX10_byteNow _ E hX.2.2.2.2.2.2.2.2.1 fu    M4) qX10_byteNow tw_1032 (jb rfl) rfl (ci := 9) (T := TX10) (N := 30) rfl (jb rfl) rfl ⟨rfl, rfl⟩ ⟨(Nat.le_of_ble_eq_true rfl), (Nat.le_of_ble_eq_true rfl)⟩ (Nat.le_of_ble_eq_true rfl) dX10_reads_43 (fun _ => rfl) rfl (fun r6 M5 => ?_)
      refine j_istore_n (pc := 46) (lv' := [(2, .int r6), (0, .ref (gad (gM E) 0)), (1, .int x1)]) hX dX10_reads_46 rfl (jb rfl) rfl ?_
      refine j_aload_n (pc := 47) hX 1 dX10_reads_47 rfl rfl ?_
      refine j_dup (pc := 48) hX dX10_reads_48 rfl ?_
      refine j_getI (pc := 49) hX (jb rfl) rfl (ci := 9) (C := RX10) (T := TX10) (N := 30) rfl (jb rfl) inX10 (j := 24) (jb rfl) rfl tw_944 dX10_reads_49 ?_
      refine j_iconst (pc := 52) (v := (1 : Int32)) hX dX10_reads_52 ci_1 ?_
      refine j_iadd (pc := 53) hX dX10_reads_53 ?_
      refine j_putI (pc := 54) hX (jb rfl) rfl (ci := 9) (C := RX10) (T := TX10) (N := 30) rfl (jb rfl) inX10 tyX10 tyX10_ok nmX10 (j := 24) (jb rfl) rfl tw_944 rfl (tyX10_ok 24 (jb rfl)) dX10_reads_54 (fun M7 => ?_)
      refine j_aload_n (pc := 57) hX 1 dX10_reads_57 rfl rfl ?_
      refine j_iload_n (pc := 58) hX 0 dX10_reads_58 rfl rfl ?_
      refine j_iload_n (pc := 59) hX 2 dX10_reads_59 rfl rfl ?_
      refine j_callV (pc := 60) hX [.int r6, .int x1] (mX10_item _ E hX.2.2.2.2.2.2.2.2.1 fu   r6 x1 M7) qX10_item tw_1036 (jb rfl) rfl (ci := 9) (T := TX10) (N := 30) rfl (jb rfl) rfl ⟨rfl, rfl⟩ ⟨(Nat.le_of_ble_eq_true rfl), (Nat.le_of_ble_eq_true rfl)⟩ (Nat.le_of_ble_eq_true rfl) dX10_reads_60 (fun _ => rfl) rfl (fun r9 M8 => ?_)
      refine j_if_eq (pc := 63) hX 74 dX10_reads_63 (by decide) ?_ ?_
      · exact j_sub [1] rfl (wX10_reads_74 hX fu    M8 c16 hc16)
      · refine j_iload_n (pc := 66) hX 2 dX10_reads_66 rfl rfl ?_
        refine j_if_eq (pc := 67) hX 74 dX10_reads_67 (by decide) ?_ ?_
        · exact j_sub [1] rfl (wX10_reads_74 hX fu    M8 c16 hc16)
        · refine j_iconst (pc := 70) (v := (1 : Int32)) hX dX10_reads_70 ci_1 ?_
          refine j_goto (pc := 71) hX 75 dX10_reads_71 (by decide) ?_
          exact j_sub [1] rfl (wX10_reads_75 hX fu   (1 : Int32) M8 c16 hc16)
def pX10_reads_16 (fu : Nat) (c114 : Mem → Res) : Nat → Int32 → Mem → Res
  | 0, _, _ => none
  | n + 1, x1, M => pX10_reads_16b fu  x1 M (pX10_reads_16 fu  c114 n) c114
theorem wX10_reads_16 {E : jE} {X : jC} (hX : jOk X uX10_reads (gM E)) (fu : Nat)  (c114 : Mem → Res) (hc114 : ∀  (M : Mem), J X uX10_reads (gM E) 114 [(0, .ref (gad (gM E) 0))] [] M (c114  M)) : ∀ (n : Nat) (x1 : Int32) (M : Mem), J X uX10_reads (gM E) 16 [(0, .ref (gad (gM E) 0)), (1, .int x1)] [] M (pX10_reads_16 fu  c114 n x1 M) := by
  intro n
  induction n with
  | zero => intro x1 M; exact j_none
  | succ n ih => intro x1 M; exact wX10_reads_16b hX fu   x1 M (pX10_reads_16 fu  c114 n) c114 ih hc114
def pX10_reads_114 (fu : Nat)  (M : Mem)  : Res :=
  if (M 0 26) = 0 then (
    rtz (1 : Int32) M)
  else
  rtz (0 : Int32) M
set_option maxRecDepth 100000 in
theorem wX10_reads_114 {E : jE} {X : jC} (hX : jOk X uX10_reads (gM E)) (fu : Nat)   (M : Mem)   : J X uX10_reads (gM E) 114 [(0, .ref (gad (gM E) 0))] [] M (pX10_reads_114 fu   M ) := by
  unfold pX10_reads_114
  refine j_aload_n (pc := 114) hX 0 dX10_reads_114 rfl rfl ?_
  refine j_getI (pc := 115) hX (jb rfl) rfl (ci := 9) (C := RX10) (T := TX10) (N := 30) rfl (jb rfl) inX10 (j := 26) (jb rfl) rfl tw_946 dX10_reads_115 ?_
  refine j_if_ne (pc := 118) hX 125 dX10_reads_118 (by decide) ?_ ?_
  · refine j_iconst (pc := 125) (v := (0 : Int32)) hX dX10_reads_125 ci_0 ?_
    exact j_zret (pc := 126) hX rfl dX10_reads_126
  · refine j_iconst (pc := 121) (v := (1 : Int32)) hX dX10_reads_121 ci_1 ?_
    refine j_goto (pc := 122) hX 126 dX10_reads_122 (by decide) ?_
    exact j_zret (pc := 126) hX rfl dX10_reads_126
def pX10_reads (fu : Nat)  (M : Mem) : Res :=
  bV (pX10_clears fu  M) fun M1 =>
  fpt M1 0 24 (0 : Int32) fun M2 =>
  fpz M2 0 26 (0 : Int32) fun M3 =>
  pX10_reads_16 fu
    (fun  M14 =>
      pX10_reads_114 fu   M14 )
    fu (1 : Int32) M3
set_option maxRecDepth 100000 in
theorem wX10_reads {E : jE} {X : jC} (hX : jOk X uX10_reads (gM E)) (fu : Nat)   (M : Mem) : J X uX10_reads (gM E) 0 [(0, .ref (gad (gM E) 0))] [] M (pX10_reads fu   M) := by
  unfold pX10_reads
  refine j_aload_n (pc := 0) hX 0 dX10_reads_0 rfl rfl ?_
  refine j_callVv (pc := 1) hX [] (mX10_clears _ E hX.2.2.2.2.2.2.2.2.1 fu    M) qX10_clears tw_893 (jb rfl) rfl (ci := 9) (T := TX10) (N := 30) rfl (jb rfl) rfl ⟨rfl, rfl⟩ ⟨(Nat.le_of_ble_eq_true rfl), (Nat.le_of_ble_eq_true rfl)⟩ (Nat.le_of_ble_eq_true rfl) dX10_reads_1 rfl (fun M1 => ?_)
  refine j_aload_n (pc := 4) hX 0 dX10_reads_4 rfl rfl ?_
  refine j_iconst (pc := 5) (v := (0 : Int32)) hX dX10_reads_5 ci_0 ?_
  refine j_putI (pc := 6) hX (jb rfl) rfl (ci := 9) (C := RX10) (T := TX10) (N := 30) rfl (jb rfl) inX10 tyX10 tyX10_ok nmX10 (j := 24) (jb rfl) rfl tw_944 rfl (tyX10_ok 24 (jb rfl)) dX10_reads_6 (fun M2 => ?_)
  refine j_aload_n (pc := 9) hX 0 dX10_reads_9 rfl rfl ?_
  refine j_iconst (pc := 10) (v := (0 : Int32)) hX dX10_reads_10 ci_0 ?_
  refine j_putZ (pc := 11) hX (jb rfl) rfl (ci := 9) (C := RX10) (T := TX10) (N := 30) rfl (jb rfl) inX10 tyX10 tyX10_ok nmX10 (j := 26) (jb rfl) rfl tw_946 rfl (tyX10_ok 26 (jb rfl)) dX10_reads_11 (fun M3 => ?_)
  refine j_iconst (pc := 14) (v := (1 : Int32)) hX dX10_reads_14 ci_1 ?_
  refine j_istore_n (pc := 15) (lv' := [(1, .int (1 : Int32)), (0, .ref (gad (gM E) 0))]) hX dX10_reads_15 rfl (jb rfl) rfl ?_
  refine j_sub [1, 0] rfl (wX10_reads_16 hX fu   _ ?_ fu (1 : Int32) M3)
  · intro  M14
    exact j_sub [0] rfl (wX10_reads_114 hX fu    M14  )
theorem mX10_reads (l : Launch) (E : jE) (hI : jInj (gM E)) (fu : Nat)   (M : Mem) : jMet l (gM E) yX10_reads cX10_reads 3 (some .boolean) rX10_reads [.ref (gad (gM E) 0)] M (pX10_reads fu   M) :=
  j_entry hI (by decide +kernel) (Nat.le_of_ble_eq_true rfl) rfl (fun X _ hX => wX10_reads hX fu    M)
theorem qX10_fault : jYv yX10_fault cX10_fault 1 (some .int) 0 := ⟨tw_1025, tw_1026, tw_72, tw_1027, ⟨by decide +kernel, by decide +kernel, by decide +kernel⟩⟩
abbrev rX10_fault : Room := { frames := 6, cells := 0, slots := 0, locals := 140 }
def uX10_fault : jM := (cX10_fault, 1, RX10, (some .int), rX10_fault)
def pX10_fault (fu : Nat)  (M : Mem) : Res :=
  bI (pX10_reads fu  M) fun r2 M1 =>
  if r2 = 0 then (
    some ((M1 0 25), M1))
  else
  some ((-4 : Int32), M1)
set_option maxRecDepth 100000 in
theorem wX10_fault {E : jE} {X : jC} (hX : jOk X uX10_fault (gM E)) (fu : Nat)   (M : Mem) : J X uX10_fault (gM E) 0 [(0, .ref (gad (gM E) 0))] [] M (pX10_fault fu   M) := by
  unfold pX10_fault
  refine j_aload_n (pc := 0) hX 0 dX10_fault_0 rfl rfl ?_
  refine j_callV (pc := 1) hX [] (mX10_reads _ E hX.2.2.2.2.2.2.2.2.1 fu    M) qX10_reads tw_1028 (jb rfl) rfl (ci := 9) (T := TX10) (N := 30) rfl (jb rfl) rfl ⟨rfl, rfl⟩ ⟨(Nat.le_of_ble_eq_true rfl), (Nat.le_of_ble_eq_true rfl)⟩ (Nat.le_of_ble_eq_true rfl) dX10_fault_1 (fun _ => rfl) rfl (fun r2 M1 => ?_)
  refine j_if_eq (pc := 4) hX 12 dX10_fault_4 (by decide) ?_ ?_
  · refine j_aload_n (pc := 12) hX 0 dX10_fault_12 rfl rfl ?_
    refine j_getI (pc := 13) hX (jb rfl) rfl (ci := 9) (C := RX10) (T := TX10) (N := 30) rfl (jb rfl) inX10 (j := 25) (jb rfl) rfl tw_945 dX10_fault_13 ?_
    exact j_iret (pc := 16) hX rfl dX10_fault_16
  · refine j_bipush (pc := 7) (v := (-4 : Int32)) hX dX10_fault_7 cb_m4 ?_
    refine j_goto (pc := 9) hX 16 dX10_fault_9 (by decide) ?_
    exact j_iret (pc := 16) hX rfl dX10_fault_16
theorem mX10_fault (l : Launch) (E : jE) (hI : jInj (gM E)) (fu : Nat)   (M : Mem) : jMet l (gM E) yX10_fault cX10_fault 1 (some .int) rX10_fault [.ref (gad (gM E) 0)] M (pX10_fault fu   M) :=
  j_entry hI (by decide +kernel) (Nat.le_of_ble_eq_true rfl) rfl (fun X _ hX => wX10_fault hX fu    M)
theorem qX10_lay : jYv yX10_lay cX10_lay 1 (some .int) 0 := ⟨tw_1063, tw_1064, tw_72, tw_1065, ⟨by decide +kernel, by decide +kernel, by decide +kernel⟩⟩
abbrev rX10_lay : Room := { frames := 6, cells := 0, slots := 0, locals := 140 }
def uX10_lay : jM := (cX10_lay, 1, RX10, (some .int), rX10_lay)
def pX10_lay (fu : Nat)  (M : Mem) : Res :=
  bI (pX10_reads fu  M) fun r2 M1 =>
  if r2 = 0 then (
    some ((-2 : Int32), M1))
  else
  if (M1 0 13) = 0 then (
    some ((-2 : Int32), M1))
  else
  if (M1 0 16) = 0 then (
    some ((-2 : Int32), M1))
  else
  bV (pX10_settles fu  M1) fun M3 =>
  fpt M3 0 20 (0 : Int32) fun M4 =>
  fpt M4 0 21 (0 : Int32) fun M5 =>
  some ((M5 0 7), M5)
set_option maxRecDepth 100000 in
theorem wX10_lay {E : jE} {X : jC} (hX : jOk X uX10_lay (gM E)) (fu : Nat)   (M : Mem) : J X uX10_lay (gM E) 0 [(0, .ref (gad (gM E) 0))] [] M (pX10_lay fu   M) := by
  unfold pX10_lay
  refine j_aload_n (pc := 0) hX 0 dX10_lay_0 rfl rfl ?_
  refine j_callV (pc := 1) hX [] (mX10_reads _ E hX.2.2.2.2.2.2.2.2.1 fu    M) qX10_reads tw_1028 (jb rfl) rfl (ci := 9) (T := TX10) (N := 30) rfl (jb rfl) rfl ⟨rfl, rfl⟩ ⟨(Nat.le_of_ble_eq_true rfl), (Nat.le_of_ble_eq_true rfl)⟩ (Nat.le_of_ble_eq_true rfl) dX10_lay_1 (fun _ => rfl) rfl (fun r2 M1 => ?_)
  refine j_if_eq (pc := 4) hX 21 dX10_lay_4 (by decide) ?_ ?_
  · refine j_bipush (pc := 21) (v := (-2 : Int32)) hX dX10_lay_21 cb_m2 ?_
    exact j_iret (pc := 23) hX rfl dX10_lay_23
  · refine j_aload_n (pc := 7) hX 0 dX10_lay_7 rfl rfl ?_
    refine j_getI (pc := 8) hX (jb rfl) rfl (ci := 9) (C := RX10) (T := TX10) (N := 30) rfl (jb rfl) inX10 (j := 13) (jb rfl) rfl tw_933 dX10_lay_8 ?_
    refine j_if_eq (pc := 11) hX 21 dX10_lay_11 (by decide) ?_ ?_
    · refine j_bipush (pc := 21) (v := (-2 : Int32)) hX dX10_lay_21 cb_m2 ?_
      exact j_iret (pc := 23) hX rfl dX10_lay_23
    · refine j_aload_n (pc := 14) hX 0 dX10_lay_14 rfl rfl ?_
      refine j_getI (pc := 15) hX (jb rfl) rfl (ci := 9) (C := RX10) (T := TX10) (N := 30) rfl (jb rfl) inX10 (j := 16) (jb rfl) rfl tw_936 dX10_lay_15 ?_
      refine j_if_ne (pc := 18) hX 24 dX10_lay_18 (by decide) ?_ ?_
      · refine j_aload_n (pc := 24) hX 0 dX10_lay_24 rfl rfl ?_
        refine j_callVv (pc := 25) hX [] (mX10_settles _ E hX.2.2.2.2.2.2.2.2.1 fu    M1) qX10_settles tw_909 (jb rfl) rfl (ci := 9) (T := TX10) (N := 30) rfl (jb rfl) rfl ⟨rfl, rfl⟩ ⟨(Nat.le_of_ble_eq_true rfl), (Nat.le_of_ble_eq_true rfl)⟩ (Nat.le_of_ble_eq_true rfl) dX10_lay_25 rfl (fun M3 => ?_)
        refine j_aload_n (pc := 28) hX 0 dX10_lay_28 rfl rfl ?_
        refine j_iconst (pc := 29) (v := (0 : Int32)) hX dX10_lay_29 ci_0 ?_
        refine j_putI (pc := 30) hX (jb rfl) rfl (ci := 9) (C := RX10) (T := TX10) (N := 30) rfl (jb rfl) inX10 tyX10 tyX10_ok nmX10 (j := 20) (jb rfl) rfl tw_940 rfl (tyX10_ok 20 (jb rfl)) dX10_lay_30 (fun M4 => ?_)
        refine j_aload_n (pc := 33) hX 0 dX10_lay_33 rfl rfl ?_
        refine j_iconst (pc := 34) (v := (0 : Int32)) hX dX10_lay_34 ci_0 ?_
        refine j_putI (pc := 35) hX (jb rfl) rfl (ci := 9) (C := RX10) (T := TX10) (N := 30) rfl (jb rfl) inX10 tyX10 tyX10_ok nmX10 (j := 21) (jb rfl) rfl tw_941 rfl (tyX10_ok 21 (jb rfl)) dX10_lay_35 (fun M5 => ?_)
        refine j_aload_n (pc := 38) hX 0 dX10_lay_38 rfl rfl ?_
        refine j_getI (pc := 39) hX (jb rfl) rfl (ci := 9) (C := RX10) (T := TX10) (N := 30) rfl (jb rfl) inX10 (j := 7) (jb rfl) rfl tw_927 dX10_lay_39 ?_
        exact j_iret (pc := 42) hX rfl dX10_lay_42
      · refine j_bipush (pc := 21) (v := (-2 : Int32)) hX dX10_lay_21 cb_m2 ?_
        exact j_iret (pc := 23) hX rfl dX10_lay_23
theorem mX10_lay (l : Launch) (E : jE) (hI : jInj (gM E)) (fu : Nat)   (M : Mem) : jMet l (gM E) yX10_lay cX10_lay 1 (some .int) rX10_lay [.ref (gad (gM E) 0)] M (pX10_lay fu   M) :=
  j_entry hI (by decide +kernel) (Nat.le_of_ble_eq_true rfl) rfl (fun X _ hX => wX10_lay hX fu    M)
theorem qX10_standing : jYv yX10_standing cX10_standing 5 (some .int) 2 := ⟨tw_1077, tw_32, tw_72, tw_1078, ⟨by decide +kernel, by decide +kernel, by decide +kernel⟩⟩
abbrev rX10_standing : Room := { frames := 0, cells := 0, slots := 0, locals := 0 }
def uX10_standing : jM := (cX10_standing, 5, RX10, (some .int), rX10_standing)
def pX10_standing_52 (fu : Nat) (x1 : Int32) (x2 : Int32) (x4 : Int32) (s0 : Int32) (s1 : Int32) (M : Mem) (c5 : Int32 → Int32 → Int32 → Int32 → Mem → Res) : Res :=
  c5 x1 x2 (s1 + s0) (x4 + (1 : Int32)) M
set_option maxRecDepth 100000 in
theorem wX10_standing_52 {E : jE} {X : jC} (hX : jOk X uX10_standing (gM E)) (fu : Nat)  (x1 : Int32) (x2 : Int32) (x4 : Int32) (s0 : Int32) (s1 : Int32) (M : Mem) (c5 : Int32 → Int32 → Int32 → Int32 → Mem → Res) (hc5 : ∀ (x1 : Int32) (x2 : Int32) (x3 : Int32) (x4 : Int32) (M : Mem), J X uX10_standing (gM E) 5 [(0, .ref (gad (gM E) 0)), (1, .int x1), (2, .int x2), (3, .int x3), (4, .int x4)] [] M (c5 x1 x2 x3 x4 M)) : J X uX10_standing (gM E) 52 [(0, .ref (gad (gM E) 0)), (1, .int x1), (2, .int x2), (4, .int x4)] [.int s0, .int s1] M (pX10_standing_52 fu  x1 x2 x4 s0 s1 M c5) := by
  unfold pX10_standing_52
  refine j_iadd (pc := 52) hX dX10_standing_52 ?_
  refine j_istore_n (pc := 53) (lv' := [(3, .int (s1 + s0)), (0, .ref (gad (gM E) 0)), (1, .int x1), (2, .int x2), (4, .int x4)]) hX dX10_standing_53 rfl (jb rfl) rfl ?_
  refine j_iinc (pc := 54) (v := (x4 + (1 : Int32))) (lv' := [(4, .int (x4 + (1 : Int32))), (3, .int (s1 + s0)), (0, .ref (gad (gM E) 0)), (1, .int x1), (2, .int x2)]) hX 4 dX10_standing_54 rfl (by rw [ci_1]) (jb rfl) rfl ?_
  refine j_goto (pc := 57) hX 5 dX10_standing_57 (by decide) ?_
  exact j_sub [2, 3, 4, 1, 0] rfl (hc5 x1 x2 (s1 + s0) (x4 + (1 : Int32)) M)
def pX10_standing_51 (fu : Nat) (x1 : Int32) (x2 : Int32) (x4 : Int32) (s0 : Int32) (M : Mem) (c5 : Int32 → Int32 → Int32 → Int32 → Mem → Res) : Res :=
  pX10_standing_52 fu  x1 x2 x4 (0 : Int32) s0 M c5
set_option maxRecDepth 100000 in
theorem wX10_standing_51 {E : jE} {X : jC} (hX : jOk X uX10_standing (gM E)) (fu : Nat)  (x1 : Int32) (x2 : Int32) (x4 : Int32) (s0 : Int32) (M : Mem) (c5 : Int32 → Int32 → Int32 → Int32 → Mem → Res) (hc5 : ∀ (x1 : Int32) (x2 : Int32) (x3 : Int32) (x4 : Int32) (M : Mem), J X uX10_standing (gM E) 5 [(0, .ref (gad (gM E) 0)), (1, .int x1), (2, .int x2), (3, .int x3), (4, .int x4)] [] M (c5 x1 x2 x3 x4 M)) : J X uX10_standing (gM E) 51 [(0, .ref (gad (gM E) 0)), (1, .int x1), (2, .int x2), (4, .int x4)] [.int s0] M (pX10_standing_51 fu  x1 x2 x4 s0 M c5) := by
  unfold pX10_standing_51
  refine j_iconst (pc := 51) (v := (0 : Int32)) hX dX10_standing_51 ci_0 ?_
  exact j_sub [0, 1, 2, 3] rfl (wX10_standing_52 hX fu   x1 x2 x4 (0 : Int32) s0 M c5 hc5)
def pX10_standing_5b (fu : Nat) (x1 : Int32) (x2 : Int32) (x3 : Int32) (x4 : Int32) (M : Mem) (c5 : Int32 → Int32 → Int32 → Int32 → Mem → Res) : Res :=
  if (M 0 7) ≤ x4 then (
    some (x3, M))
  else
  ld M 12 768 ((x1 + (10 : Int32)) + x4) fun v1 =>
  if v1 = (-4 : Int32) then (
    ld M 12 768 ((x1 + (5 : Int32)) + x4) fun v2 =>
    if v2 = x2 then (
      pX10_standing_52 fu  x1 x2 x4 (1 : Int32) x3 M c5)
    else
    pX10_standing_51 fu  x1 x2 x4 x3 M c5)
  else
  pX10_standing_51 fu  x1 x2 x4 x3 M c5
set_option maxRecDepth 100000 in
theorem wX10_standing_5b {E : jE} {X : jC} (hX : jOk X uX10_standing (gM E)) (fu : Nat)  (x1 : Int32) (x2 : Int32) (x3 : Int32) (x4 : Int32) (M : Mem) (c5 : Int32 → Int32 → Int32 → Int32 → Mem → Res) (hc5 : ∀ (x1 : Int32) (x2 : Int32) (x3 : Int32) (x4 : Int32) (M : Mem), J X uX10_standing (gM E) 5 [(0, .ref (gad (gM E) 0)), (1, .int x1), (2, .int x2), (3, .int x3), (4, .int x4)] [] M (c5 x1 x2 x3 x4 M)) : J X uX10_standing (gM E) 5 [(0, .ref (gad (gM E) 0)), (1, .int x1), (2, .int x2), (3, .int x3), (4, .int x4)] [] M (pX10_standing_5b fu  x1 x2 x3 x4 M c5) := by
  unfold pX10_standing_5b
  refine j_iload (pc := 5) hX 4 dX10_standing_5 rfl ?_
  refine j_aload_n (pc := 7) hX 0 dX10_standing_7 rfl rfl ?_
  refine j_getI (pc := 8) hX (jb rfl) rfl (ci := 9) (C := RX10) (T := TX10) (N := 30) rfl (jb rfl) inX10 (j := 7) (jb rfl) rfl tw_927 dX10_standing_8 ?_
  refine j_icmp_ge (pc := 11) hX 60 dX10_standing_11 (by decide) ?_ ?_
  · refine j_iload_n (pc := 60) hX 3 dX10_standing_60 rfl rfl ?_
    exact j_iret (pc := 61) hX rfl dX10_standing_61
  · refine j_iload_n (pc := 14) hX 3 dX10_standing_14 rfl rfl ?_
    refine j_aload_n (pc := 15) hX 0 dX10_standing_15 rfl rfl ?_
    refine j_getR (pc := 16) (t := 12) hX (jb rfl) rfl (ci := 9) (C := RX10) (T := TX10) (N := 30) rfl (jb rfl) inX10 (j := 19) (jb rfl) rfl tw_939 dX10_standing_16 ?_
    refine j_iload_n (pc := 19) hX 1 dX10_standing_19 rfl rfl ?_
    refine j_bipush (pc := 20) (v := (10 : Int32)) hX dX10_standing_20 cb_10 ?_
    refine j_iadd (pc := 22) hX dX10_standing_22 ?_
    refine j_iload (pc := 23) hX 4 dX10_standing_23 rfl ?_
    refine j_iadd (pc := 25) hX dX10_standing_25 ?_
    refine j_iald (pc := 26) hX (jb rfl) rfl rfl dX10_standing_26 (fun v1 => ?_)
    refine j_bipush (pc := 27) (v := (-4 : Int32)) hX dX10_standing_27 cb_m4 ?_
    refine j_icmp_ne (pc := 29) hX 51 dX10_standing_29 (by decide) ?_ ?_
    · exact j_sub [0, 1, 2, 4] rfl (wX10_standing_51 hX fu   x1 x2 x4 x3 M c5 hc5)
    · refine j_aload_n (pc := 32) hX 0 dX10_standing_32 rfl rfl ?_
      refine j_getR (pc := 33) (t := 12) hX (jb rfl) rfl (ci := 9) (C := RX10) (T := TX10) (N := 30) rfl (jb rfl) inX10 (j := 19) (jb rfl) rfl tw_939 dX10_standing_33 ?_
      refine j_iload_n (pc := 36) hX 1 dX10_standing_36 rfl rfl ?_
      refine j_iconst (pc := 37) (v := (5 : Int32)) hX dX10_standing_37 ci_5 ?_
      refine j_iadd (pc := 38) hX dX10_standing_38 ?_
      refine j_iload (pc := 39) hX 4 dX10_standing_39 rfl ?_
      refine j_iadd (pc := 41) hX dX10_standing_41 ?_
      refine j_iald (pc := 42) hX (jb rfl) rfl rfl dX10_standing_42 (fun v2 => ?_)
      refine j_iload_n (pc := 43) hX 2 dX10_standing_43 rfl rfl ?_
      refine j_icmp_ne (pc := 44) hX 51 dX10_standing_44 (by decide) ?_ ?_
      · exact j_sub [0, 1, 2, 4] rfl (wX10_standing_51 hX fu   x1 x2 x4 x3 M c5 hc5)
      · refine j_iconst (pc := 47) (v := (1 : Int32)) hX dX10_standing_47 ci_1 ?_
        refine j_goto (pc := 48) hX 52 dX10_standing_48 (by decide) ?_
        exact j_sub [0, 1, 2, 4] rfl (wX10_standing_52 hX fu   x1 x2 x4 (1 : Int32) x3 M c5 hc5)
def pX10_standing_5 (fu : Nat)  : Nat → Int32 → Int32 → Int32 → Int32 → Mem → Res
  | 0, _, _, _, _, _ => none
  | n + 1, x1, x2, x3, x4, M => pX10_standing_5b fu  x1 x2 x3 x4 M (pX10_standing_5 fu   n)
theorem wX10_standing_5 {E : jE} {X : jC} (hX : jOk X uX10_standing (gM E)) (fu : Nat)    : ∀ (n : Nat) (x1 : Int32) (x2 : Int32) (x3 : Int32) (x4 : Int32) (M : Mem), J X uX10_standing (gM E) 5 [(0, .ref (gad (gM E) 0)), (1, .int x1), (2, .int x2), (3, .int x3), (4, .int x4)] [] M (pX10_standing_5 fu   n x1 x2 x3 x4 M) := by
  intro n
  induction n with
  | zero => intro x1 x2 x3 x4 M; exact j_none
  | succ n ih => intro x1 x2 x3 x4 M; exact wX10_standing_5b hX fu   x1 x2 x3 x4 M (pX10_standing_5 fu   n) ih
def pX10_standing (fu : Nat) (x1 : Int32) (x2 : Int32) (M : Mem) : Res :=
  pX10_standing_5 fu
    fu x1 x2 (0 : Int32) (0 : Int32) M
set_option maxRecDepth 100000 in
theorem wX10_standing {E : jE} {X : jC} (hX : jOk X uX10_standing (gM E)) (fu : Nat)  (x1 : Int32) (x2 : Int32) (M : Mem) : J X uX10_standing (gM E) 0 [(0, .ref (gad (gM E) 0)), (1, .int x1), (2, .int x2)] [] M (pX10_standing fu  x1 x2 M) := by
  unfold pX10_standing
  refine j_iconst (pc := 0) (v := (0 : Int32)) hX dX10_standing_0 ci_0 ?_
  refine j_istore_n (pc := 1) (lv' := [(3, .int (0 : Int32)), (0, .ref (gad (gM E) 0)), (1, .int x1), (2, .int x2)]) hX dX10_standing_1 rfl (jb rfl) rfl ?_
  refine j_iconst (pc := 2) (v := (0 : Int32)) hX dX10_standing_2 ci_0 ?_
  refine j_istore (pc := 3) (lv' := [(4, .int (0 : Int32)), (3, .int (0 : Int32)), (0, .ref (gad (gM E) 0)), (1, .int x1), (2, .int x2)]) hX dX10_standing_3 (jb rfl) rfl ?_
  refine j_sub [2, 3, 4, 1, 0] rfl (wX10_standing_5 hX fu     fu x1 x2 (0 : Int32) (0 : Int32) M)
theorem mX10_standing (l : Launch) (E : jE) (hI : jInj (gM E)) (fu : Nat)  (x1 : Int32) (x2 : Int32) (M : Mem) : jMet l (gM E) yX10_standing cX10_standing 5 (some .int) rX10_standing [.ref (gad (gM E) 0), .int x1, .int x2] M (pX10_standing fu  x1 x2 M) :=
  j_entry hI (by decide +kernel) (Nat.le_of_ble_eq_true rfl) rfl (fun X _ hX => wX10_standing hX fu   x1 x2 M)
