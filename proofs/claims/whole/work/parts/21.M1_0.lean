theorem dX10_in_0 : decode cX10_in 0 = .ok (.lload_n 0, 1) := by decide +kernel
theorem dX10_in_1 : decode cX10_in 1 = .ok (.lload_n 2, 1) := by decide +kernel
theorem dX10_in_2 : decode cX10_in 2 = .ok (.lcmp, 1) := by decide +kernel
theorem dX10_in_3 : decode cX10_in 3 = .ok (.ifCond .lt 14, 3) := by decide +kernel
theorem dX10_in_6 : decode cX10_in 6 = .ok (.lload_n 0, 1) := by decide +kernel
theorem dX10_in_7 : decode cX10_in 7 = .ok (.lload 4, 2) := by decide +kernel
theorem dX10_in_9 : decode cX10_in 9 = .ok (.lcmp, 1) := by decide +kernel
theorem dX10_in_10 : decode cX10_in 10 = .ok (.ifCond .gt 7, 3) := by decide +kernel
theorem dX10_in_13 : decode cX10_in 13 = .ok (.iconst 1, 1) := by decide +kernel
theorem dX10_in_14 : decode cX10_in 14 = .ok (.goto 4, 3) := by decide +kernel
theorem dX10_in_17 : decode cX10_in 17 = .ok (.iconst 0, 1) := by decide +kernel
theorem dX10_in_18 : decode cX10_in 18 = .ok (.ireturn, 1) := by decide +kernel
theorem dX10_has_0 : decode cX10_has 0 = .ok (.iload_n 0, 1) := by decide +kernel
theorem dX10_has_1 : decode cX10_has 1 = .ok (.iload_n 1, 1) := by decide +kernel
theorem dX10_has_2 : decode cX10_has 2 = .ok (.ishr, 1) := by decide +kernel
theorem dX10_has_3 : decode cX10_has 3 = .ok (.iconst 1, 1) := by decide +kernel
theorem dX10_has_4 : decode cX10_has 4 = .ok (.iand, 1) := by decide +kernel
theorem dX10_has_5 : decode cX10_has 5 = .ok (.iconst 1, 1) := by decide +kernel
theorem dX10_has_6 : decode cX10_has 6 = .ok (.if_icmp .ne 7, 3) := by decide +kernel
theorem dX10_has_9 : decode cX10_has 9 = .ok (.iconst 1, 1) := by decide +kernel
theorem dX10_has_10 : decode cX10_has 10 = .ok (.goto 4, 3) := by decide +kernel
theorem dX10_has_13 : decode cX10_has 13 = .ok (.iconst 0, 1) := by decide +kernel
theorem dX10_has_14 : decode cX10_has 14 = .ok (.ireturn, 1) := by decide +kernel
theorem dX10_smaller_0 : decode cX10_smaller 0 = .ok (.iload_n 0, 1) := by decide +kernel
theorem dX10_smaller_1 : decode cX10_smaller 1 = .ok (.iload_n 1, 1) := by decide +kernel
theorem dX10_smaller_2 : decode cX10_smaller 2 = .ok (.if_icmp .ge 7, 3) := by decide +kernel
theorem dX10_smaller_5 : decode cX10_smaller 5 = .ok (.iload_n 0, 1) := by decide +kernel
theorem dX10_smaller_6 : decode cX10_smaller 6 = .ok (.goto 4, 3) := by decide +kernel
theorem dX10_smaller_9 : decode cX10_smaller 9 = .ok (.iload_n 1, 1) := by decide +kernel
theorem dX10_smaller_10 : decode cX10_smaller 10 = .ok (.ireturn, 1) := by decide +kernel
theorem dX10_larger_0 : decode cX10_larger 0 = .ok (.iload_n 0, 1) := by decide +kernel
theorem dX10_larger_1 : decode cX10_larger 1 = .ok (.iload_n 1, 1) := by decide +kernel
theorem dX10_larger_2 : decode cX10_larger 2 = .ok (.if_icmp .ge 7, 3) := by decide +kernel
theorem dX10_larger_5 : decode cX10_larger 5 = .ok (.iload_n 1, 1) := by decide +kernel
theorem dX10_larger_6 : decode cX10_larger 6 = .ok (.goto 4, 3) := by decide +kernel
theorem dX10_larger_9 : decode cX10_larger 9 = .ok (.iload_n 0, 1) := by decide +kernel
theorem dX10_larger_10 : decode cX10_larger 10 = .ok (.ireturn, 1) := by decide +kernel
theorem dX10_clears_0 : decode cX10_clears 0 = .ok (.aload_n 0, 1) := by decide +kernel
theorem dX10_clears_1 : decode cX10_clears 1 = .ok (.iconst 5, 1) := by decide +kernel
theorem dX10_clears_2 : decode cX10_clears 2 = .ok (.putfield 62, 3) := by decide +kernel
theorem dX10_clears_5 : decode cX10_clears 5 = .ok (.aload_n 0, 1) := by decide +kernel
theorem dX10_clears_6 : decode cX10_clears 6 = .ok (.iconst 0, 1) := by decide +kernel
theorem dX10_clears_7 : decode cX10_clears 7 = .ok (.putfield 77, 3) := by decide +kernel
theorem dX10_clears_10 : decode cX10_clears 10 = .ok (.aload_n 0, 1) := by decide +kernel
theorem dX10_clears_11 : decode cX10_clears 11 = .ok (.iconst 0, 1) := by decide +kernel
theorem dX10_clears_12 : decode cX10_clears 12 = .ok (.putfield 83, 3) := by decide +kernel
theorem dX10_clears_15 : decode cX10_clears 15 = .ok (.aload_n 0, 1) := by decide +kernel
theorem dX10_clears_16 : decode cX10_clears 16 = .ok (.iconst 0, 1) := by decide +kernel
theorem dX10_clears_17 : decode cX10_clears 17 = .ok (.putfield 86, 3) := by decide +kernel
theorem dX10_clears_20 : decode cX10_clears 20 = .ok (.iconst 0, 1) := by decide +kernel
theorem dX10_clears_21 : decode cX10_clears 21 = .ok (.istore_n 1, 1) := by decide +kernel
theorem dX10_clears_22 : decode cX10_clears 22 = .ok (.iload_n 1, 1) := by decide +kernel
theorem dX10_clears_23 : decode cX10_clears 23 = .ok (.bipush 64, 2) := by decide +kernel
theorem dX10_clears_25 : decode cX10_clears 25 = .ok (.if_icmp .ge 28, 3) := by decide +kernel
theorem dX10_clears_28 : decode cX10_clears 28 = .ok (.aload_n 0, 1) := by decide +kernel
theorem dX10_clears_29 : decode cX10_clears 29 = .ok (.getfield 28, 3) := by decide +kernel
theorem dX10_clears_32 : decode cX10_clears 32 = .ok (.iload_n 1, 1) := by decide +kernel
theorem dX10_clears_33 : decode cX10_clears 33 = .ok (.bipush (-4), 2) := by decide +kernel
theorem dX10_clears_35 : decode cX10_clears 35 = .ok (.iastore, 1) := by decide +kernel
theorem dX10_clears_36 : decode cX10_clears 36 = .ok (.aload_n 0, 1) := by decide +kernel
theorem dX10_clears_37 : decode cX10_clears 37 = .ok (.getfield 43, 3) := by decide +kernel
theorem dX10_clears_40 : decode cX10_clears 40 = .ok (.sipush 704, 3) := by decide +kernel
theorem dX10_clears_43 : decode cX10_clears 43 = .ok (.iload_n 1, 1) := by decide +kernel
theorem dX10_clears_44 : decode cX10_clears 44 = .ok (.iadd, 1) := by decide +kernel
theorem dX10_clears_45 : decode cX10_clears 45 = .ok (.iconst 0, 1) := by decide +kernel
theorem dX10_clears_46 : decode cX10_clears 46 = .ok (.iastore, 1) := by decide +kernel
theorem dX10_clears_47 : decode cX10_clears 47 = .ok (.iinc 1 1, 3) := by decide +kernel
theorem dX10_clears_50 : decode cX10_clears 50 = .ok (.goto (-28), 3) := by decide +kernel
theorem dX10_clears_53 : decode cX10_clears 53 = .ok (.return_, 1) := by decide +kernel
theorem dX10_leads_0 : decode cX10_leads 0 = .ok (.aload_n 0, 1) := by decide +kernel
theorem dX10_leads_1 : decode cX10_leads 1 = .ok (.getfield 28, 3) := by decide +kernel
theorem dX10_leads_4 : decode cX10_leads 4 = .ok (.bipush 8, 2) := by decide +kernel
theorem dX10_leads_6 : decode cX10_leads 6 = .ok (.iload_n 1, 1) := by decide +kernel
theorem dX10_leads_7 : decode cX10_leads 7 = .ok (.imul, 1) := by decide +kernel
theorem dX10_leads_8 : decode cX10_leads 8 = .ok (.iload_n 2, 1) := by decide +kernel
theorem dX10_leads_9 : decode cX10_leads 9 = .ok (.iadd, 1) := by decide +kernel
theorem dX10_leads_10 : decode cX10_leads 10 = .ok (.iload_n 3, 1) := by decide +kernel
theorem dX10_leads_11 : decode cX10_leads 11 = .ok (.iastore, 1) := by decide +kernel
theorem dX10_leads_12 : decode cX10_leads 12 = .ok (.aload_n 0, 1) := by decide +kernel
theorem dX10_leads_13 : decode cX10_leads 13 = .ok (.getfield 28, 3) := by decide +kernel
theorem dX10_leads_16 : decode cX10_leads 16 = .ok (.bipush 8, 2) := by decide +kernel
theorem dX10_leads_18 : decode cX10_leads 18 = .ok (.iload_n 2, 1) := by decide +kernel
theorem dX10_leads_19 : decode cX10_leads 19 = .ok (.imul, 1) := by decide +kernel
theorem dX10_leads_20 : decode cX10_leads 20 = .ok (.iload_n 1, 1) := by decide +kernel
theorem dX10_leads_21 : decode cX10_leads 21 = .ok (.iadd, 1) := by decide +kernel
theorem dX10_leads_22 : decode cX10_leads 22 = .ok (.iload_n 3, 1) := by decide +kernel
theorem dX10_leads_23 : decode cX10_leads 23 = .ok (.iastore, 1) := by decide +kernel
theorem dX10_leads_24 : decode cX10_leads 24 = .ok (.return_, 1) := by decide +kernel
theorem dX10_opens_0 : decode cX10_opens 0 = .ok (.aload_n 0, 1) := by decide +kernel
theorem dX10_opens_1 : decode cX10_opens 1 = .ok (.getfield 31, 3) := by decide +kernel
theorem dX10_opens_4 : decode cX10_opens 4 = .ok (.aload_n 0, 1) := by decide +kernel
theorem dX10_opens_5 : decode cX10_opens 5 = .ok (.getfield 83, 3) := by decide +kernel
theorem dX10_opens_8 : decode cX10_opens 8 = .ok (.iload_n 1, 1) := by decide +kernel
theorem dX10_opens_9 : decode cX10_opens 9 = .ok (.iastore, 1) := by decide +kernel
theorem dX10_opens_10 : decode cX10_opens 10 = .ok (.aload_n 0, 1) := by decide +kernel
theorem dX10_opens_11 : decode cX10_opens 11 = .ok (.getfield 34, 3) := by decide +kernel
theorem dX10_opens_14 : decode cX10_opens 14 = .ok (.aload_n 0, 1) := by decide +kernel
theorem dX10_opens_15 : decode cX10_opens 15 = .ok (.getfield 83, 3) := by decide +kernel
theorem dX10_opens_18 : decode cX10_opens 18 = .ok (.iload_n 2, 1) := by decide +kernel
theorem dX10_opens_19 : decode cX10_opens 19 = .ok (.iastore, 1) := by decide +kernel
theorem dX10_opens_20 : decode cX10_opens 20 = .ok (.aload_n 0, 1) := by decide +kernel
theorem dX10_opens_21 : decode cX10_opens 21 = .ok (.dup, 1) := by decide +kernel
theorem dX10_opens_22 : decode cX10_opens 22 = .ok (.getfield 83, 3) := by decide +kernel
theorem dX10_opens_25 : decode cX10_opens 25 = .ok (.iconst 1, 1) := by decide +kernel
theorem dX10_opens_26 : decode cX10_opens 26 = .ok (.iadd, 1) := by decide +kernel
theorem dX10_opens_27 : decode cX10_opens 27 = .ok (.putfield 83, 3) := by decide +kernel
theorem dX10_opens_30 : decode cX10_opens 30 = .ok (.return_, 1) := by decide +kernel
theorem dX10_comes_0 : decode cX10_comes 0 = .ok (.aload_n 0, 1) := by decide +kernel
theorem dX10_comes_1 : decode cX10_comes 1 = .ok (.getfield 37, 3) := by decide +kernel
theorem dX10_comes_4 : decode cX10_comes 4 = .ok (.aload_n 0, 1) := by decide +kernel
theorem dX10_comes_5 : decode cX10_comes 5 = .ok (.getfield 86, 3) := by decide +kernel
theorem dX10_comes_8 : decode cX10_comes 8 = .ok (.iload_n 1, 1) := by decide +kernel
theorem dX10_comes_9 : decode cX10_comes 9 = .ok (.iastore, 1) := by decide +kernel
theorem dX10_comes_10 : decode cX10_comes 10 = .ok (.aload_n 0, 1) := by decide +kernel
theorem dX10_comes_11 : decode cX10_comes 11 = .ok (.getfield 40, 3) := by decide +kernel
theorem dX10_comes_14 : decode cX10_comes 14 = .ok (.aload_n 0, 1) := by decide +kernel
theorem dX10_comes_15 : decode cX10_comes 15 = .ok (.getfield 86, 3) := by decide +kernel
theorem dX10_comes_18 : decode cX10_comes 18 = .ok (.iload_n 2, 1) := by decide +kernel
theorem dX10_comes_19 : decode cX10_comes 19 = .ok (.iastore, 1) := by decide +kernel
theorem dX10_comes_20 : decode cX10_comes 20 = .ok (.aload_n 0, 1) := by decide +kernel
theorem dX10_comes_21 : decode cX10_comes 21 = .ok (.getfield 43, 3) := by decide +kernel
theorem dX10_comes_24 : decode cX10_comes 24 = .ok (.sipush 744, 3) := by decide +kernel
theorem dX10_comes_27 : decode cX10_comes 27 = .ok (.aload_n 0, 1) := by decide +kernel
theorem dX10_comes_28 : decode cX10_comes 28 = .ok (.getfield 86, 3) := by decide +kernel
theorem dX10_comes_31 : decode cX10_comes 31 = .ok (.iadd, 1) := by decide +kernel
theorem dX10_comes_32 : decode cX10_comes 32 = .ok (.iload_n 3, 1) := by decide +kernel
theorem dX10_comes_33 : decode cX10_comes 33 = .ok (.iastore, 1) := by decide +kernel
theorem dX10_comes_34 : decode cX10_comes 34 = .ok (.aload_n 0, 1) := by decide +kernel
theorem dX10_comes_35 : decode cX10_comes 35 = .ok (.getfield 43, 3) := by decide +kernel
theorem dX10_comes_38 : decode cX10_comes 38 = .ok (.sipush 714, 3) := by decide +kernel
theorem dX10_comes_41 : decode cX10_comes 41 = .ok (.aload_n 0, 1) := by decide +kernel
theorem dX10_comes_42 : decode cX10_comes 42 = .ok (.getfield 86, 3) := by decide +kernel
theorem dX10_comes_45 : decode cX10_comes 45 = .ok (.iadd, 1) := by decide +kernel
theorem dX10_comes_46 : decode cX10_comes 46 = .ok (.bipush (-4), 2) := by decide +kernel
theorem dX10_comes_48 : decode cX10_comes 48 = .ok (.iastore, 1) := by decide +kernel
theorem dX10_comes_49 : decode cX10_comes 49 = .ok (.aload_n 0, 1) := by decide +kernel
theorem dX10_comes_50 : decode cX10_comes 50 = .ok (.getfield 43, 3) := by decide +kernel
theorem dX10_comes_53 : decode cX10_comes 53 = .ok (.sipush 729, 3) := by decide +kernel
theorem dX10_comes_56 : decode cX10_comes 56 = .ok (.aload_n 0, 1) := by decide +kernel
theorem dX10_comes_57 : decode cX10_comes 57 = .ok (.getfield 86, 3) := by decide +kernel
theorem dX10_comes_60 : decode cX10_comes 60 = .ok (.iadd, 1) := by decide +kernel
theorem dX10_comes_61 : decode cX10_comes 61 = .ok (.bipush (-4), 2) := by decide +kernel
theorem dX10_comes_63 : decode cX10_comes 63 = .ok (.iastore, 1) := by decide +kernel
theorem dX10_comes_64 : decode cX10_comes 64 = .ok (.aload_n 0, 1) := by decide +kernel
theorem dX10_comes_65 : decode cX10_comes 65 = .ok (.dup, 1) := by decide +kernel
theorem dX10_comes_66 : decode cX10_comes 66 = .ok (.getfield 86, 3) := by decide +kernel
theorem dX10_comes_69 : decode cX10_comes 69 = .ok (.iconst 1, 1) := by decide +kernel
theorem dX10_comes_70 : decode cX10_comes 70 = .ok (.iadd, 1) := by decide +kernel
theorem dX10_comes_71 : decode cX10_comes 71 = .ok (.putfield 86, 3) := by decide +kernel
theorem dX10_comes_74 : decode cX10_comes 74 = .ok (.return_, 1) := by decide +kernel
theorem dX10_copies_0 : decode cX10_copies 0 = .ok (.iconst 0, 1) := by decide +kernel
theorem dX10_copies_1 : decode cX10_copies 1 = .ok (.istore_n 3, 1) := by decide +kernel
theorem dX10_copies_2 : decode cX10_copies 2 = .ok (.iload_n 3, 1) := by decide +kernel
theorem dX10_copies_3 : decode cX10_copies 3 = .ok (.bipush 64, 2) := by decide +kernel
theorem dX10_copies_5 : decode cX10_copies 5 = .ok (.if_icmp .ge 25, 3) := by decide +kernel
theorem dX10_copies_8 : decode cX10_copies 8 = .ok (.aload_n 0, 1) := by decide +kernel
theorem dX10_copies_9 : decode cX10_copies 9 = .ok (.getfield 43, 3) := by decide +kernel
theorem dX10_copies_12 : decode cX10_copies 12 = .ok (.iload_n 2, 1) := by decide +kernel
theorem dX10_copies_13 : decode cX10_copies 13 = .ok (.iload_n 3, 1) := by decide +kernel
theorem dX10_copies_14 : decode cX10_copies 14 = .ok (.iadd, 1) := by decide +kernel
theorem dX10_copies_15 : decode cX10_copies 15 = .ok (.aload_n 0, 1) := by decide +kernel
theorem dX10_copies_16 : decode cX10_copies 16 = .ok (.getfield 43, 3) := by decide +kernel
theorem dX10_copies_19 : decode cX10_copies 19 = .ok (.iload_n 1, 1) := by decide +kernel
theorem dX10_copies_20 : decode cX10_copies 20 = .ok (.iload_n 3, 1) := by decide +kernel
theorem dX10_copies_21 : decode cX10_copies 21 = .ok (.iadd, 1) := by decide +kernel
theorem dX10_copies_22 : decode cX10_copies 22 = .ok (.iaload, 1) := by decide +kernel
theorem dX10_copies_23 : decode cX10_copies 23 = .ok (.iastore, 1) := by decide +kernel
theorem dX10_copies_24 : decode cX10_copies 24 = .ok (.iinc 3 1, 3) := by decide +kernel
theorem dX10_copies_27 : decode cX10_copies 27 = .ok (.goto (-25), 3) := by decide +kernel
theorem dX10_copies_30 : decode cX10_copies 30 = .ok (.return_, 1) := by decide +kernel
theorem dX10_settles_0 : decode cX10_settles 0 = .ok (.aload_n 0, 1) := by decide +kernel
theorem dX10_settles_1 : decode cX10_settles 1 = .ok (.aload_n 0, 1) := by decide +kernel
theorem dX10_settles_2 : decode cX10_settles 2 = .ok (.getfield 62, 3) := by decide +kernel
theorem dX10_settles_5 : decode cX10_settles 5 = .ok (.putfield 89, 3) := by decide +kernel
theorem dX10_settles_8 : decode cX10_settles 8 = .ok (.aload_n 0, 1) := by decide +kernel
theorem dX10_settles_9 : decode cX10_settles 9 = .ok (.aload_n 0, 1) := by decide +kernel
theorem dX10_settles_10 : decode cX10_settles 10 = .ok (.getfield 77, 3) := by decide +kernel
theorem dX10_settles_13 : decode cX10_settles 13 = .ok (.putfield 92, 3) := by decide +kernel
theorem dX10_settles_16 : decode cX10_settles 16 = .ok (.aload_n 0, 1) := by decide +kernel
theorem dX10_settles_17 : decode cX10_settles 17 = .ok (.aload_n 0, 1) := by decide +kernel
theorem dX10_settles_18 : decode cX10_settles 18 = .ok (.getfield 83, 3) := by decide +kernel
theorem dX10_settles_21 : decode cX10_settles 21 = .ok (.putfield 95, 3) := by decide +kernel
theorem dX10_settles_24 : decode cX10_settles 24 = .ok (.aload_n 0, 1) := by decide +kernel
theorem dX10_settles_25 : decode cX10_settles 25 = .ok (.aload_n 0, 1) := by decide +kernel
theorem dX10_settles_26 : decode cX10_settles 26 = .ok (.getfield 86, 3) := by decide +kernel
theorem dX10_settles_29 : decode cX10_settles 29 = .ok (.putfield 98, 3) := by decide +kernel
theorem dX10_settles_32 : decode cX10_settles 32 = .ok (.iconst 0, 1) := by decide +kernel
theorem dX10_settles_33 : decode cX10_settles 33 = .ok (.istore_n 1, 1) := by decide +kernel
theorem dX10_settles_34 : decode cX10_settles 34 = .ok (.iload_n 1, 1) := by decide +kernel
theorem dX10_settles_35 : decode cX10_settles 35 = .ok (.bipush 64, 2) := by decide +kernel
theorem dX10_settles_37 : decode cX10_settles 37 = .ok (.if_icmp .ge 63, 3) := by decide +kernel
theorem dX10_settles_40 : decode cX10_settles 40 = .ok (.aload_n 0, 1) := by decide +kernel
theorem dX10_settles_41 : decode cX10_settles 41 = .ok (.getfield 7, 3) := by decide +kernel
theorem dX10_settles_44 : decode cX10_settles 44 = .ok (.iload_n 1, 1) := by decide +kernel
theorem dX10_settles_45 : decode cX10_settles 45 = .ok (.aload_n 0, 1) := by decide +kernel
theorem dX10_settles_46 : decode cX10_settles 46 = .ok (.getfield 28, 3) := by decide +kernel
theorem dX10_settles_49 : decode cX10_settles 49 = .ok (.iload_n 1, 1) := by decide +kernel
theorem dX10_settles_50 : decode cX10_settles 50 = .ok (.iaload, 1) := by decide +kernel
theorem dX10_settles_51 : decode cX10_settles 51 = .ok (.iastore, 1) := by decide +kernel
theorem dX10_settles_52 : decode cX10_settles 52 = .ok (.aload_n 0, 1) := by decide +kernel
theorem dX10_settles_53 : decode cX10_settles 53 = .ok (.getfield 13, 3) := by decide +kernel
theorem dX10_settles_56 : decode cX10_settles 56 = .ok (.iload_n 1, 1) := by decide +kernel
theorem dX10_settles_57 : decode cX10_settles 57 = .ok (.iload_n 1, 1) := by decide +kernel
theorem dX10_settles_58 : decode cX10_settles 58 = .ok (.bipush 8, 2) := by decide +kernel
theorem dX10_settles_60 : decode cX10_settles 60 = .ok (.idiv, 1) := by decide +kernel
theorem dX10_settles_61 : decode cX10_settles 61 = .ok (.iload_n 1, 1) := by decide +kernel
theorem dX10_settles_62 : decode cX10_settles 62 = .ok (.bipush 8, 2) := by decide +kernel
theorem dX10_settles_64 : decode cX10_settles 64 = .ok (.irem, 1) := by decide +kernel
theorem dX10_settles_65 : decode cX10_settles 65 = .ok (.if_icmp .ne 7, 3) := by decide +kernel
theorem dX10_settles_68 : decode cX10_settles 68 = .ok (.iconst 0, 1) := by decide +kernel
theorem dX10_settles_69 : decode cX10_settles 69 = .ok (.goto 24, 3) := by decide +kernel
theorem dX10_settles_72 : decode cX10_settles 72 = .ok (.aload_n 0, 1) := by decide +kernel
theorem dX10_settles_73 : decode cX10_settles 73 = .ok (.getfield 7, 3) := by decide +kernel
theorem dX10_settles_76 : decode cX10_settles 76 = .ok (.iload_n 1, 1) := by decide +kernel
theorem dX10_settles_77 : decode cX10_settles 77 = .ok (.iaload, 1) := by decide +kernel
theorem dX10_settles_78 : decode cX10_settles 78 = .ok (.ifCond .ge 9, 3) := by decide +kernel
theorem dX10_settles_81 : decode cX10_settles 81 = .ok (.sipush 9999, 3) := by decide +kernel
theorem dX10_settles_84 : decode cX10_settles 84 = .ok (.goto 9, 3) := by decide +kernel
theorem dX10_settles_87 : decode cX10_settles 87 = .ok (.aload_n 0, 1) := by decide +kernel
theorem dX10_settles_88 : decode cX10_settles 88 = .ok (.getfield 7, 3) := by decide +kernel
theorem dX10_settles_91 : decode cX10_settles 91 = .ok (.iload_n 1, 1) := by decide +kernel
theorem dX10_settles_92 : decode cX10_settles 92 = .ok (.iaload, 1) := by decide +kernel
theorem dX10_settles_93 : decode cX10_settles 93 = .ok (.iastore, 1) := by decide +kernel
theorem dX10_settles_94 : decode cX10_settles 94 = .ok (.iinc 1 1, 3) := by decide +kernel
theorem dX10_settles_97 : decode cX10_settles 97 = .ok (.goto (-63), 3) := by decide +kernel
theorem dX10_settles_100 : decode cX10_settles 100 = .ok (.iconst 0, 1) := by decide +kernel
theorem dX10_settles_101 : decode cX10_settles 101 = .ok (.istore_n 1, 1) := by decide +kernel
theorem dX10_settles_102 : decode cX10_settles 102 = .ok (.iload_n 1, 1) := by decide +kernel
theorem dX10_settles_103 : decode cX10_settles 103 = .ok (.iconst 4, 1) := by decide +kernel
theorem dX10_settles_104 : decode cX10_settles 104 = .ok (.if_icmp .ge 33, 3) := by decide +kernel
theorem dX10_settles_107 : decode cX10_settles 107 = .ok (.aload_n 0, 1) := by decide +kernel
theorem dX10_settles_108 : decode cX10_settles 108 = .ok (.getfield 16, 3) := by decide +kernel
theorem dX10_settles_111 : decode cX10_settles 111 = .ok (.iload_n 1, 1) := by decide +kernel
theorem dX10_settles_112 : decode cX10_settles 112 = .ok (.aload_n 0, 1) := by decide +kernel
theorem dX10_settles_113 : decode cX10_settles 113 = .ok (.getfield 31, 3) := by decide +kernel
theorem dX10_settles_116 : decode cX10_settles 116 = .ok (.iload_n 1, 1) := by decide +kernel
theorem dX10_settles_117 : decode cX10_settles 117 = .ok (.iaload, 1) := by decide +kernel
theorem dX10_settles_118 : decode cX10_settles 118 = .ok (.iastore, 1) := by decide +kernel
theorem dX10_settles_119 : decode cX10_settles 119 = .ok (.aload_n 0, 1) := by decide +kernel
theorem dX10_settles_120 : decode cX10_settles 120 = .ok (.getfield 19, 3) := by decide +kernel
theorem dX10_settles_123 : decode cX10_settles 123 = .ok (.iload_n 1, 1) := by decide +kernel
theorem dX10_settles_124 : decode cX10_settles 124 = .ok (.aload_n 0, 1) := by decide +kernel
theorem dX10_settles_125 : decode cX10_settles 125 = .ok (.getfield 34, 3) := by decide +kernel
theorem dX10_settles_128 : decode cX10_settles 128 = .ok (.iload_n 1, 1) := by decide +kernel
theorem dX10_settles_129 : decode cX10_settles 129 = .ok (.iaload, 1) := by decide +kernel
theorem dX10_settles_130 : decode cX10_settles 130 = .ok (.iastore, 1) := by decide +kernel
theorem dX10_settles_131 : decode cX10_settles 131 = .ok (.iinc 1 1, 3) := by decide +kernel
theorem dX10_settles_134 : decode cX10_settles 134 = .ok (.goto (-32), 3) := by decide +kernel
theorem dX10_settles_137 : decode cX10_settles 137 = .ok (.iconst 0, 1) := by decide +kernel
theorem dX10_settles_138 : decode cX10_settles 138 = .ok (.istore_n 1, 1) := by decide +kernel
theorem dX10_settles_139 : decode cX10_settles 139 = .ok (.iload_n 1, 1) := by decide +kernel
theorem dX10_settles_140 : decode cX10_settles 140 = .ok (.iconst 5, 1) := by decide +kernel
theorem dX10_settles_141 : decode cX10_settles 141 = .ok (.if_icmp .ge 33, 3) := by decide +kernel
theorem dX10_settles_144 : decode cX10_settles 144 = .ok (.aload_n 0, 1) := by decide +kernel
theorem dX10_settles_145 : decode cX10_settles 145 = .ok (.getfield 22, 3) := by decide +kernel
theorem dX10_settles_148 : decode cX10_settles 148 = .ok (.iload_n 1, 1) := by decide +kernel
theorem dX10_settles_149 : decode cX10_settles 149 = .ok (.aload_n 0, 1) := by decide +kernel
theorem dX10_settles_150 : decode cX10_settles 150 = .ok (.getfield 37, 3) := by decide +kernel
theorem dX10_settles_153 : decode cX10_settles 153 = .ok (.iload_n 1, 1) := by decide +kernel
theorem dX10_settles_154 : decode cX10_settles 154 = .ok (.iaload, 1) := by decide +kernel
theorem dX10_settles_155 : decode cX10_settles 155 = .ok (.iastore, 1) := by decide +kernel
theorem dX10_settles_156 : decode cX10_settles 156 = .ok (.aload_n 0, 1) := by decide +kernel
theorem dX10_settles_157 : decode cX10_settles 157 = .ok (.getfield 25, 3) := by decide +kernel
theorem dX10_settles_160 : decode cX10_settles 160 = .ok (.iload_n 1, 1) := by decide +kernel
theorem dX10_settles_161 : decode cX10_settles 161 = .ok (.aload_n 0, 1) := by decide +kernel
theorem dX10_settles_162 : decode cX10_settles 162 = .ok (.getfield 40, 3) := by decide +kernel
theorem dX10_settles_165 : decode cX10_settles 165 = .ok (.iload_n 1, 1) := by decide +kernel
theorem dX10_settles_166 : decode cX10_settles 166 = .ok (.iaload, 1) := by decide +kernel
theorem dX10_settles_167 : decode cX10_settles 167 = .ok (.iastore, 1) := by decide +kernel
theorem dX10_settles_168 : decode cX10_settles 168 = .ok (.iinc 1 1, 3) := by decide +kernel
theorem dX10_settles_171 : decode cX10_settles 171 = .ok (.goto (-32), 3) := by decide +kernel
theorem dX10_settles_174 : decode cX10_settles 174 = .ok (.iconst 0, 1) := by decide +kernel
theorem dX10_settles_175 : decode cX10_settles 175 = .ok (.istore_n 1, 1) := by decide +kernel
theorem dX10_settles_176 : decode cX10_settles 176 = .ok (.iload_n 1, 1) := by decide +kernel
theorem dX10_settles_177 : decode cX10_settles 177 = .ok (.bipush 8, 2) := by decide +kernel
theorem dX10_settles_179 : decode cX10_settles 179 = .ok (.if_icmp .ge 67, 3) := by decide +kernel
theorem dX10_settles_182 : decode cX10_settles 182 = .ok (.iconst 0, 1) := by decide +kernel
theorem dX10_settles_183 : decode cX10_settles 183 = .ok (.istore_n 2, 1) := by decide +kernel
theorem dX10_settles_184 : decode cX10_settles 184 = .ok (.iload_n 2, 1) := by decide +kernel
theorem dX10_settles_185 : decode cX10_settles 185 = .ok (.bipush 64, 2) := by decide +kernel
theorem dX10_settles_187 : decode cX10_settles 187 = .ok (.if_icmp .ge 53, 3) := by decide +kernel
theorem dX10_settles_190 : decode cX10_settles 190 = .ok (.aload_n 0, 1) := by decide +kernel
theorem dX10_settles_191 : decode cX10_settles 191 = .ok (.getfield 13, 3) := by decide +kernel
theorem dX10_settles_194 : decode cX10_settles 194 = .ok (.iload_n 2, 1) := by decide +kernel
theorem dX10_settles_195 : decode cX10_settles 195 = .ok (.aload_n 0, 1) := by decide +kernel
theorem dX10_settles_196 : decode cX10_settles 196 = .ok (.getfield 13, 3) := by decide +kernel
theorem dX10_settles_199 : decode cX10_settles 199 = .ok (.iload_n 2, 1) := by decide +kernel
theorem dX10_settles_200 : decode cX10_settles 200 = .ok (.iaload, 1) := by decide +kernel
theorem dX10_settles_201 : decode cX10_settles 201 = .ok (.aload_n 0, 1) := by decide +kernel
theorem dX10_settles_202 : decode cX10_settles 202 = .ok (.getfield 13, 3) := by decide +kernel
theorem dX10_settles_205 : decode cX10_settles 205 = .ok (.iload_n 2, 1) := by decide +kernel
theorem dX10_settles_206 : decode cX10_settles 206 = .ok (.bipush 8, 2) := by decide +kernel
theorem dX10_settles_208 : decode cX10_settles 208 = .ok (.idiv, 1) := by decide +kernel
theorem dX10_settles_209 : decode cX10_settles 209 = .ok (.bipush 8, 2) := by decide +kernel
theorem dX10_settles_211 : decode cX10_settles 211 = .ok (.imul, 1) := by decide +kernel
theorem dX10_settles_212 : decode cX10_settles 212 = .ok (.iload_n 1, 1) := by decide +kernel
theorem dX10_settles_213 : decode cX10_settles 213 = .ok (.iadd, 1) := by decide +kernel
theorem dX10_settles_214 : decode cX10_settles 214 = .ok (.iaload, 1) := by decide +kernel
theorem dX10_settles_215 : decode cX10_settles 215 = .ok (.aload_n 0, 1) := by decide +kernel
theorem dX10_settles_216 : decode cX10_settles 216 = .ok (.getfield 13, 3) := by decide +kernel
theorem dX10_settles_219 : decode cX10_settles 219 = .ok (.bipush 8, 2) := by decide +kernel
theorem dX10_settles_221 : decode cX10_settles 221 = .ok (.iload_n 1, 1) := by decide +kernel
theorem dX10_settles_222 : decode cX10_settles 222 = .ok (.imul, 1) := by decide +kernel
theorem dX10_settles_223 : decode cX10_settles 223 = .ok (.iload_n 2, 1) := by decide +kernel
theorem dX10_settles_224 : decode cX10_settles 224 = .ok (.bipush 8, 2) := by decide +kernel
theorem dX10_settles_226 : decode cX10_settles 226 = .ok (.irem, 1) := by decide +kernel
theorem dX10_settles_227 : decode cX10_settles 227 = .ok (.iadd, 1) := by decide +kernel
theorem dX10_settles_228 : decode cX10_settles 228 = .ok (.iaload, 1) := by decide +kernel
theorem dX10_settles_229 : decode cX10_settles 229 = .ok (.iadd, 1) := by decide +kernel
theorem dX10_settles_230 : decode cX10_settles 230 = .ok (.invokestatic 101, 3) := by decide +kernel
theorem dX10_settles_233 : decode cX10_settles 233 = .ok (.iastore, 1) := by decide +kernel
theorem dX10_settles_234 : decode cX10_settles 234 = .ok (.iinc 2 1, 3) := by decide +kernel
theorem dX10_settles_237 : decode cX10_settles 237 = .ok (.goto (-53), 3) := by decide +kernel
theorem dX10_settles_240 : decode cX10_settles 240 = .ok (.iinc 1 1, 3) := by decide +kernel
theorem dX10_settles_243 : decode cX10_settles 243 = .ok (.goto (-67), 3) := by decide +kernel
theorem dX10_settles_246 : decode cX10_settles 246 = .ok (.aload_n 0, 1) := by decide +kernel
theorem dX10_settles_247 : decode cX10_settles 247 = .ok (.sipush 704, 3) := by decide +kernel
theorem dX10_settles_250 : decode cX10_settles 250 = .ok (.iconst 0, 1) := by decide +kernel
theorem dX10_settles_251 : decode cX10_settles 251 = .ok (.invokevirtual 105, 3) := by decide +kernel
theorem dX10_settles_254 : decode cX10_settles 254 = .ok (.return_, 1) := by decide +kernel
theorem dX10_isPlace_0 : decode cX10_isPlace 0 = .ok (.iload_n 1, 1) := by decide +kernel
theorem dX10_isPlace_1 : decode cX10_isPlace 1 = .ok (.i2l, 1) := by decide +kernel
theorem dX10_isPlace_2 : decode cX10_isPlace 2 = .ok (.lconst 0, 1) := by decide +kernel
theorem dX10_isPlace_3 : decode cX10_isPlace 3 = .ok (.aload_n 0, 1) := by decide +kernel
theorem dX10_isPlace_4 : decode cX10_isPlace 4 = .ok (.getfield 89, 3) := by decide +kernel
theorem dX10_isPlace_7 : decode cX10_isPlace 7 = .ok (.iconst 1, 1) := by decide +kernel
theorem dX10_isPlace_8 : decode cX10_isPlace 8 = .ok (.isub, 1) := by decide +kernel
theorem dX10_isPlace_9 : decode cX10_isPlace 9 = .ok (.i2l, 1) := by decide +kernel
theorem dX10_isPlace_10 : decode cX10_isPlace 10 = .ok (.invokestatic 108, 3) := by decide +kernel
theorem dX10_isPlace_13 : decode cX10_isPlace 13 = .ok (.ireturn, 1) := by decide +kernel
theorem dX10_isDoor_0 : decode cX10_isDoor 0 = .ok (.iload_n 1, 1) := by decide +kernel
theorem dX10_isDoor_1 : decode cX10_isDoor 1 = .ok (.i2l, 1) := by decide +kernel
theorem dX10_isDoor_2 : decode cX10_isDoor 2 = .ok (.lconst 0, 1) := by decide +kernel
theorem dX10_isDoor_3 : decode cX10_isDoor 3 = .ok (.aload_n 0, 1) := by decide +kernel
theorem dX10_isDoor_4 : decode cX10_isDoor 4 = .ok (.getfield 95, 3) := by decide +kernel
theorem dX10_isDoor_7 : decode cX10_isDoor 7 = .ok (.iconst 1, 1) := by decide +kernel
theorem dX10_isDoor_8 : decode cX10_isDoor 8 = .ok (.isub, 1) := by decide +kernel
theorem dX10_isDoor_9 : decode cX10_isDoor 9 = .ok (.i2l, 1) := by decide +kernel
theorem dX10_isDoor_10 : decode cX10_isDoor 10 = .ok (.invokestatic 108, 3) := by decide +kernel
theorem dX10_isDoor_13 : decode cX10_isDoor 13 = .ok (.ireturn, 1) := by decide +kernel
theorem dX10_isBeast_0 : decode cX10_isBeast 0 = .ok (.iload_n 1, 1) := by decide +kernel
theorem dX10_isBeast_1 : decode cX10_isBeast 1 = .ok (.i2l, 1) := by decide +kernel
theorem dX10_isBeast_2 : decode cX10_isBeast 2 = .ok (.lconst 0, 1) := by decide +kernel
theorem dX10_isBeast_3 : decode cX10_isBeast 3 = .ok (.aload_n 0, 1) := by decide +kernel
theorem dX10_isBeast_4 : decode cX10_isBeast 4 = .ok (.getfield 98, 3) := by decide +kernel
theorem dX10_isBeast_7 : decode cX10_isBeast 7 = .ok (.iconst 1, 1) := by decide +kernel
theorem dX10_isBeast_8 : decode cX10_isBeast 8 = .ok (.isub, 1) := by decide +kernel
theorem dX10_isBeast_9 : decode cX10_isBeast 9 = .ok (.i2l, 1) := by decide +kernel
theorem dX10_isBeast_10 : decode cX10_isBeast 10 = .ok (.invokestatic 108, 3) := by decide +kernel
theorem dX10_isBeast_13 : decode cX10_isBeast 13 = .ok (.ireturn, 1) := by decide +kernel
theorem dX10_write_0 : decode cX10_write 0 = .ok (.iload_n 1, 1) := by decide +kernel
theorem dX10_write_1 : decode cX10_write 1 = .ok (.i2l, 1) := by decide +kernel
theorem dX10_write_2 : decode cX10_write 2 = .ok (.ldc2_w 112, 3) := by decide +kernel
theorem dX10_write_5 : decode cX10_write 5 = .ok (.ldc2_w 114, 3) := by decide +kernel
theorem dX10_write_8 : decode cX10_write 8 = .ok (.invokestatic 108, 3) := by decide +kernel
theorem dX10_write_11 : decode cX10_write 11 = .ok (.ifCond .ne 5, 3) := by decide +kernel
theorem dX10_write_14 : decode cX10_write 14 = .ok (.iconst (-1), 1) := by decide +kernel
theorem dX10_write_15 : decode cX10_write 15 = .ok (.ireturn, 1) := by decide +kernel
theorem dX10_write_16 : decode cX10_write 16 = .ok (.aload_n 0, 1) := by decide +kernel
theorem dX10_write_17 : decode cX10_write 17 = .ok (.getfield 116, 3) := by decide +kernel
theorem dX10_write_20 : decode cX10_write 20 = .ok (.sipush 200, 3) := by decide +kernel
theorem dX10_write_23 : decode cX10_write 23 = .ok (.if_icmp .ne 6, 3) := by decide +kernel
theorem dX10_write_26 : decode cX10_write 26 = .ok (.bipush (-3), 2) := by decide +kernel
theorem dX10_write_28 : decode cX10_write 28 = .ok (.ireturn, 1) := by decide +kernel
theorem dX10_write_29 : decode cX10_write 29 = .ok (.aload_n 0, 1) := by decide +kernel
theorem dX10_write_30 : decode cX10_write 30 = .ok (.getfield 46, 3) := by decide +kernel
theorem dX10_write_33 : decode cX10_write 33 = .ok (.aload_n 0, 1) := by decide +kernel
theorem dX10_write_34 : decode cX10_write 34 = .ok (.getfield 116, 3) := by decide +kernel
theorem dX10_write_37 : decode cX10_write 37 = .ok (.iload_n 1, 1) := by decide +kernel
theorem dX10_write_38 : decode cX10_write 38 = .ok (.i2b, 1) := by decide +kernel
theorem dX10_write_39 : decode cX10_write 39 = .ok (.bastore, 1) := by decide +kernel
theorem dX10_write_40 : decode cX10_write 40 = .ok (.aload_n 0, 1) := by decide +kernel
theorem dX10_write_41 : decode cX10_write 41 = .ok (.dup, 1) := by decide +kernel
theorem dX10_write_42 : decode cX10_write 42 = .ok (.getfield 116, 3) := by decide +kernel
theorem dX10_write_45 : decode cX10_write 45 = .ok (.iconst 1, 1) := by decide +kernel
theorem dX10_write_46 : decode cX10_write 46 = .ok (.iadd, 1) := by decide +kernel
theorem dX10_write_47 : decode cX10_write 47 = .ok (.putfield 116, 3) := by decide +kernel
theorem dX10_write_50 : decode cX10_write 50 = .ok (.aload_n 0, 1) := by decide +kernel
theorem dX10_write_51 : decode cX10_write 51 = .ok (.getfield 116, 3) := by decide +kernel
theorem dX10_write_54 : decode cX10_write 54 = .ok (.ireturn, 1) := by decide +kernel
theorem dX10_wipe_0 : decode cX10_wipe 0 = .ok (.aload_n 0, 1) := by decide +kernel
theorem dX10_wipe_1 : decode cX10_wipe 1 = .ok (.getfield 116, 3) := by decide +kernel
theorem dX10_wipe_4 : decode cX10_wipe 4 = .ok (.istore_n 1, 1) := by decide +kernel
theorem dX10_wipe_5 : decode cX10_wipe 5 = .ok (.aload_n 0, 1) := by decide +kernel
theorem dX10_wipe_6 : decode cX10_wipe 6 = .ok (.iconst 0, 1) := by decide +kernel
theorem dX10_wipe_7 : decode cX10_wipe 7 = .ok (.putfield 116, 3) := by decide +kernel
theorem dX10_wipe_10 : decode cX10_wipe 10 = .ok (.iload_n 1, 1) := by decide +kernel
theorem dX10_wipe_11 : decode cX10_wipe 11 = .ok (.ireturn, 1) := by decide +kernel
theorem dX10_byteNow_0 : decode cX10_byteNow 0 = .ok (.aload_n 0, 1) := by decide +kernel
theorem dX10_byteNow_1 : decode cX10_byteNow 1 = .ok (.getfield 119, 3) := by decide +kernel
theorem dX10_byteNow_4 : decode cX10_byteNow 4 = .ok (.aload_n 0, 1) := by decide +kernel
theorem dX10_byteNow_5 : decode cX10_byteNow 5 = .ok (.getfield 116, 3) := by decide +kernel
theorem dX10_byteNow_8 : decode cX10_byteNow 8 = .ok (.if_icmp .ge 15, 3) := by decide +kernel
theorem dX10_byteNow_11 : decode cX10_byteNow 11 = .ok (.aload_n 0, 1) := by decide +kernel
theorem dX10_byteNow_12 : decode cX10_byteNow 12 = .ok (.getfield 46, 3) := by decide +kernel
theorem dX10_byteNow_15 : decode cX10_byteNow 15 = .ok (.aload_n 0, 1) := by decide +kernel
theorem dX10_byteNow_16 : decode cX10_byteNow 16 = .ok (.getfield 119, 3) := by decide +kernel
theorem dX10_byteNow_19 : decode cX10_byteNow 19 = .ok (.baload, 1) := by decide +kernel
theorem dX10_byteNow_20 : decode cX10_byteNow 20 = .ok (.goto 4, 3) := by decide +kernel
theorem dX10_byteNow_23 : decode cX10_byteNow 23 = .ok (.iconst (-1), 1) := by decide +kernel
theorem dX10_byteNow_24 : decode cX10_byteNow 24 = .ok (.ireturn, 1) := by decide +kernel
theorem qX10_in : jYs yX10_in cX10_in 6 (some .boolean) 3 := ⟨tw_1018, tw_72, tw_1019, ⟨by decide +kernel, by decide +kernel, by decide +kernel⟩⟩
abbrev rX10_in : Room := { frames := 0, cells := 0, slots := 0, locals := 0 }
def uX10_in : jM := (cX10_in, 6, RX10, (some .boolean), rX10_in)
def pX10_in (fu : Nat) (x0 : Int64) (x2 : Int64) (x4 : Int64) (M : Mem) : Res :=
  if (lg_cmp x0 x2) < 0 then (
    rtz (0 : Int32) M)
  else
  if 0 < (lg_cmp x0 x4) then (
    rtz (0 : Int32) M)
  else
  rtz (1 : Int32) M
set_option maxRecDepth 100000 in
theorem wX10_in {E : jE} {X : jC} (hX : jOk X uX10_in (gM E)) (fu : Nat)  (x0 : Int64) (x2 : Int64) (x4 : Int64) (M : Mem) : J X uX10_in (gM E) 0 [(0, .long x0), (2, .long x2), (4, .long x4)] [] M (pX10_in fu  x0 x2 x4 M) := by
  unfold pX10_in
  refine j_lload_n (pc := 0) hX 0 dX10_in_0 rfl rfl ?_
  refine j_lload_n (pc := 1) hX 1 dX10_in_1 rfl rfl ?_
  refine j_lcmp (pc := 2) hX dX10_in_2 ?_
  refine j_if_lt (pc := 3) hX 17 dX10_in_3 (by decide) ?_ ?_
  · refine j_iconst (pc := 17) (v := (0 : Int32)) hX dX10_in_17 ci_0 ?_
    exact j_zret (pc := 18) hX rfl dX10_in_18
  · refine j_lload_n (pc := 6) hX 0 dX10_in_6 rfl rfl ?_
    refine j_lload (pc := 7) hX 2 dX10_in_7 rfl ?_
    refine j_lcmp (pc := 9) hX dX10_in_9 ?_
    refine j_if_gt (pc := 10) hX 17 dX10_in_10 (by decide) ?_ ?_
    · refine j_iconst (pc := 17) (v := (0 : Int32)) hX dX10_in_17 ci_0 ?_
      exact j_zret (pc := 18) hX rfl dX10_in_18
    · refine j_iconst (pc := 13) (v := (1 : Int32)) hX dX10_in_13 ci_1 ?_
      refine j_goto (pc := 14) hX 18 dX10_in_14 (by decide) ?_
      exact j_zret (pc := 18) hX rfl dX10_in_18
theorem mX10_in (l : Launch) (E : jE) (hI : jInj (gM E)) (fu : Nat)  (x0 : Int64) (x2 : Int64) (x4 : Int64) (M : Mem) : jMet l (gM E) yX10_in cX10_in 6 (some .boolean) rX10_in [.long x0, .long x2, .long x4] M (pX10_in fu  x0 x2 x4 M) :=
  j_entry hI (by decide +kernel) (Nat.le_of_ble_eq_true rfl) rfl (fun X _ hX => wX10_in hX fu   x0 x2 x4 M)
theorem qX10_has : jYs yX10_has cX10_has 2 (some .boolean) 2 := ⟨tw_1161, tw_72, tw_1162, ⟨by decide +kernel, by decide +kernel, by decide +kernel⟩⟩
abbrev rX10_has : Room := { frames := 0, cells := 0, slots := 0, locals := 0 }
def uX10_has : jM := (cX10_has, 2, RX10, (some .boolean), rX10_has)
def pX10_has (fu : Nat) (x0 : Int32) (x1 : Int32) (M : Mem) : Res :=
  if ((x0 >>> (x1 &&& 31)) &&& (1 : Int32)) = (1 : Int32) then (
    rtz (1 : Int32) M)
  else
  rtz (0 : Int32) M
set_option maxRecDepth 100000 in
theorem wX10_has {E : jE} {X : jC} (hX : jOk X uX10_has (gM E)) (fu : Nat)  (x0 : Int32) (x1 : Int32) (M : Mem) : J X uX10_has (gM E) 0 [(0, .int x0), (1, .int x1)] [] M (pX10_has fu  x0 x1 M) := by
  unfold pX10_has
  refine j_iload_n (pc := 0) hX 0 dX10_has_0 rfl rfl ?_
  refine j_iload_n (pc := 1) hX 1 dX10_has_1 rfl rfl ?_
  refine j_ishr (pc := 2) hX dX10_has_2 ?_
  refine j_iconst (pc := 3) (v := (1 : Int32)) hX dX10_has_3 ci_1 ?_
  refine j_iand (pc := 4) hX dX10_has_4 ?_
  refine j_iconst (pc := 5) (v := (1 : Int32)) hX dX10_has_5 ci_1 ?_
  refine j_icmp_ne (pc := 6) hX 13 dX10_has_6 (by decide) ?_ ?_
  · refine j_iconst (pc := 13) (v := (0 : Int32)) hX dX10_has_13 ci_0 ?_
    exact j_zret (pc := 14) hX rfl dX10_has_14
  · refine j_iconst (pc := 9) (v := (1 : Int32)) hX dX10_has_9 ci_1 ?_
    refine j_goto (pc := 10) hX 14 dX10_has_10 (by decide) ?_
    exact j_zret (pc := 14) hX rfl dX10_has_14
theorem mX10_has (l : Launch) (E : jE) (hI : jInj (gM E)) (fu : Nat)  (x0 : Int32) (x1 : Int32) (M : Mem) : jMet l (gM E) yX10_has cX10_has 2 (some .boolean) rX10_has [.int x0, .int x1] M (pX10_has fu  x0 x1 M) :=
  j_entry hI (by decide +kernel) (Nat.le_of_ble_eq_true rfl) rfl (fun X _ hX => wX10_has hX fu   x0 x1 M)
theorem qX10_smaller : jYs yX10_smaller cX10_smaller 2 (some .int) 2 := ⟨tw_914, tw_72, tw_915, ⟨by decide +kernel, by decide +kernel, by decide +kernel⟩⟩
abbrev rX10_smaller : Room := { frames := 0, cells := 0, slots := 0, locals := 0 }
def uX10_smaller : jM := (cX10_smaller, 2, RX10, (some .int), rX10_smaller)
def pX10_smaller (fu : Nat) (x0 : Int32) (x1 : Int32) (M : Mem) : Res :=
  if x1 ≤ x0 then (
    some (x1, M))
  else
  some (x0, M)
set_option maxRecDepth 100000 in
theorem wX10_smaller {E : jE} {X : jC} (hX : jOk X uX10_smaller (gM E)) (fu : Nat)  (x0 : Int32) (x1 : Int32) (M : Mem) : J X uX10_smaller (gM E) 0 [(0, .int x0), (1, .int x1)] [] M (pX10_smaller fu  x0 x1 M) := by
  unfold pX10_smaller
  refine j_iload_n (pc := 0) hX 0 dX10_smaller_0 rfl rfl ?_
  refine j_iload_n (pc := 1) hX 1 dX10_smaller_1 rfl rfl ?_
  refine j_icmp_ge (pc := 2) hX 9 dX10_smaller_2 (by decide) ?_ ?_
  · refine j_iload_n (pc := 9) hX 1 dX10_smaller_9 rfl rfl ?_
    exact j_iret (pc := 10) hX rfl dX10_smaller_10
  · refine j_iload_n (pc := 5) hX 0 dX10_smaller_5 rfl rfl ?_
    refine j_goto (pc := 6) hX 10 dX10_smaller_6 (by decide) ?_
    exact j_iret (pc := 10) hX rfl dX10_smaller_10
theorem mX10_smaller (l : Launch) (E : jE) (hI : jInj (gM E)) (fu : Nat)  (x0 : Int32) (x1 : Int32) (M : Mem) : jMet l (gM E) yX10_smaller cX10_smaller 2 (some .int) rX10_smaller [.int x0, .int x1] M (pX10_smaller fu  x0 x1 M) :=
  j_entry hI (by decide +kernel) (Nat.le_of_ble_eq_true rfl) rfl (fun X _ hX => wX10_smaller hX fu   x0 x1 M)
theorem qX10_larger : jYs yX10_larger cX10_larger 2 (some .int) 2 := ⟨tw_1113, tw_72, tw_1114, ⟨by decide +kernel, by decide +kernel, by decide +kernel⟩⟩
abbrev rX10_larger : Room := { frames := 0, cells := 0, slots := 0, locals := 0 }
def uX10_larger : jM := (cX10_larger, 2, RX10, (some .int), rX10_larger)
def pX10_larger (fu : Nat) (x0 : Int32) (x1 : Int32) (M : Mem) : Res :=
  if x1 ≤ x0 then (
    some (x0, M))
  else
  some (x1, M)
set_option maxRecDepth 100000 in
theorem wX10_larger {E : jE} {X : jC} (hX : jOk X uX10_larger (gM E)) (fu : Nat)  (x0 : Int32) (x1 : Int32) (M : Mem) : J X uX10_larger (gM E) 0 [(0, .int x0), (1, .int x1)] [] M (pX10_larger fu  x0 x1 M) := by
  unfold pX10_larger
  refine j_iload_n (pc := 0) hX 0 dX10_larger_0 rfl rfl ?_
  refine j_iload_n (pc := 1) hX 1 dX10_larger_1 rfl rfl ?_
  refine j_icmp_ge (pc := 2) hX 9 dX10_larger_2 (by decide) ?_ ?_
  · refine j_iload_n (pc := 9) hX 0 dX10_larger_9 rfl rfl ?_
    exact j_iret (pc := 10) hX rfl dX10_larger_10
  · refine j_iload_n (pc := 5) hX 1 dX10_larger_5 rfl rfl ?_
    refine j_goto (pc := 6) hX 10 dX10_larger_6 (by decide) ?_
    exact j_iret (pc := 10) hX rfl dX10_larger_10
theorem mX10_larger (l : Launch) (E : jE) (hI : jInj (gM E)) (fu : Nat)  (x0 : Int32) (x1 : Int32) (M : Mem) : jMet l (gM E) yX10_larger cX10_larger 2 (some .int) rX10_larger [.int x0, .int x1] M (pX10_larger fu  x0 x1 M) :=
  j_entry hI (by decide +kernel) (Nat.le_of_ble_eq_true rfl) rfl (fun X _ hX => wX10_larger hX fu   x0 x1 M)
theorem qX10_clears : jYv yX10_clears cX10_clears 2 none 0 := ⟨tw_895, tw_17, tw_72, tw_896, ⟨by decide +kernel, by decide +kernel, by decide +kernel⟩⟩
abbrev rX10_clears : Room := { frames := 0, cells := 0, slots := 0, locals := 0 }
def uX10_clears : jM := (cX10_clears, 2, RX10, none, rX10_clears)
def pX10_clears_22b (fu : Nat) (x1 : Int32) (M : Mem) (c22 : Int32 → Mem → Res) : Res :=
  if (64 : Int32) ≤ x1 then (
    some (0, M))
  else
  sto M 7 64 x1 (-4 : Int32) fun M5 =>
  sto M5 12 768 ((704 : Int32) + x1) (0 : Int32) fun M6 =>
  c22 (x1 + (1 : Int32)) M6
set_option maxRecDepth 100000 in
theorem wX10_clears_22b {E : jE} {X : jC} (hX : jOk X uX10_clears (gM E)) (fu : Nat)  (x1 : Int32) (M : Mem) (c22 : Int32 → Mem → Res) (hc22 : ∀ (x1 : Int32) (M : Mem), J X uX10_clears (gM E) 22 [(0, .ref (gad (gM E) 0)), (1, .int x1)] [] M (c22 x1 M)) : J X uX10_clears (gM E) 22 [(0, .ref (gad (gM E) 0)), (1, .int x1)] [] M (pX10_clears_22b fu  x1 M c22) := by
  unfold pX10_clears_22b
  refine j_iload_n (pc := 22) hX 1 dX10_clears_22 rfl rfl ?_
  refine j_bipush (pc := 23) (v := (64 : Int32)) hX dX10_clears_23 cb_64 ?_
  refine j_icmp_ge (pc := 25) hX 53 dX10_clears_25 (by decide) ?_ ?_
  · exact j_vret (pc := 53) hX rfl dX10_clears_53
  · refine j_aload_n (pc := 28) hX 0 dX10_clears_28 rfl rfl ?_
    refine j_getR (pc := 29) (t := 7) hX (jb rfl) rfl (ci := 9) (C := RX10) (T := TX10) (N := 30) rfl (jb rfl) inX10 (j := 11) (jb rfl) rfl tw_931 dX10_clears_29 ?_
    refine j_iload_n (pc := 32) hX 1 dX10_clears_32 rfl rfl ?_
    refine j_bipush (pc := 33) (v := (-4 : Int32)) hX dX10_clears_33 cb_m4 ?_
    refine j_iast (pc := 35) hX (jb rfl) rfl rfl dX10_clears_35 (fun M5 => ?_)
    refine j_aload_n (pc := 36) hX 0 dX10_clears_36 rfl rfl ?_
    refine j_getR (pc := 37) (t := 12) hX (jb rfl) rfl (ci := 9) (C := RX10) (T := TX10) (N := 30) rfl (jb rfl) inX10 (j := 19) (jb rfl) rfl tw_939 dX10_clears_37 ?_
    refine j_sipush (pc := 40) (v := (704 : Int32)) hX dX10_clears_40 cs_704 ?_
    refine j_iload_n (pc := 43) hX 1 dX10_clears_43 rfl rfl ?_
    refine j_iadd (pc := 44) hX dX10_clears_44 ?_
    refine j_iconst (pc := 45) (v := (0 : Int32)) hX dX10_clears_45 ci_0 ?_
    refine j_iast (pc := 46) hX (jb rfl) rfl rfl dX10_clears_46 (fun M6 => ?_)
    refine j_iinc (pc := 47) (v := (x1 + (1 : Int32))) (lv' := [(1, .int (x1 + (1 : Int32))), (0, .ref (gad (gM E) 0))]) hX 1 dX10_clears_47 rfl (by rw [ci_1]) (jb rfl) rfl ?_
    refine j_goto (pc := 50) hX 22 dX10_clears_50 (by decide) ?_
    exact j_sub [1, 0] rfl (hc22 (x1 + (1 : Int32)) M6)
def pX10_clears_22 (fu : Nat)  : Nat → Int32 → Mem → Res
  | 0, _, _ => none
  | n + 1, x1, M => pX10_clears_22b fu  x1 M (pX10_clears_22 fu   n)
theorem wX10_clears_22 {E : jE} {X : jC} (hX : jOk X uX10_clears (gM E)) (fu : Nat)    : ∀ (n : Nat) (x1 : Int32) (M : Mem), J X uX10_clears (gM E) 22 [(0, .ref (gad (gM E) 0)), (1, .int x1)] [] M (pX10_clears_22 fu   n x1 M) := by
  intro n
  induction n with
  | zero => intro x1 M; exact j_none
  | succ n ih => intro x1 M; exact wX10_clears_22b hX fu   x1 M (pX10_clears_22 fu   n) ih
def pX10_clears (fu : Nat)  (M : Mem) : Res :=
  fpt M 0 10 (5 : Int32) fun M1 =>
  fpt M1 0 12 (0 : Int32) fun M2 =>
  fpt M2 0 13 (0 : Int32) fun M3 =>
  fpt M3 0 16 (0 : Int32) fun M4 =>
  pX10_clears_22 fu
    fu (0 : Int32) M4
set_option maxRecDepth 100000 in
theorem wX10_clears {E : jE} {X : jC} (hX : jOk X uX10_clears (gM E)) (fu : Nat)   (M : Mem) : J X uX10_clears (gM E) 0 [(0, .ref (gad (gM E) 0))] [] M (pX10_clears fu   M) := by
  unfold pX10_clears
  refine j_aload_n (pc := 0) hX 0 dX10_clears_0 rfl rfl ?_
  refine j_iconst (pc := 1) (v := (5 : Int32)) hX dX10_clears_1 ci_5 ?_
  refine j_putI (pc := 2) hX (jb rfl) rfl (ci := 9) (C := RX10) (T := TX10) (N := 30) rfl (jb rfl) inX10 tyX10 tyX10_ok nmX10 (j := 10) (jb rfl) rfl tw_930 rfl (tyX10_ok 10 (jb rfl)) dX10_clears_2 (fun M1 => ?_)
  refine j_aload_n (pc := 5) hX 0 dX10_clears_5 rfl rfl ?_
  refine j_iconst (pc := 6) (v := (0 : Int32)) hX dX10_clears_6 ci_0 ?_
  refine j_putI (pc := 7) hX (jb rfl) rfl (ci := 9) (C := RX10) (T := TX10) (N := 30) rfl (jb rfl) inX10 tyX10 tyX10_ok nmX10 (j := 12) (jb rfl) rfl tw_932 rfl (tyX10_ok 12 (jb rfl)) dX10_clears_7 (fun M2 => ?_)
  refine j_aload_n (pc := 10) hX 0 dX10_clears_10 rfl rfl ?_
  refine j_iconst (pc := 11) (v := (0 : Int32)) hX dX10_clears_11 ci_0 ?_
  refine j_putI (pc := 12) hX (jb rfl) rfl (ci := 9) (C := RX10) (T := TX10) (N := 30) rfl (jb rfl) inX10 tyX10 tyX10_ok nmX10 (j := 13) (jb rfl) rfl tw_933 rfl (tyX10_ok 13 (jb rfl)) dX10_clears_12 (fun M3 => ?_)
  refine j_aload_n (pc := 15) hX 0 dX10_clears_15 rfl rfl ?_
  refine j_iconst (pc := 16) (v := (0 : Int32)) hX dX10_clears_16 ci_0 ?_
  refine j_putI (pc := 17) hX (jb rfl) rfl (ci := 9) (C := RX10) (T := TX10) (N := 30) rfl (jb rfl) inX10 tyX10 tyX10_ok nmX10 (j := 16) (jb rfl) rfl tw_936 rfl (tyX10_ok 16 (jb rfl)) dX10_clears_17 (fun M4 => ?_)
  refine j_iconst (pc := 20) (v := (0 : Int32)) hX dX10_clears_20 ci_0 ?_
  refine j_istore_n (pc := 21) (lv' := [(1, .int (0 : Int32)), (0, .ref (gad (gM E) 0))]) hX dX10_clears_21 rfl (jb rfl) rfl ?_
  refine j_sub [1, 0] rfl (wX10_clears_22 hX fu     fu (0 : Int32) M4)
theorem mX10_clears (l : Launch) (E : jE) (hI : jInj (gM E)) (fu : Nat)   (M : Mem) : jMet l (gM E) yX10_clears cX10_clears 2 none rX10_clears [.ref (gad (gM E) 0)] M (pX10_clears fu   M) :=
  j_entry hI (by decide +kernel) (Nat.le_of_ble_eq_true rfl) rfl (fun X _ hX => wX10_clears hX fu    M)
theorem qX10_leads : jYv yX10_leads cX10_leads 4 none 3 := ⟨tw_899, tw_18, tw_72, tw_900, ⟨by decide +kernel, by decide +kernel, by decide +kernel⟩⟩
abbrev rX10_leads : Room := { frames := 0, cells := 0, slots := 0, locals := 0 }
def uX10_leads : jM := (cX10_leads, 4, RX10, none, rX10_leads)
def pX10_leads (fu : Nat) (x1 : Int32) (x2 : Int32) (x3 : Int32) (M : Mem) : Res :=
  sto M 7 64 (((8 : Int32) * x1) + x2) x3 fun M1 =>
  sto M1 7 64 (((8 : Int32) * x2) + x1) x3 fun M2 =>
  some (0, M2)
set_option maxRecDepth 100000 in
theorem wX10_leads {E : jE} {X : jC} (hX : jOk X uX10_leads (gM E)) (fu : Nat)  (x1 : Int32) (x2 : Int32) (x3 : Int32) (M : Mem) : J X uX10_leads (gM E) 0 [(0, .ref (gad (gM E) 0)), (1, .int x1), (2, .int x2), (3, .int x3)] [] M (pX10_leads fu  x1 x2 x3 M) := by
  unfold pX10_leads
  refine j_aload_n (pc := 0) hX 0 dX10_leads_0 rfl rfl ?_
  refine j_getR (pc := 1) (t := 7) hX (jb rfl) rfl (ci := 9) (C := RX10) (T := TX10) (N := 30) rfl (jb rfl) inX10 (j := 11) (jb rfl) rfl tw_931 dX10_leads_1 ?_
  refine j_bipush (pc := 4) (v := (8 : Int32)) hX dX10_leads_4 cb_8 ?_
  refine j_iload_n (pc := 6) hX 1 dX10_leads_6 rfl rfl ?_
  refine j_imul (pc := 7) hX dX10_leads_7 ?_
  refine j_iload_n (pc := 8) hX 2 dX10_leads_8 rfl rfl ?_
  refine j_iadd (pc := 9) hX dX10_leads_9 ?_
  refine j_iload_n (pc := 10) hX 3 dX10_leads_10 rfl rfl ?_
  refine j_iast (pc := 11) hX (jb rfl) rfl rfl dX10_leads_11 (fun M1 => ?_)
  refine j_aload_n (pc := 12) hX 0 dX10_leads_12 rfl rfl ?_
  refine j_getR (pc := 13) (t := 7) hX (jb rfl) rfl (ci := 9) (C := RX10) (T := TX10) (N := 30) rfl (jb rfl) inX10 (j := 11) (jb rfl) rfl tw_931 dX10_leads_13 ?_
  refine j_bipush (pc := 16) (v := (8 : Int32)) hX dX10_leads_16 cb_8 ?_
  refine j_iload_n (pc := 18) hX 2 dX10_leads_18 rfl rfl ?_
  refine j_imul (pc := 19) hX dX10_leads_19 ?_
  refine j_iload_n (pc := 20) hX 1 dX10_leads_20 rfl rfl ?_
  refine j_iadd (pc := 21) hX dX10_leads_21 ?_
  refine j_iload_n (pc := 22) hX 3 dX10_leads_22 rfl rfl ?_
  refine j_iast (pc := 23) hX (jb rfl) rfl rfl dX10_leads_23 (fun M2 => ?_)
  exact j_vret (pc := 24) hX rfl dX10_leads_24
theorem mX10_leads (l : Launch) (E : jE) (hI : jInj (gM E)) (fu : Nat)  (x1 : Int32) (x2 : Int32) (x3 : Int32) (M : Mem) : jMet l (gM E) yX10_leads cX10_leads 4 none rX10_leads [.ref (gad (gM E) 0), .int x1, .int x2, .int x3] M (pX10_leads fu  x1 x2 x3 M) :=
  j_entry hI (by decide +kernel) (Nat.le_of_ble_eq_true rfl) rfl (fun X _ hX => wX10_leads hX fu   x1 x2 x3 M)
theorem qX10_opens : jYv yX10_opens cX10_opens 3 none 2 := ⟨tw_903, tw_19, tw_72, tw_904, ⟨by decide +kernel, by decide +kernel, by decide +kernel⟩⟩
abbrev rX10_opens : Room := { frames := 0, cells := 0, slots := 0, locals := 0 }
def uX10_opens : jM := (cX10_opens, 3, RX10, none, rX10_opens)
def pX10_opens (fu : Nat) (x1 : Int32) (x2 : Int32) (M : Mem) : Res :=
  sto M 8 4 (M 0 13) x1 fun M1 =>
  sto M1 9 4 (M1 0 13) x2 fun M2 =>
  fpt M2 0 13 ((M2 0 13) + (1 : Int32)) fun M3 =>
  some (0, M3)
set_option maxRecDepth 100000 in
theorem wX10_opens {E : jE} {X : jC} (hX : jOk X uX10_opens (gM E)) (fu : Nat)  (x1 : Int32) (x2 : Int32) (M : Mem) : J X uX10_opens (gM E) 0 [(0, .ref (gad (gM E) 0)), (1, .int x1), (2, .int x2)] [] M (pX10_opens fu  x1 x2 M) := by
  unfold pX10_opens
  refine j_aload_n (pc := 0) hX 0 dX10_opens_0 rfl rfl ?_
  refine j_getR (pc := 1) (t := 8) hX (jb rfl) rfl (ci := 9) (C := RX10) (T := TX10) (N := 30) rfl (jb rfl) inX10 (j := 14) (jb rfl) rfl tw_934 dX10_opens_1 ?_
  refine j_aload_n (pc := 4) hX 0 dX10_opens_4 rfl rfl ?_
  refine j_getI (pc := 5) hX (jb rfl) rfl (ci := 9) (C := RX10) (T := TX10) (N := 30) rfl (jb rfl) inX10 (j := 13) (jb rfl) rfl tw_933 dX10_opens_5 ?_
  refine j_iload_n (pc := 8) hX 1 dX10_opens_8 rfl rfl ?_
  refine j_iast (pc := 9) hX (jb rfl) rfl rfl dX10_opens_9 (fun M1 => ?_)
  refine j_aload_n (pc := 10) hX 0 dX10_opens_10 rfl rfl ?_
  refine j_getR (pc := 11) (t := 9) hX (jb rfl) rfl (ci := 9) (C := RX10) (T := TX10) (N := 30) rfl (jb rfl) inX10 (j := 15) (jb rfl) rfl tw_935 dX10_opens_11 ?_
  refine j_aload_n (pc := 14) hX 0 dX10_opens_14 rfl rfl ?_
  refine j_getI (pc := 15) hX (jb rfl) rfl (ci := 9) (C := RX10) (T := TX10) (N := 30) rfl (jb rfl) inX10 (j := 13) (jb rfl) rfl tw_933 dX10_opens_15 ?_
  refine j_iload_n (pc := 18) hX 2 dX10_opens_18 rfl rfl ?_
  refine j_iast (pc := 19) hX (jb rfl) rfl rfl dX10_opens_19 (fun M2 => ?_)
  refine j_aload_n (pc := 20) hX 0 dX10_opens_20 rfl rfl ?_
  refine j_dup (pc := 21) hX dX10_opens_21 rfl ?_
  refine j_getI (pc := 22) hX (jb rfl) rfl (ci := 9) (C := RX10) (T := TX10) (N := 30) rfl (jb rfl) inX10 (j := 13) (jb rfl) rfl tw_933 dX10_opens_22 ?_
  refine j_iconst (pc := 25) (v := (1 : Int32)) hX dX10_opens_25 ci_1 ?_
  refine j_iadd (pc := 26) hX dX10_opens_26 ?_
  refine j_putI (pc := 27) hX (jb rfl) rfl (ci := 9) (C := RX10) (T := TX10) (N := 30) rfl (jb rfl) inX10 tyX10 tyX10_ok nmX10 (j := 13) (jb rfl) rfl tw_933 rfl (tyX10_ok 13 (jb rfl)) dX10_opens_27 (fun M3 => ?_)
  exact j_vret (pc := 30) hX rfl dX10_opens_30
theorem mX10_opens (l : Launch) (E : jE) (hI : jInj (gM E)) (fu : Nat)  (x1 : Int32) (x2 : Int32) (M : Mem) : jMet l (gM E) yX10_opens cX10_opens 3 none rX10_opens [.ref (gad (gM E) 0), .int x1, .int x2] M (pX10_opens fu  x1 x2 M) :=
  j_entry hI (by decide +kernel) (Nat.le_of_ble_eq_true rfl) rfl (fun X _ hX => wX10_opens hX fu   x1 x2 M)
theorem qX10_comes : jYv yX10_comes cX10_comes 4 none 3 := ⟨tw_907, tw_20, tw_72, tw_908, ⟨by decide +kernel, by decide +kernel, by decide +kernel⟩⟩
abbrev rX10_comes : Room := { frames := 0, cells := 0, slots := 0, locals := 0 }
def uX10_comes : jM := (cX10_comes, 4, RX10, none, rX10_comes)
def pX10_comes (fu : Nat) (x1 : Int32) (x2 : Int32) (x3 : Int32) (M : Mem) : Res :=
  sto M 10 5 (M 0 16) x1 fun M1 =>
  sto M1 11 5 (M1 0 16) x2 fun M2 =>
  sto M2 12 768 ((744 : Int32) + (M2 0 16)) x3 fun M3 =>
  sto M3 12 768 ((714 : Int32) + (M3 0 16)) (-4 : Int32) fun M4 =>
  sto M4 12 768 ((729 : Int32) + (M4 0 16)) (-4 : Int32) fun M5 =>
  fpt M5 0 16 ((M5 0 16) + (1 : Int32)) fun M6 =>
  some (0, M6)
set_option maxRecDepth 100000 in
theorem wX10_comes {E : jE} {X : jC} (hX : jOk X uX10_comes (gM E)) (fu : Nat)  (x1 : Int32) (x2 : Int32) (x3 : Int32) (M : Mem) : J X uX10_comes (gM E) 0 [(0, .ref (gad (gM E) 0)), (1, .int x1), (2, .int x2), (3, .int x3)] [] M (pX10_comes fu  x1 x2 x3 M) := by
  unfold pX10_comes
  refine j_aload_n (pc := 0) hX 0 dX10_comes_0 rfl rfl ?_
  refine j_getR (pc := 1) (t := 10) hX (jb rfl) rfl (ci := 9) (C := RX10) (T := TX10) (N := 30) rfl (jb rfl) inX10 (j := 17) (jb rfl) rfl tw_937 dX10_comes_1 ?_
  refine j_aload_n (pc := 4) hX 0 dX10_comes_4 rfl rfl ?_
  refine j_getI (pc := 5) hX (jb rfl) rfl (ci := 9) (C := RX10) (T := TX10) (N := 30) rfl (jb rfl) inX10 (j := 16) (jb rfl) rfl tw_936 dX10_comes_5 ?_
  refine j_iload_n (pc := 8) hX 1 dX10_comes_8 rfl rfl ?_
  refine j_iast (pc := 9) hX (jb rfl) rfl rfl dX10_comes_9 (fun M1 => ?_)
  refine j_aload_n (pc := 10) hX 0 dX10_comes_10 rfl rfl ?_
  refine j_getR (pc := 11) (t := 11) hX (jb rfl) rfl (ci := 9) (C := RX10) (T := TX10) (N := 30) rfl (jb rfl) inX10 (j := 18) (jb rfl) rfl tw_938 dX10_comes_11 ?_
  refine j_aload_n (pc := 14) hX 0 dX10_comes_14 rfl rfl ?_
  refine j_getI (pc := 15) hX (jb rfl) rfl (ci := 9) (C := RX10) (T := TX10) (N := 30) rfl (jb rfl) inX10 (j := 16) (jb rfl) rfl tw_936 dX10_comes_15 ?_
  refine j_iload_n (pc := 18) hX 2 dX10_comes_18 rfl rfl ?_
  refine j_iast (pc := 19) hX (jb rfl) rfl rfl dX10_comes_19 (fun M2 => ?_)
  refine j_aload_n (pc := 20) hX 0 dX10_comes_20 rfl rfl ?_
  refine j_getR (pc := 21) (t := 12) hX (jb rfl) rfl (ci := 9) (C := RX10) (T := TX10) (N := 30) rfl (jb rfl) inX10 (j := 19) (jb rfl) rfl tw_939 dX10_comes_21 ?_
  refine j_sipush (pc := 24) (v := (744 : Int32)) hX dX10_comes_24 cs_744 ?_
  refine j_aload_n (pc := 27) hX 0 dX10_comes_27 rfl rfl ?_
  refine j_getI (pc := 28) hX (jb rfl) rfl (ci := 9) (C := RX10) (T := TX10) (N := 30) rfl (jb rfl) inX10 (j := 16) (jb rfl) rfl tw_936 dX10_comes_28 ?_
  refine j_iadd (pc := 31) hX dX10_comes_31 ?_
  refine j_iload_n (pc := 32) hX 3 dX10_comes_32 rfl rfl ?_
  refine j_iast (pc := 33) hX (jb rfl) rfl rfl dX10_comes_33 (fun M3 => ?_)
  refine j_aload_n (pc := 34) hX 0 dX10_comes_34 rfl rfl ?_
  refine j_getR (pc := 35) (t := 12) hX (jb rfl) rfl (ci := 9) (C := RX10) (T := TX10) (N := 30) rfl (jb rfl) inX10 (j := 19) (jb rfl) rfl tw_939 dX10_comes_35 ?_
  refine j_sipush (pc := 38) (v := (714 : Int32)) hX dX10_comes_38 cs_714 ?_
  refine j_aload_n (pc := 41) hX 0 dX10_comes_41 rfl rfl ?_
  refine j_getI (pc := 42) hX (jb rfl) rfl (ci := 9) (C := RX10) (T := TX10) (N := 30) rfl (jb rfl) inX10 (j := 16) (jb rfl) rfl tw_936 dX10_comes_42 ?_
  refine j_iadd (pc := 45) hX dX10_comes_45 ?_
  refine j_bipush (pc := 46) (v := (-4 : Int32)) hX dX10_comes_46 cb_m4 ?_
  refine j_iast (pc := 48) hX (jb rfl) rfl rfl dX10_comes_48 (fun M4 => ?_)
  refine j_aload_n (pc := 49) hX 0 dX10_comes_49 rfl rfl ?_
  refine j_getR (pc := 50) (t := 12) hX (jb rfl) rfl (ci := 9) (C := RX10) (T := TX10) (N := 30) rfl (jb rfl) inX10 (j := 19) (jb rfl) rfl tw_939 dX10_comes_50 ?_
  refine j_sipush (pc := 53) (v := (729 : Int32)) hX dX10_comes_53 cs_729 ?_
  refine j_aload_n (pc := 56) hX 0 dX10_comes_56 rfl rfl ?_
  refine j_getI (pc := 57) hX (jb rfl) rfl (ci := 9) (C := RX10) (T := TX10) (N := 30) rfl (jb rfl) inX10 (j := 16) (jb rfl) rfl tw_936 dX10_comes_57 ?_
  refine j_iadd (pc := 60) hX dX10_comes_60 ?_
  refine j_bipush (pc := 61) (v := (-4 : Int32)) hX dX10_comes_61 cb_m4 ?_
  refine j_iast (pc := 63) hX (jb rfl) rfl rfl dX10_comes_63 (fun M5 => ?_)
  refine j_aload_n (pc := 64) hX 0 dX10_comes_64 rfl rfl ?_
  refine j_dup (pc := 65) hX dX10_comes_65 rfl ?_
  refine j_getI (pc := 66) hX (jb rfl) rfl (ci := 9) (C := RX10) (T := TX10) (N := 30) rfl (jb rfl) inX10 (j := 16) (jb rfl) rfl tw_936 dX10_comes_66 ?_
  refine j_iconst (pc := 69) (v := (1 : Int32)) hX dX10_comes_69 ci_1 ?_
  refine j_iadd (pc := 70) hX dX10_comes_70 ?_
  refine j_putI (pc := 71) hX (jb rfl) rfl (ci := 9) (C := RX10) (T := TX10) (N := 30) rfl (jb rfl) inX10 tyX10 tyX10_ok nmX10 (j := 16) (jb rfl) rfl tw_936 rfl (tyX10_ok 16 (jb rfl)) dX10_comes_71 (fun M6 => ?_)
  exact j_vret (pc := 74) hX rfl dX10_comes_74
theorem mX10_comes (l : Launch) (E : jE) (hI : jInj (gM E)) (fu : Nat)  (x1 : Int32) (x2 : Int32) (x3 : Int32) (M : Mem) : jMet l (gM E) yX10_comes cX10_comes 4 none rX10_comes [.ref (gad (gM E) 0), .int x1, .int x2, .int x3] M (pX10_comes fu  x1 x2 x3 M) :=
  j_entry hI (by decide +kernel) (Nat.le_of_ble_eq_true rfl) rfl (fun X _ hX => wX10_comes hX fu   x1 x2 x3 M)
theorem qX10_copies : jYv yX10_copies cX10_copies 4 none 2 := ⟨tw_918, tw_22, tw_72, tw_919, ⟨by decide +kernel, by decide +kernel, by decide +kernel⟩⟩
abbrev rX10_copies : Room := { frames := 0, cells := 0, slots := 0, locals := 0 }
def uX10_copies : jM := (cX10_copies, 4, RX10, none, rX10_copies)
def pX10_copies_2b (fu : Nat) (x1 : Int32) (x2 : Int32) (x3 : Int32) (M : Mem) (c2 : Int32 → Int32 → Int32 → Mem → Res) : Res :=
  if (64 : Int32) ≤ x3 then (
    some (0, M))
  else
  ld M 12 768 (x1 + x3) fun v1 =>
  sto M 12 768 (x2 + x3) v1 fun M2 =>
  c2 x1 x2 (x3 + (1 : Int32)) M2
set_option maxRecDepth 100000 in
theorem wX10_copies_2b {E : jE} {X : jC} (hX : jOk X uX10_copies (gM E)) (fu : Nat)  (x1 : Int32) (x2 : Int32) (x3 : Int32) (M : Mem) (c2 : Int32 → Int32 → Int32 → Mem → Res) (hc2 : ∀ (x1 : Int32) (x2 : Int32) (x3 : Int32) (M : Mem), J X uX10_copies (gM E) 2 [(0, .ref (gad (gM E) 0)), (1, .int x1), (2, .int x2), (3, .int x3)] [] M (c2 x1 x2 x3 M)) : J X uX10_copies (gM E) 2 [(0, .ref (gad (gM E) 0)), (1, .int x1), (2, .int x2), (3, .int x3)] [] M (pX10_copies_2b fu  x1 x2 x3 M c2) := by
  unfold pX10_copies_2b
  refine j_iload_n (pc := 2) hX 3 dX10_copies_2 rfl rfl ?_
  refine j_bipush (pc := 3) (v := (64 : Int32)) hX dX10_copies_3 cb_64 ?_
  refine j_icmp_ge (pc := 5) hX 30 dX10_copies_5 (by decide) ?_ ?_
  · exact j_vret (pc := 30) hX rfl dX10_copies_30
  · refine j_aload_n (pc := 8) hX 0 dX10_copies_8 rfl rfl ?_
    refine j_getR (pc := 9) (t := 12) hX (jb rfl) rfl (ci := 9) (C := RX10) (T := TX10) (N := 30) rfl (jb rfl) inX10 (j := 19) (jb rfl) rfl tw_939 dX10_copies_9 ?_
    refine j_iload_n (pc := 12) hX 2 dX10_copies_12 rfl rfl ?_
    refine j_iload_n (pc := 13) hX 3 dX10_copies_13 rfl rfl ?_
    refine j_iadd (pc := 14) hX dX10_copies_14 ?_
    refine j_aload_n (pc := 15) hX 0 dX10_copies_15 rfl rfl ?_
    refine j_getR (pc := 16) (t := 12) hX (jb rfl) rfl (ci := 9) (C := RX10) (T := TX10) (N := 30) rfl (jb rfl) inX10 (j := 19) (jb rfl) rfl tw_939 dX10_copies_16 ?_
    refine j_iload_n (pc := 19) hX 1 dX10_copies_19 rfl rfl ?_
    refine j_iload_n (pc := 20) hX 3 dX10_copies_20 rfl rfl ?_
    refine j_iadd (pc := 21) hX dX10_copies_21 ?_
    refine j_iald (pc := 22) hX (jb rfl) rfl rfl dX10_copies_22 (fun v1 => ?_)
    refine j_iast (pc := 23) hX (jb rfl) rfl rfl dX10_copies_23 (fun M2 => ?_)
    refine j_iinc (pc := 24) (v := (x3 + (1 : Int32))) (lv' := [(3, .int (x3 + (1 : Int32))), (0, .ref (gad (gM E) 0)), (1, .int x1), (2, .int x2)]) hX 3 dX10_copies_24 rfl (by rw [ci_1]) (jb rfl) rfl ?_
    refine j_goto (pc := 27) hX 2 dX10_copies_27 (by decide) ?_
    exact j_sub [1, 2, 3, 0] rfl (hc2 x1 x2 (x3 + (1 : Int32)) M2)
def pX10_copies_2 (fu : Nat)  : Nat → Int32 → Int32 → Int32 → Mem → Res
  | 0, _, _, _, _ => none
  | n + 1, x1, x2, x3, M => pX10_copies_2b fu  x1 x2 x3 M (pX10_copies_2 fu   n)
theorem wX10_copies_2 {E : jE} {X : jC} (hX : jOk X uX10_copies (gM E)) (fu : Nat)    : ∀ (n : Nat) (x1 : Int32) (x2 : Int32) (x3 : Int32) (M : Mem), J X uX10_copies (gM E) 2 [(0, .ref (gad (gM E) 0)), (1, .int x1), (2, .int x2), (3, .int x3)] [] M (pX10_copies_2 fu   n x1 x2 x3 M) := by
  intro n
  induction n with
  | zero => intro x1 x2 x3 M; exact j_none
  | succ n ih => intro x1 x2 x3 M; exact wX10_copies_2b hX fu   x1 x2 x3 M (pX10_copies_2 fu   n) ih
def pX10_copies (fu : Nat) (x1 : Int32) (x2 : Int32) (M : Mem) : Res :=
  pX10_copies_2 fu
    fu x1 x2 (0 : Int32) M
set_option maxRecDepth 100000 in
theorem wX10_copies {E : jE} {X : jC} (hX : jOk X uX10_copies (gM E)) (fu : Nat)  (x1 : Int32) (x2 : Int32) (M : Mem) : J X uX10_copies (gM E) 0 [(0, .ref (gad (gM E) 0)), (1, .int x1), (2, .int x2)] [] M (pX10_copies fu  x1 x2 M) := by
  unfold pX10_copies
  refine j_iconst (pc := 0) (v := (0 : Int32)) hX dX10_copies_0 ci_0 ?_
  refine j_istore_n (pc := 1) (lv' := [(3, .int (0 : Int32)), (0, .ref (gad (gM E) 0)), (1, .int x1), (2, .int x2)]) hX dX10_copies_1 rfl (jb rfl) rfl ?_
  refine j_sub [1, 2, 3, 0] rfl (wX10_copies_2 hX fu     fu x1 x2 (0 : Int32) M)
theorem mX10_copies (l : Launch) (E : jE) (hI : jInj (gM E)) (fu : Nat)  (x1 : Int32) (x2 : Int32) (M : Mem) : jMet l (gM E) yX10_copies cX10_copies 4 none rX10_copies [.ref (gad (gM E) 0), .int x1, .int x2] M (pX10_copies fu  x1 x2 M) :=
  j_entry hI (by decide +kernel) (Nat.le_of_ble_eq_true rfl) rfl (fun X _ hX => wX10_copies hX fu   x1 x2 M)
theorem qX10_settles : jYv yX10_settles cX10_settles 3 none 0 := ⟨tw_911, tw_21, tw_72, tw_912, ⟨by decide +kernel, by decide +kernel, by decide +kernel⟩⟩
abbrev rX10_settles : Room := { frames := 1, cells := 0, slots := 0, locals := 23 }
def uX10_settles : jM := (cX10_settles, 3, RX10, none, rX10_settles)
def pX10_settles_93 (fu : Nat) (x1 : Int32) (s0 : Int32) (s1 : Int32) (M : Mem) (c34 : Int32 → Mem → Res) : Res :=
  sto M 2 64 s1 s0 fun M9 =>
  c34 (x1 + (1 : Int32)) M9
set_option maxRecDepth 100000 in
theorem wX10_settles_93 {E : jE} {X : jC} (hX : jOk X uX10_settles (gM E)) (fu : Nat)  (x1 : Int32) (s0 : Int32) (s1 : Int32) (M : Mem) (c34 : Int32 → Mem → Res) (hc34 : ∀ (x1 : Int32) (M : Mem), J X uX10_settles (gM E) 34 [(0, .ref (gad (gM E) 0)), (1, .int x1)] [] M (c34 x1 M)) : J X uX10_settles (gM E) 93 [(0, .ref (gad (gM E) 0)), (1, .int x1)] [.int s0, .int s1, .ref (gad (gM E) 2)] M (pX10_settles_93 fu  x1 s0 s1 M c34) := by
  unfold pX10_settles_93
  refine j_iast (pc := 93) hX (jb rfl) rfl rfl dX10_settles_93 (fun M9 => ?_)
  refine j_iinc (pc := 94) (v := (x1 + (1 : Int32))) (lv' := [(1, .int (x1 + (1 : Int32))), (0, .ref (gad (gM E) 0))]) hX 1 dX10_settles_94 rfl (by rw [ci_1]) (jb rfl) rfl ?_
  refine j_goto (pc := 97) hX 34 dX10_settles_97 (by decide) ?_
  exact j_sub [1, 0] rfl (hc34 (x1 + (1 : Int32)) M9)
def pX10_settles_34b (fu : Nat) (x1 : Int32) (M : Mem) (c34 : Int32 → Mem → Res) (c100 : Mem → Res) : Res :=
  if (64 : Int32) ≤ x1 then (
    c100 M)
  else
  ld M 7 64 x1 fun v5 =>
  sto M 1 64 x1 v5 fun M6 =>
  if (x1 / (8 : Int32)) = (irm x1 (8 : Int32)) then (
    pX10_settles_93 fu  x1 (0 : Int32) x1 M6 c34)
  else
  ld M6 1 64 x1 fun v7 =>
  if 0 ≤ v7 then (
    ld M6 1 64 x1 fun v8 =>
    pX10_settles_93 fu  x1 v8 x1 M6 c34)
  else
  pX10_settles_93 fu  x1 (9999 : Int32) x1 M6 c34
set_option maxRecDepth 100000 in
theorem wX10_settles_34b {E : jE} {X : jC} (hX : jOk X uX10_settles (gM E)) (fu : Nat)  (x1 : Int32) (M : Mem) (c34 : Int32 → Mem → Res) (c100 : Mem → Res) (hc34 : ∀ (x1 : Int32) (M : Mem), J X uX10_settles (gM E) 34 [(0, .ref (gad (gM E) 0)), (1, .int x1)] [] M (c34 x1 M)) (hc100 : ∀  (M : Mem), J X uX10_settles (gM E) 100 [(0, .ref (gad (gM E) 0))] [] M (c100  M)) : J X uX10_settles (gM E) 34 [(0, .ref (gad (gM E) 0)), (1, .int x1)] [] M (pX10_settles_34b fu  x1 M c34 c100) := by
  unfold pX10_settles_34b
  refine j_iload_n (pc := 34) hX 1 dX10_settles_34 rfl rfl ?_
  refine j_bipush (pc := 35) (v := (64 : Int32)) hX dX10_settles_35 cb_64 ?_
  refine j_icmp_ge (pc := 37) hX 100 dX10_settles_37 (by decide) ?_ ?_
  · exact j_sub [0] rfl (hc100  M)
  · refine j_aload_n (pc := 40) hX 0 dX10_settles_40 rfl rfl ?_
    refine j_getR (pc := 41) (t := 1) hX (jb rfl) rfl (ci := 9) (C := RX10) (T := TX10) (N := 30) rfl (jb rfl) inX10 (j := 1) (jb rfl) rfl tw_921 dX10_settles_41 ?_
    refine j_iload_n (pc := 44) hX 1 dX10_settles_44 rfl rfl ?_
    refine j_aload_n (pc := 45) hX 0 dX10_settles_45 rfl rfl ?_
    refine j_getR (pc := 46) (t := 7) hX (jb rfl) rfl (ci := 9) (C := RX10) (T := TX10) (N := 30) rfl (jb rfl) inX10 (j := 11) (jb rfl) rfl tw_931 dX10_settles_46 ?_
    refine j_iload_n (pc := 49) hX 1 dX10_settles_49 rfl rfl ?_
    refine j_iald (pc := 50) hX (jb rfl) rfl rfl dX10_settles_50 (fun v5 => ?_)
    refine j_iast (pc := 51) hX (jb rfl) rfl rfl dX10_settles_51 (fun M6 => ?_)
    refine j_aload_n (pc := 52) hX 0 dX10_settles_52 rfl rfl ?_
    refine j_getR (pc := 53) (t := 2) hX (jb rfl) rfl (ci := 9) (C := RX10) (T := TX10) (N := 30) rfl (jb rfl) inX10 (j := 2) (jb rfl) rfl tw_922 dX10_settles_53 ?_
    refine j_iload_n (pc := 56) hX 1 dX10_settles_56 rfl rfl ?_
    refine j_iload_n (pc := 57) hX 1 dX10_settles_57 rfl rfl ?_
    refine j_bipush (pc := 58) (v := (8 : Int32)) hX dX10_settles_58 cb_8 ?_
    refine j_idivC (pc := 60) hX dX10_settles_60 (by decide) ?_
    refine j_iload_n (pc := 61) hX 1 dX10_settles_61 rfl rfl ?_
    refine j_bipush (pc := 62) (v := (8 : Int32)) hX dX10_settles_62 cb_8 ?_
    refine j_iremC (pc := 64) hX dX10_settles_64 (by decide) ?_
    refine j_icmp_ne (pc := 65) hX 72 dX10_settles_65 (by decide) ?_ ?_
    · refine j_aload_n (pc := 72) hX 0 dX10_settles_72 rfl rfl ?_
      refine j_getR (pc := 73) (t := 1) hX (jb rfl) rfl (ci := 9) (C := RX10) (T := TX10) (N := 30) rfl (jb rfl) inX10 (j := 1) (jb rfl) rfl tw_921 dX10_settles_73 ?_
      refine j_iload_n (pc := 76) hX 1 dX10_settles_76 rfl rfl ?_
      refine j_iald (pc := 77) hX (jb rfl) rfl rfl dX10_settles_77 (fun v7 => ?_)
      refine j_if_ge (pc := 78) hX 87 dX10_settles_78 (by decide) ?_ ?_
      · refine j_aload_n (pc := 87) hX 0 dX10_settles_87 rfl rfl ?_
        refine j_getR (pc := 88) (t := 1) hX (jb rfl) rfl (ci := 9) (C := RX10) (T := TX10) (N := 30) rfl (jb rfl) inX10 (j := 1) (jb rfl) rfl tw_921 dX10_settles_88 ?_
        refine j_iload_n (pc := 91) hX 1 dX10_settles_91 rfl rfl ?_
        refine j_iald (pc := 92) hX (jb rfl) rfl rfl dX10_settles_92 (fun v8 => ?_)
        exact j_sub [0, 1] rfl (wX10_settles_93 hX fu   x1 v8 x1 M6 c34 hc34)
      · refine j_sipush (pc := 81) (v := (9999 : Int32)) hX dX10_settles_81 cs_9999 ?_
        refine j_goto (pc := 84) hX 93 dX10_settles_84 (by decide) ?_
        exact j_sub [0, 1] rfl (wX10_settles_93 hX fu   x1 (9999 : Int32) x1 M6 c34 hc34)
    · refine j_iconst (pc := 68) (v := (0 : Int32)) hX dX10_settles_68 ci_0 ?_
      refine j_goto (pc := 69) hX 93 dX10_settles_69 (by decide) ?_
      exact j_sub [0, 1] rfl (wX10_settles_93 hX fu   x1 (0 : Int32) x1 M6 c34 hc34)
def pX10_settles_34 (fu : Nat) (c100 : Mem → Res) : Nat → Int32 → Mem → Res
  | 0, _, _ => none
  | n + 1, x1, M => pX10_settles_34b fu  x1 M (pX10_settles_34 fu  c100 n) c100
theorem wX10_settles_34 {E : jE} {X : jC} (hX : jOk X uX10_settles (gM E)) (fu : Nat)  (c100 : Mem → Res) (hc100 : ∀  (M : Mem), J X uX10_settles (gM E) 100 [(0, .ref (gad (gM E) 0))] [] M (c100  M)) : ∀ (n : Nat) (x1 : Int32) (M : Mem), J X uX10_settles (gM E) 34 [(0, .ref (gad (gM E) 0)), (1, .int x1)] [] M (pX10_settles_34 fu  c100 n x1 M) := by
  intro n
  induction n with
  | zero => intro x1 M; exact j_none
  | succ n ih => intro x1 M; exact wX10_settles_34b hX fu   x1 M (pX10_settles_34 fu  c100 n) c100 ih hc100
def pX10_settles_102b (fu : Nat) (x1 : Int32) (M : Mem) (c102 : Int32 → Mem → Res) (c137 : Mem → Res) : Res :=
  if (4 : Int32) ≤ x1 then (
    c137 M)
  else
  ld M 8 4 x1 fun v11 =>
  sto M 3 4 x1 v11 fun M12 =>
  ld M12 9 4 x1 fun v13 =>
  sto M12 4 4 x1 v13 fun M14 =>
  c102 (x1 + (1 : Int32)) M14
set_option maxRecDepth 100000 in
theorem wX10_settles_102b {E : jE} {X : jC} (hX : jOk X uX10_settles (gM E)) (fu : Nat)  (x1 : Int32) (M : Mem) (c102 : Int32 → Mem → Res) (c137 : Mem → Res) (hc102 : ∀ (x1 : Int32) (M : Mem), J X uX10_settles (gM E) 102 [(0, .ref (gad (gM E) 0)), (1, .int x1)] [] M (c102 x1 M)) (hc137 : ∀  (M : Mem), J X uX10_settles (gM E) 137 [(0, .ref (gad (gM E) 0))] [] M (c137  M)) : J X uX10_settles (gM E) 102 [(0, .ref (gad (gM E) 0)), (1, .int x1)] [] M (pX10_settles_102b fu  x1 M c102 c137) := by
  unfold pX10_settles_102b
  refine j_iload_n (pc := 102) hX 1 dX10_settles_102 rfl rfl ?_
  refine j_iconst (pc := 103) (v := (4 : Int32)) hX dX10_settles_103 ci_4 ?_
  refine j_icmp_ge (pc := 104) hX 137 dX10_settles_104 (by decide) ?_ ?_
  · exact j_sub [0] rfl (hc137  M)
  · refine j_aload_n (pc := 107) hX 0 dX10_settles_107 rfl rfl ?_
    refine j_getR (pc := 108) (t := 3) hX (jb rfl) rfl (ci := 9) (C := RX10) (T := TX10) (N := 30) rfl (jb rfl) inX10 (j := 5) (jb rfl) rfl tw_925 dX10_settles_108 ?_
    refine j_iload_n (pc := 111) hX 1 dX10_settles_111 rfl rfl ?_
    refine j_aload_n (pc := 112) hX 0 dX10_settles_112 rfl rfl ?_
    refine j_getR (pc := 113) (t := 8) hX (jb rfl) rfl (ci := 9) (C := RX10) (T := TX10) (N := 30) rfl (jb rfl) inX10 (j := 14) (jb rfl) rfl tw_934 dX10_settles_113 ?_
    refine j_iload_n (pc := 116) hX 1 dX10_settles_116 rfl rfl ?_
    refine j_iald (pc := 117) hX (jb rfl) rfl rfl dX10_settles_117 (fun v11 => ?_)
    refine j_iast (pc := 118) hX (jb rfl) rfl rfl dX10_settles_118 (fun M12 => ?_)
    refine j_aload_n (pc := 119) hX 0 dX10_settles_119 rfl rfl ?_
    refine j_getR (pc := 120) (t := 4) hX (jb rfl) rfl (ci := 9) (C := RX10) (T := TX10) (N := 30) rfl (jb rfl) inX10 (j := 6) (jb rfl) rfl tw_926 dX10_settles_120 ?_
    refine j_iload_n (pc := 123) hX 1 dX10_settles_123 rfl rfl ?_
    refine j_aload_n (pc := 124) hX 0 dX10_settles_124 rfl rfl ?_
    refine j_getR (pc := 125) (t := 9) hX (jb rfl) rfl (ci := 9) (C := RX10) (T := TX10) (N := 30) rfl (jb rfl) inX10 (j := 15) (jb rfl) rfl tw_935 dX10_settles_125 ?_
    refine j_iload_n (pc := 128) hX 1 dX10_settles_128 rfl rfl ?_
    refine j_iald (pc := 129) hX (jb rfl) rfl rfl dX10_settles_129 (fun v13 => ?_)
    refine j_iast (pc := 130) hX (jb rfl) rfl rfl dX10_settles_130 (fun M14 => ?_)
    refine j_iinc (pc := 131) (v := (x1 + (1 : Int32))) (lv' := [(1, .int (x1 + (1 : Int32))), (0, .ref (gad (gM E) 0))]) hX 1 dX10_settles_131 rfl (by rw [ci_1]) (jb rfl) rfl ?_
    refine j_goto (pc := 134) hX 102 dX10_settles_134 (by decide) ?_
    exact j_sub [1, 0] rfl (hc102 (x1 + (1 : Int32)) M14)
def pX10_settles_102 (fu : Nat) (c137 : Mem → Res) : Nat → Int32 → Mem → Res
  | 0, _, _ => none
  | n + 1, x1, M => pX10_settles_102b fu  x1 M (pX10_settles_102 fu  c137 n) c137
theorem wX10_settles_102 {E : jE} {X : jC} (hX : jOk X uX10_settles (gM E)) (fu : Nat)  (c137 : Mem → Res) (hc137 : ∀  (M : Mem), J X uX10_settles (gM E) 137 [(0, .ref (gad (gM E) 0))] [] M (c137  M)) : ∀ (n : Nat) (x1 : Int32) (M : Mem), J X uX10_settles (gM E) 102 [(0, .ref (gad (gM E) 0)), (1, .int x1)] [] M (pX10_settles_102 fu  c137 n x1 M) := by
  intro n
  induction n with
  | zero => intro x1 M; exact j_none
  | succ n ih => intro x1 M; exact wX10_settles_102b hX fu   x1 M (pX10_settles_102 fu  c137 n) c137 ih hc137
def pX10_settles_139b (fu : Nat) (x1 : Int32) (M : Mem) (c139 : Int32 → Mem → Res) (c174 : Mem → Res) : Res :=
  if (5 : Int32) ≤ x1 then (
    c174 M)
  else
  ld M 10 5 x1 fun v16 =>
  sto M 5 5 x1 v16 fun M17 =>
  ld M17 11 5 x1 fun v18 =>
  sto M17 6 5 x1 v18 fun M19 =>
  c139 (x1 + (1 : Int32)) M19
set_option maxRecDepth 100000 in
theorem wX10_settles_139b {E : jE} {X : jC} (hX : jOk X uX10_settles (gM E)) (fu : Nat)  (x1 : Int32) (M : Mem) (c139 : Int32 → Mem → Res) (c174 : Mem → Res) (hc139 : ∀ (x1 : Int32) (M : Mem), J X uX10_settles (gM E) 139 [(0, .ref (gad (gM E) 0)), (1, .int x1)] [] M (c139 x1 M)) (hc174 : ∀  (M : Mem), J X uX10_settles (gM E) 174 [(0, .ref (gad (gM E) 0))] [] M (c174  M)) : J X uX10_settles (gM E) 139 [(0, .ref (gad (gM E) 0)), (1, .int x1)] [] M (pX10_settles_139b fu  x1 M c139 c174) := by
  unfold pX10_settles_139b
  refine j_iload_n (pc := 139) hX 1 dX10_settles_139 rfl rfl ?_
  refine j_iconst (pc := 140) (v := (5 : Int32)) hX dX10_settles_140 ci_5 ?_
  refine j_icmp_ge (pc := 141) hX 174 dX10_settles_141 (by decide) ?_ ?_
  · exact j_sub [0] rfl (hc174  M)
  · refine j_aload_n (pc := 144) hX 0 dX10_settles_144 rfl rfl ?_
    refine j_getR (pc := 145) (t := 5) hX (jb rfl) rfl (ci := 9) (C := RX10) (T := TX10) (N := 30) rfl (jb rfl) inX10 (j := 8) (jb rfl) rfl tw_928 dX10_settles_145 ?_
    refine j_iload_n (pc := 148) hX 1 dX10_settles_148 rfl rfl ?_
    refine j_aload_n (pc := 149) hX 0 dX10_settles_149 rfl rfl ?_
    refine j_getR (pc := 150) (t := 10) hX (jb rfl) rfl (ci := 9) (C := RX10) (T := TX10) (N := 30) rfl (jb rfl) inX10 (j := 17) (jb rfl) rfl tw_937 dX10_settles_150 ?_
    refine j_iload_n (pc := 153) hX 1 dX10_settles_153 rfl rfl ?_
    refine j_iald (pc := 154) hX (jb rfl) rfl rfl dX10_settles_154 (fun v16 => ?_)
    refine j_iast (pc := 155) hX (jb rfl) rfl rfl dX10_settles_155 (fun M17 => ?_)
    refine j_aload_n (pc := 156) hX 0 dX10_settles_156 rfl rfl ?_
    refine j_getR (pc := 157) (t := 6) hX (jb rfl) rfl (ci := 9) (C := RX10) (T := TX10) (N := 30) rfl (jb rfl) inX10 (j := 9) (jb rfl) rfl tw_929 dX10_settles_157 ?_
    refine j_iload_n (pc := 160) hX 1 dX10_settles_160 rfl rfl ?_
    refine j_aload_n (pc := 161) hX 0 dX10_settles_161 rfl rfl ?_
    refine j_getR (pc := 162) (t := 11) hX (jb rfl) rfl (ci := 9) (C := RX10) (T := TX10) (N := 30) rfl (jb rfl) inX10 (j := 18) (jb rfl) rfl tw_938 dX10_settles_162 ?_
    refine j_iload_n (pc := 165) hX 1 dX10_settles_165 rfl rfl ?_
    refine j_iald (pc := 166) hX (jb rfl) rfl rfl dX10_settles_166 (fun v18 => ?_)
    refine j_iast (pc := 167) hX (jb rfl) rfl rfl dX10_settles_167 (fun M19 => ?_)
    refine j_iinc (pc := 168) (v := (x1 + (1 : Int32))) (lv' := [(1, .int (x1 + (1 : Int32))), (0, .ref (gad (gM E) 0))]) hX 1 dX10_settles_168 rfl (by rw [ci_1]) (jb rfl) rfl ?_
    refine j_goto (pc := 171) hX 139 dX10_settles_171 (by decide) ?_
    exact j_sub [1, 0] rfl (hc139 (x1 + (1 : Int32)) M19)
def pX10_settles_139 (fu : Nat) (c174 : Mem → Res) : Nat → Int32 → Mem → Res
  | 0, _, _ => none
  | n + 1, x1, M => pX10_settles_139b fu  x1 M (pX10_settles_139 fu  c174 n) c174
theorem wX10_settles_139 {E : jE} {X : jC} (hX : jOk X uX10_settles (gM E)) (fu : Nat)  (c174 : Mem → Res) (hc174 : ∀  (M : Mem), J X uX10_settles (gM E) 174 [(0, .ref (gad (gM E) 0))] [] M (c174  M)) : ∀ (n : Nat) (x1 : Int32) (M : Mem), J X uX10_settles (gM E) 139 [(0, .ref (gad (gM E) 0)), (1, .int x1)] [] M (pX10_settles_139 fu  c174 n x1 M) := by
  intro n
  induction n with
  | zero => intro x1 M; exact j_none
  | succ n ih => intro x1 M; exact wX10_settles_139b hX fu   x1 M (pX10_settles_139 fu  c174 n) c174 ih hc174
def pX10_settles_184b (fu : Nat) (x1 : Int32) (x2 : Int32) (M : Mem) (c184 : Int32 → Int32 → Mem → Res) (c240 : Int32 → Mem → Res) : Res :=
  if (64 : Int32) ≤ x2 then (
    c240 x1 M)
  else
  ld M 2 64 x2 fun v21 =>
  ld M 2 64 (((x2 / (8 : Int32)) * (8 : Int32)) + x1) fun v22 =>
  ld M 2 64 (((8 : Int32) * x1) + (irm x2 (8 : Int32))) fun v23 =>
  bI (pX10_smaller fu v21 (v22 + v23) M) fun r25 M24 =>
  sto M24 2 64 x2 r25 fun M26 =>
  c184 x1 (x2 + (1 : Int32)) M26
set_option maxRecDepth 100000 in
theorem wX10_settles_184b {E : jE} {X : jC} (hX : jOk X uX10_settles (gM E)) (fu : Nat)  (x1 : Int32) (x2 : Int32) (M : Mem) (c184 : Int32 → Int32 → Mem → Res) (c240 : Int32 → Mem → Res) (hc184 : ∀ (x1 : Int32) (x2 : Int32) (M : Mem), J X uX10_settles (gM E) 184 [(0, .ref (gad (gM E) 0)), (1, .int x1), (2, .int x2)] [] M (c184 x1 x2 M)) (hc240 : ∀ (x1 : Int32) (M : Mem), J X uX10_settles (gM E) 240 [(0, .ref (gad (gM E) 0)), (1, .int x1)] [] M (c240 x1 M)) : J X uX10_settles (gM E) 184 [(0, .ref (gad (gM E) 0)), (1, .int x1), (2, .int x2)] [] M (pX10_settles_184b fu  x1 x2 M c184 c240) := by
  unfold pX10_settles_184b
  refine j_iload_n (pc := 184) hX 2 dX10_settles_184 rfl rfl ?_
  refine j_bipush (pc := 185) (v := (64 : Int32)) hX dX10_settles_185 cb_64 ?_
  refine j_icmp_ge (pc := 187) hX 240 dX10_settles_187 (by decide) ?_ ?_
  · exact j_sub [0, 1] rfl (hc240 x1 M)
  · refine j_aload_n (pc := 190) hX 0 dX10_settles_190 rfl rfl ?_
    refine j_getR (pc := 191) (t := 2) hX (jb rfl) rfl (ci := 9) (C := RX10) (T := TX10) (N := 30) rfl (jb rfl) inX10 (j := 2) (jb rfl) rfl tw_922 dX10_settles_191 ?_
    refine j_iload_n (pc := 194) hX 2 dX10_settles_194 rfl rfl ?_
    refine j_aload_n (pc := 195) hX 0 dX10_settles_195 rfl rfl ?_
    refine j_getR (pc := 196) (t := 2) hX (jb rfl) rfl (ci := 9) (C := RX10) (T := TX10) (N := 30) rfl (jb rfl) inX10 (j := 2) (jb rfl) rfl tw_922 dX10_settles_196 ?_
    refine j_iload_n (pc := 199) hX 2 dX10_settles_199 rfl rfl ?_
    refine j_iald (pc := 200) hX (jb rfl) rfl rfl dX10_settles_200 (fun v21 => ?_)
    refine j_aload_n (pc := 201) hX 0 dX10_settles_201 rfl rfl ?_
    refine j_getR (pc := 202) (t := 2) hX (jb rfl) rfl (ci := 9) (C := RX10) (T := TX10) (N := 30) rfl (jb rfl) inX10 (j := 2) (jb rfl) rfl tw_922 dX10_settles_202 ?_
    refine j_iload_n (pc := 205) hX 2 dX10_settles_205 rfl rfl ?_
    refine j_bipush (pc := 206) (v := (8 : Int32)) hX dX10_settles_206 cb_8 ?_
    refine j_idivC (pc := 208) hX dX10_settles_208 (by decide) ?_
    refine j_bipush (pc := 209) (v := (8 : Int32)) hX dX10_settles_209 cb_8 ?_
    refine j_imul (pc := 211) hX dX10_settles_211 ?_
    refine j_iload_n (pc := 212) hX 1 dX10_settles_212 rfl rfl ?_
    refine j_iadd (pc := 213) hX dX10_settles_213 ?_
    refine j_iald (pc := 214) hX (jb rfl) rfl rfl dX10_settles_214 (fun v22 => ?_)
    refine j_aload_n (pc := 215) hX 0 dX10_settles_215 rfl rfl ?_
    refine j_getR (pc := 216) (t := 2) hX (jb rfl) rfl (ci := 9) (C := RX10) (T := TX10) (N := 30) rfl (jb rfl) inX10 (j := 2) (jb rfl) rfl tw_922 dX10_settles_216 ?_
    refine j_bipush (pc := 219) (v := (8 : Int32)) hX dX10_settles_219 cb_8 ?_
    refine j_iload_n (pc := 221) hX 1 dX10_settles_221 rfl rfl ?_
    refine j_imul (pc := 222) hX dX10_settles_222 ?_
    refine j_iload_n (pc := 223) hX 2 dX10_settles_223 rfl rfl ?_
    refine j_bipush (pc := 224) (v := (8 : Int32)) hX dX10_settles_224 cb_8 ?_
    refine j_iremC (pc := 226) hX dX10_settles_226 (by decide) ?_
    refine j_iadd (pc := 227) hX dX10_settles_227 ?_
    refine j_iald (pc := 228) hX (jb rfl) rfl rfl dX10_settles_228 (fun v23 => ?_)
    refine j_iadd (pc := 229) hX dX10_settles_229 ?_
    refine j_callS (pc := 230) hX [.int v21, .int (v22 + v23)] (mX10_smaller _ E hX.2.2.2.2.2.2.2.2.1 fu   v21 (v22 + v23) M) qX10_smaller tw_913 rfl ⟨rfl, rfl⟩ ⟨(Nat.le_of_ble_eq_true rfl), (Nat.le_of_ble_eq_true rfl)⟩ (Nat.le_of_ble_eq_true rfl) dX10_settles_230 (fun _ => rfl) rfl (fun r25 M24 => ?_)
    refine j_iast (pc := 233) hX (jb rfl) rfl rfl dX10_settles_233 (fun M26 => ?_)
    refine j_iinc (pc := 234) (v := (x2 + (1 : Int32))) (lv' := [(2, .int (x2 + (1 : Int32))), (0, .ref (gad (gM E) 0)), (1, .int x1)]) hX 2 dX10_settles_234 rfl (by rw [ci_1]) (jb rfl) rfl ?_
    refine j_goto (pc := 237) hX 184 dX10_settles_237 (by decide) ?_
    exact j_sub [1, 2, 0] rfl (hc184 x1 (x2 + (1 : Int32)) M26)
def pX10_settles_184 (fu : Nat) (c240 : Int32 → Mem → Res) : Nat → Int32 → Int32 → Mem → Res
  | 0, _, _, _ => none
  | n + 1, x1, x2, M => pX10_settles_184b fu  x1 x2 M (pX10_settles_184 fu  c240 n) c240
theorem wX10_settles_184 {E : jE} {X : jC} (hX : jOk X uX10_settles (gM E)) (fu : Nat)  (c240 : Int32 → Mem → Res) (hc240 : ∀ (x1 : Int32) (M : Mem), J X uX10_settles (gM E) 240 [(0, .ref (gad (gM E) 0)), (1, .int x1)] [] M (c240 x1 M)) : ∀ (n : Nat) (x1 : Int32) (x2 : Int32) (M : Mem), J X uX10_settles (gM E) 184 [(0, .ref (gad (gM E) 0)), (1, .int x1), (2, .int x2)] [] M (pX10_settles_184 fu  c240 n x1 x2 M) := by
  intro n
  induction n with
  | zero => intro x1 x2 M; exact j_none
  | succ n ih => intro x1 x2 M; exact wX10_settles_184b hX fu   x1 x2 M (pX10_settles_184 fu  c240 n) c240 ih hc240
def pX10_settles_176b (fu : Nat) (x1 : Int32) (M : Mem) (c176 : Int32 → Mem → Res) (c246 : Mem → Res) : Res :=
  if (8 : Int32) ≤ x1 then (
    c246 M)
  else
  pX10_settles_184 fu
    (fun y27 M28 =>
      c176 (y27 + (1 : Int32)) M28)
    fu x1 (0 : Int32) M
set_option maxRecDepth 100000 in
theorem wX10_settles_176b {E : jE} {X : jC} (hX : jOk X uX10_settles (gM E)) (fu : Nat)  (x1 : Int32) (M : Mem) (c176 : Int32 → Mem → Res) (c246 : Mem → Res) (hc176 : ∀ (x1 : Int32) (M : Mem), J X uX10_settles (gM E) 176 [(0, .ref (gad (gM E) 0)), (1, .int x1)] [] M (c176 x1 M)) (hc246 : ∀  (M : Mem), J X uX10_settles (gM E) 246 [(0, .ref (gad (gM E) 0))] [] M (c246  M)) : J X uX10_settles (gM E) 176 [(0, .ref (gad (gM E) 0)), (1, .int x1)] [] M (pX10_settles_176b fu  x1 M c176 c246) := by
  unfold pX10_settles_176b
  refine j_iload_n (pc := 176) hX 1 dX10_settles_176 rfl rfl ?_
  refine j_bipush (pc := 177) (v := (8 : Int32)) hX dX10_settles_177 cb_8 ?_
  refine j_icmp_ge (pc := 179) hX 246 dX10_settles_179 (by decide) ?_ ?_
  · exact j_sub [0] rfl (hc246  M)
  · refine j_iconst (pc := 182) (v := (0 : Int32)) hX dX10_settles_182 ci_0 ?_
    refine j_istore_n (pc := 183) (lv' := [(2, .int (0 : Int32)), (0, .ref (gad (gM E) 0)), (1, .int x1)]) hX dX10_settles_183 rfl (jb rfl) rfl ?_
    refine j_sub [1, 2, 0] rfl (wX10_settles_184 hX fu   _ ?_ fu x1 (0 : Int32) M)
    · intro y27 M28
      refine j_iinc (pc := 240) (v := (y27 + (1 : Int32))) (lv' := [(1, .int (y27 + (1 : Int32))), (0, .ref (gad (gM E) 0))]) hX 1 dX10_settles_240 rfl (by rw [ci_1]) (jb rfl) rfl ?_
      refine j_goto (pc := 243) hX 176 dX10_settles_243 (by decide) ?_
      exact j_sub [1, 0] rfl (hc176 (y27 + (1 : Int32)) M28)
def pX10_settles_176 (fu : Nat) (c246 : Mem → Res) : Nat → Int32 → Mem → Res
  | 0, _, _ => none
  | n + 1, x1, M => pX10_settles_176b fu  x1 M (pX10_settles_176 fu  c246 n) c246
theorem wX10_settles_176 {E : jE} {X : jC} (hX : jOk X uX10_settles (gM E)) (fu : Nat)  (c246 : Mem → Res) (hc246 : ∀  (M : Mem), J X uX10_settles (gM E) 246 [(0, .ref (gad (gM E) 0))] [] M (c246  M)) : ∀ (n : Nat) (x1 : Int32) (M : Mem), J X uX10_settles (gM E) 176 [(0, .ref (gad (gM E) 0)), (1, .int x1)] [] M (pX10_settles_176 fu  c246 n x1 M) := by
  intro n
  induction n with
  | zero => intro x1 M; exact j_none
  | succ n ih => intro x1 M; exact wX10_settles_176b hX fu   x1 M (pX10_settles_176 fu  c246 n) c246 ih hc246
def pX10_settles (fu : Nat)  (M : Mem) : Res :=
  fpt M 0 0 (M 0 10) fun M1 =>
  fpt M1 0 3 (M1 0 12) fun M2 =>
  fpt M2 0 4 (M2 0 13) fun M3 =>
  fpt M3 0 7 (M3 0 16) fun M4 =>
  pX10_settles_34 fu
    (fun  M10 =>
      pX10_settles_102 fu
        (fun  M15 =>
          pX10_settles_139 fu
            (fun  M20 =>
              pX10_settles_176 fu
                (fun  M29 =>
                  bV (pX10_copies fu (704 : Int32) (0 : Int32) M29) fun M30 =>
                  some (0, M30))
                fu (0 : Int32) M20)
            fu (0 : Int32) M15)
        fu (0 : Int32) M10)
    fu (0 : Int32) M4
set_option maxRecDepth 100000 in
theorem wX10_settles {E : jE} {X : jC} (hX : jOk X uX10_settles (gM E)) (fu : Nat)   (M : Mem) : J X uX10_settles (gM E) 0 [(0, .ref (gad (gM E) 0))] [] M (pX10_settles fu   M) := by
  unfold pX10_settles
  refine j_aload_n (pc := 0) hX 0 dX10_settles_0 rfl rfl ?_
  refine j_aload_n (pc := 1) hX 0 dX10_settles_1 rfl rfl ?_
  refine j_getI (pc := 2) hX (jb rfl) rfl (ci := 9) (C := RX10) (T := TX10) (N := 30) rfl (jb rfl) inX10 (j := 10) (jb rfl) rfl tw_930 dX10_settles_2 ?_
  refine j_putI (pc := 5) hX (jb rfl) rfl (ci := 9) (C := RX10) (T := TX10) (N := 30) rfl (jb rfl) inX10 tyX10 tyX10_ok nmX10 (j := 0) (jb rfl) rfl tw_920 rfl (tyX10_ok 0 (jb rfl)) dX10_settles_5 (fun M1 => ?_)
  refine j_aload_n (pc := 8) hX 0 dX10_settles_8 rfl rfl ?_
  refine j_aload_n (pc := 9) hX 0 dX10_settles_9 rfl rfl ?_
  refine j_getI (pc := 10) hX (jb rfl) rfl (ci := 9) (C := RX10) (T := TX10) (N := 30) rfl (jb rfl) inX10 (j := 12) (jb rfl) rfl tw_932 dX10_settles_10 ?_
  refine j_putI (pc := 13) hX (jb rfl) rfl (ci := 9) (C := RX10) (T := TX10) (N := 30) rfl (jb rfl) inX10 tyX10 tyX10_ok nmX10 (j := 3) (jb rfl) rfl tw_923 rfl (tyX10_ok 3 (jb rfl)) dX10_settles_13 (fun M2 => ?_)
  refine j_aload_n (pc := 16) hX 0 dX10_settles_16 rfl rfl ?_
  refine j_aload_n (pc := 17) hX 0 dX10_settles_17 rfl rfl ?_
  refine j_getI (pc := 18) hX (jb rfl) rfl (ci := 9) (C := RX10) (T := TX10) (N := 30) rfl (jb rfl) inX10 (j := 13) (jb rfl) rfl tw_933 dX10_settles_18 ?_
  refine j_putI (pc := 21) hX (jb rfl) rfl (ci := 9) (C := RX10) (T := TX10) (N := 30) rfl (jb rfl) inX10 tyX10 tyX10_ok nmX10 (j := 4) (jb rfl) rfl tw_924 rfl (tyX10_ok 4 (jb rfl)) dX10_settles_21 (fun M3 => ?_)
  refine j_aload_n (pc := 24) hX 0 dX10_settles_24 rfl rfl ?_
  refine j_aload_n (pc := 25) hX 0 dX10_settles_25 rfl rfl ?_
  refine j_getI (pc := 26) hX (jb rfl) rfl (ci := 9) (C := RX10) (T := TX10) (N := 30) rfl (jb rfl) inX10 (j := 16) (jb rfl) rfl tw_936 dX10_settles_26 ?_
  refine j_putI (pc := 29) hX (jb rfl) rfl (ci := 9) (C := RX10) (T := TX10) (N := 30) rfl (jb rfl) inX10 tyX10 tyX10_ok nmX10 (j := 7) (jb rfl) rfl tw_927 rfl (tyX10_ok 7 (jb rfl)) dX10_settles_29 (fun M4 => ?_)
  refine j_iconst (pc := 32) (v := (0 : Int32)) hX dX10_settles_32 ci_0 ?_
  refine j_istore_n (pc := 33) (lv' := [(1, .int (0 : Int32)), (0, .ref (gad (gM E) 0))]) hX dX10_settles_33 rfl (jb rfl) rfl ?_
  refine j_sub [1, 0] rfl (wX10_settles_34 hX fu   _ ?_ fu (0 : Int32) M4)
  · intro  M10
    refine j_iconst (pc := 100) (v := (0 : Int32)) hX dX10_settles_100 ci_0 ?_
    refine j_istore_n (pc := 101) (lv' := [(1, .int (0 : Int32)), (0, .ref (gad (gM E) 0))]) hX dX10_settles_101 rfl (jb rfl) rfl ?_
    refine j_sub [1, 0] rfl (wX10_settles_102 hX fu   _ ?_ fu (0 : Int32) M10)
    · intro  M15
      refine j_iconst (pc := 137) (v := (0 : Int32)) hX dX10_settles_137 ci_0 ?_
      refine j_istore_n (pc := 138) (lv' := [(1, .int (0 : Int32)), (0, .ref (gad (gM E) 0))]) hX dX10_settles_138 rfl (jb rfl) rfl ?_
      refine j_sub [1, 0] rfl (wX10_settles_139 hX fu   _ ?_ fu (0 : Int32) M15)
      · intro  M20
        refine j_iconst (pc := 174) (v := (0 : Int32)) hX dX10_settles_174 ci_0 ?_
        refine j_istore_n (pc := 175) (lv' := [(1, .int (0 : Int32)), (0, .ref (gad (gM E) 0))]) hX dX10_settles_175 rfl (jb rfl) rfl ?_
        refine j_sub [1, 0] rfl (wX10_settles_176 hX fu   _ ?_ fu (0 : Int32) M20)
        · intro  M29
          refine j_aload_n (pc := 246) hX 0 dX10_settles_246 rfl rfl ?_
          refine j_sipush (pc := 247) (v := (704 : Int32)) hX dX10_settles_247 cs_704 ?_
          refine j_iconst (pc := 250) (v := (0 : Int32)) hX dX10_settles_250 ci_0 ?_
          refine j_callVv (pc := 251) hX [.int (704 : Int32), .int (0 : Int32)] (mX10_copies _ E hX.2.2.2.2.2.2.2.2.1 fu   (704 : Int32) (0 : Int32) M29) qX10_copies tw_916 (jb rfl) rfl (ci := 9) (T := TX10) (N := 30) rfl (jb rfl) rfl ⟨rfl, rfl⟩ ⟨(Nat.le_of_ble_eq_true rfl), (Nat.le_of_ble_eq_true rfl)⟩ (Nat.le_of_ble_eq_true rfl) dX10_settles_251 rfl (fun M30 => ?_)
          exact j_vret (pc := 254) hX rfl dX10_settles_254
theorem mX10_settles (l : Launch) (E : jE) (hI : jInj (gM E)) (fu : Nat)   (M : Mem) : jMet l (gM E) yX10_settles cX10_settles 3 none rX10_settles [.ref (gad (gM E) 0)] M (pX10_settles fu   M) :=
  j_entry hI (by decide +kernel) (Nat.le_of_ble_eq_true rfl) rfl (fun X _ hX => wX10_settles hX fu    M)
theorem qX10_isPlace : jYv yX10_isPlace cX10_isPlace 2 (some .boolean) 1 := ⟨tw_1072, tw_31, tw_72, tw_1073, ⟨by decide +kernel, by decide +kernel, by decide +kernel⟩⟩
abbrev rX10_isPlace : Room := { frames := 1, cells := 0, slots := 0, locals := 25 }
def uX10_isPlace : jM := (cX10_isPlace, 2, RX10, (some .boolean), rX10_isPlace)
def pX10_isPlace (fu : Nat) (x1 : Int32) (M : Mem) : Res :=
  bI (pX10_in fu (x1).toInt64 (0 : Int64) (((M 0 0) - (1 : Int32))).toInt64 M) fun r2 M1 =>
  rtz r2 M1
set_option maxRecDepth 100000 in
theorem wX10_isPlace {E : jE} {X : jC} (hX : jOk X uX10_isPlace (gM E)) (fu : Nat)  (x1 : Int32) (M : Mem) : J X uX10_isPlace (gM E) 0 [(0, .ref (gad (gM E) 0)), (1, .int x1)] [] M (pX10_isPlace fu  x1 M) := by
  unfold pX10_isPlace
  refine j_iload_n (pc := 0) hX 1 dX10_isPlace_0 rfl rfl ?_
  refine j_i2l (pc := 1) hX dX10_isPlace_1 ?_
  refine j_lconst (pc := 2) (v := (0 : Int64)) hX dX10_isPlace_2 rfl ?_
  refine j_aload_n (pc := 3) hX 0 dX10_isPlace_3 rfl rfl ?_
  refine j_getI (pc := 4) hX (jb rfl) rfl (ci := 9) (C := RX10) (T := TX10) (N := 30) rfl (jb rfl) inX10 (j := 0) (jb rfl) rfl tw_920 dX10_isPlace_4 ?_
  refine j_iconst (pc := 7) (v := (1 : Int32)) hX dX10_isPlace_7 ci_1 ?_
  refine j_isub (pc := 8) hX dX10_isPlace_8 ?_
  refine j_i2l (pc := 9) hX dX10_isPlace_9 ?_
  refine j_callS (pc := 10) hX [.long (x1).toInt64, .long (0 : Int64), .long (((M 0 0) - (1 : Int32))).toInt64] (mX10_in _ E hX.2.2.2.2.2.2.2.2.1 fu   (x1).toInt64 (0 : Int64) (((M 0 0) - (1 : Int32))).toInt64 M) qX10_in tw_1017 rfl ⟨rfl, rfl⟩ ⟨(Nat.le_of_ble_eq_true rfl), (Nat.le_of_ble_eq_true rfl)⟩ (Nat.le_of_ble_eq_true rfl) dX10_isPlace_10 (fun _ => rfl) rfl (fun r2 M1 => ?_)
  exact j_zret (pc := 13) hX rfl dX10_isPlace_13
theorem mX10_isPlace (l : Launch) (E : jE) (hI : jInj (gM E)) (fu : Nat)  (x1 : Int32) (M : Mem) : jMet l (gM E) yX10_isPlace cX10_isPlace 2 (some .boolean) rX10_isPlace [.ref (gad (gM E) 0), .int x1] M (pX10_isPlace fu  x1 M) :=
  j_entry hI (by decide +kernel) (Nat.le_of_ble_eq_true rfl) rfl (fun X _ hX => wX10_isPlace hX fu   x1 M)
theorem qX10_isDoor : jYv yX10_isDoor cX10_isDoor 2 (some .boolean) 1 := ⟨tw_1089, tw_33, tw_72, tw_1090, ⟨by decide +kernel, by decide +kernel, by decide +kernel⟩⟩
abbrev rX10_isDoor : Room := { frames := 1, cells := 0, slots := 0, locals := 25 }
def uX10_isDoor : jM := (cX10_isDoor, 2, RX10, (some .boolean), rX10_isDoor)
def pX10_isDoor (fu : Nat) (x1 : Int32) (M : Mem) : Res :=
  bI (pX10_in fu (x1).toInt64 (0 : Int64) (((M 0 4) - (1 : Int32))).toInt64 M) fun r2 M1 =>
  rtz r2 M1
set_option maxRecDepth 100000 in
theorem wX10_isDoor {E : jE} {X : jC} (hX : jOk X uX10_isDoor (gM E)) (fu : Nat)  (x1 : Int32) (M : Mem) : J X uX10_isDoor (gM E) 0 [(0, .ref (gad (gM E) 0)), (1, .int x1)] [] M (pX10_isDoor fu  x1 M) := by
  unfold pX10_isDoor
  refine j_iload_n (pc := 0) hX 1 dX10_isDoor_0 rfl rfl ?_
  refine j_i2l (pc := 1) hX dX10_isDoor_1 ?_
  refine j_lconst (pc := 2) (v := (0 : Int64)) hX dX10_isDoor_2 rfl ?_
  refine j_aload_n (pc := 3) hX 0 dX10_isDoor_3 rfl rfl ?_
  refine j_getI (pc := 4) hX (jb rfl) rfl (ci := 9) (C := RX10) (T := TX10) (N := 30) rfl (jb rfl) inX10 (j := 4) (jb rfl) rfl tw_924 dX10_isDoor_4 ?_
  refine j_iconst (pc := 7) (v := (1 : Int32)) hX dX10_isDoor_7 ci_1 ?_
  refine j_isub (pc := 8) hX dX10_isDoor_8 ?_
  refine j_i2l (pc := 9) hX dX10_isDoor_9 ?_
  refine j_callS (pc := 10) hX [.long (x1).toInt64, .long (0 : Int64), .long (((M 0 4) - (1 : Int32))).toInt64] (mX10_in _ E hX.2.2.2.2.2.2.2.2.1 fu   (x1).toInt64 (0 : Int64) (((M 0 4) - (1 : Int32))).toInt64 M) qX10_in tw_1017 rfl ⟨rfl, rfl⟩ ⟨(Nat.le_of_ble_eq_true rfl), (Nat.le_of_ble_eq_true rfl)⟩ (Nat.le_of_ble_eq_true rfl) dX10_isDoor_10 (fun _ => rfl) rfl (fun r2 M1 => ?_)
  exact j_zret (pc := 13) hX rfl dX10_isDoor_13
theorem mX10_isDoor (l : Launch) (E : jE) (hI : jInj (gM E)) (fu : Nat)  (x1 : Int32) (M : Mem) : jMet l (gM E) yX10_isDoor cX10_isDoor 2 (some .boolean) rX10_isDoor [.ref (gad (gM E) 0), .int x1] M (pX10_isDoor fu  x1 M) :=
  j_entry hI (by decide +kernel) (Nat.le_of_ble_eq_true rfl) rfl (fun X _ hX => wX10_isDoor hX fu   x1 M)
theorem qX10_isBeast : jYv yX10_isBeast cX10_isBeast 2 (some .boolean) 1 := ⟨tw_1097, tw_34, tw_72, tw_1098, ⟨by decide +kernel, by decide +kernel, by decide +kernel⟩⟩
abbrev rX10_isBeast : Room := { frames := 1, cells := 0, slots := 0, locals := 25 }
def uX10_isBeast : jM := (cX10_isBeast, 2, RX10, (some .boolean), rX10_isBeast)
def pX10_isBeast (fu : Nat) (x1 : Int32) (M : Mem) : Res :=
  bI (pX10_in fu (x1).toInt64 (0 : Int64) (((M 0 7) - (1 : Int32))).toInt64 M) fun r2 M1 =>
  rtz r2 M1
set_option maxRecDepth 100000 in
theorem wX10_isBeast {E : jE} {X : jC} (hX : jOk X uX10_isBeast (gM E)) (fu : Nat)  (x1 : Int32) (M : Mem) : J X uX10_isBeast (gM E) 0 [(0, .ref (gad (gM E) 0)), (1, .int x1)] [] M (pX10_isBeast fu  x1 M) := by
  unfold pX10_isBeast
  refine j_iload_n (pc := 0) hX 1 dX10_isBeast_0 rfl rfl ?_
  refine j_i2l (pc := 1) hX dX10_isBeast_1 ?_
  refine j_lconst (pc := 2) (v := (0 : Int64)) hX dX10_isBeast_2 rfl ?_
  refine j_aload_n (pc := 3) hX 0 dX10_isBeast_3 rfl rfl ?_
  refine j_getI (pc := 4) hX (jb rfl) rfl (ci := 9) (C := RX10) (T := TX10) (N := 30) rfl (jb rfl) inX10 (j := 7) (jb rfl) rfl tw_927 dX10_isBeast_4 ?_
  refine j_iconst (pc := 7) (v := (1 : Int32)) hX dX10_isBeast_7 ci_1 ?_
  refine j_isub (pc := 8) hX dX10_isBeast_8 ?_
  refine j_i2l (pc := 9) hX dX10_isBeast_9 ?_
  refine j_callS (pc := 10) hX [.long (x1).toInt64, .long (0 : Int64), .long (((M 0 7) - (1 : Int32))).toInt64] (mX10_in _ E hX.2.2.2.2.2.2.2.2.1 fu   (x1).toInt64 (0 : Int64) (((M 0 7) - (1 : Int32))).toInt64 M) qX10_in tw_1017 rfl ⟨rfl, rfl⟩ ⟨(Nat.le_of_ble_eq_true rfl), (Nat.le_of_ble_eq_true rfl)⟩ (Nat.le_of_ble_eq_true rfl) dX10_isBeast_10 (fun _ => rfl) rfl (fun r2 M1 => ?_)
  exact j_zret (pc := 13) hX rfl dX10_isBeast_13
theorem mX10_isBeast (l : Launch) (E : jE) (hI : jInj (gM E)) (fu : Nat)  (x1 : Int32) (M : Mem) : jMet l (gM E) yX10_isBeast cX10_isBeast 2 (some .boolean) rX10_isBeast [.ref (gad (gM E) 0), .int x1] M (pX10_isBeast fu  x1 M) :=
  j_entry hI (by decide +kernel) (Nat.le_of_ble_eq_true rfl) rfl (fun X _ hX => wX10_isBeast hX fu   x1 M)
theorem qX10_write : jYv yX10_write cX10_write 2 (some .int) 1 := ⟨tw_1012, tw_1013, tw_72, tw_1014, ⟨by decide +kernel, by decide +kernel, by decide +kernel⟩⟩
abbrev rX10_write : Room := { frames := 1, cells := 0, slots := 0, locals := 25 }
def uX10_write : jM := (cX10_write, 2, RX10, (some .int), rX10_write)
def pX10_write (fu : Nat) (x1 : Int32) (M : Mem) : Res :=
  bI (pX10_in fu (x1).toInt64 (32 : Int64) (126 : Int64) M) fun r2 M1 =>
  if r2 = 0 then (
    some ((-1 : Int32), M1))
  else
  if (M1 0 22) = (200 : Int32) then (
    some ((-3 : Int32), M1))
  else
  sto M1 13 200 (M1 0 22) (vp_nar .byte (x1).toInt8.toInt32) fun M3 =>
  fpt M3 0 22 ((M3 0 22) + (1 : Int32)) fun M4 =>
  some ((M4 0 22), M4)
set_option maxRecDepth 100000 in
theorem wX10_write {E : jE} {X : jC} (hX : jOk X uX10_write (gM E)) (fu : Nat)  (x1 : Int32) (M : Mem) : J X uX10_write (gM E) 0 [(0, .ref (gad (gM E) 0)), (1, .int x1)] [] M (pX10_write fu  x1 M) := by
  unfold pX10_write
  refine j_iload_n (pc := 0) hX 1 dX10_write_0 rfl rfl ?_
  refine j_i2l (pc := 1) hX dX10_write_1 ?_
  refine j_ldc2 (pc := 2) (v := (32 : Int64)) hX tw_1015 dX10_write_2 ?_
  refine j_ldc2 (pc := 5) (v := (126 : Int64)) hX tw_1016 dX10_write_5 ?_
  refine j_callS (pc := 8) hX [.long (x1).toInt64, .long (32 : Int64), .long (126 : Int64)] (mX10_in _ E hX.2.2.2.2.2.2.2.2.1 fu   (x1).toInt64 (32 : Int64) (126 : Int64) M) qX10_in tw_1017 rfl ⟨rfl, rfl⟩ ⟨(Nat.le_of_ble_eq_true rfl), (Nat.le_of_ble_eq_true rfl)⟩ (Nat.le_of_ble_eq_true rfl) dX10_write_8 (fun _ => rfl) rfl (fun r2 M1 => ?_)
  refine j_if_ne (pc := 11) hX 16 dX10_write_11 (by decide) ?_ ?_
  · refine j_aload_n (pc := 16) hX 0 dX10_write_16 rfl rfl ?_
    refine j_getI (pc := 17) hX (jb rfl) rfl (ci := 9) (C := RX10) (T := TX10) (N := 30) rfl (jb rfl) inX10 (j := 22) (jb rfl) rfl tw_942 dX10_write_17 ?_
    refine j_sipush (pc := 20) (v := (200 : Int32)) hX dX10_write_20 cs_200 ?_
    refine j_icmp_ne (pc := 23) hX 29 dX10_write_23 (by decide) ?_ ?_
    · refine j_aload_n (pc := 29) hX 0 dX10_write_29 rfl rfl ?_
      refine j_getR (pc := 30) (t := 13) hX (jb rfl) rfl (ci := 9) (C := RX10) (T := TX10) (N := 30) rfl (jb rfl) inX10 (j := 23) (jb rfl) rfl tw_943 dX10_write_30 ?_
      refine j_aload_n (pc := 33) hX 0 dX10_write_33 rfl rfl ?_
      refine j_getI (pc := 34) hX (jb rfl) rfl (ci := 9) (C := RX10) (T := TX10) (N := 30) rfl (jb rfl) inX10 (j := 22) (jb rfl) rfl tw_942 dX10_write_34 ?_
      refine j_iload_n (pc := 37) hX 1 dX10_write_37 rfl rfl ?_
      refine j_i2b (pc := 38) hX dX10_write_38 ?_
      refine j_bast (pc := 39) hX (jb rfl) rfl rfl dX10_write_39 (fun M3 => ?_)
      refine j_aload_n (pc := 40) hX 0 dX10_write_40 rfl rfl ?_
      refine j_dup (pc := 41) hX dX10_write_41 rfl ?_
      refine j_getI (pc := 42) hX (jb rfl) rfl (ci := 9) (C := RX10) (T := TX10) (N := 30) rfl (jb rfl) inX10 (j := 22) (jb rfl) rfl tw_942 dX10_write_42 ?_
      refine j_iconst (pc := 45) (v := (1 : Int32)) hX dX10_write_45 ci_1 ?_
      refine j_iadd (pc := 46) hX dX10_write_46 ?_
      refine j_putI (pc := 47) hX (jb rfl) rfl (ci := 9) (C := RX10) (T := TX10) (N := 30) rfl (jb rfl) inX10 tyX10 tyX10_ok nmX10 (j := 22) (jb rfl) rfl tw_942 rfl (tyX10_ok 22 (jb rfl)) dX10_write_47 (fun M4 => ?_)
      refine j_aload_n (pc := 50) hX 0 dX10_write_50 rfl rfl ?_
      refine j_getI (pc := 51) hX (jb rfl) rfl (ci := 9) (C := RX10) (T := TX10) (N := 30) rfl (jb rfl) inX10 (j := 22) (jb rfl) rfl tw_942 dX10_write_51 ?_
      exact j_iret (pc := 54) hX rfl dX10_write_54
    · refine j_bipush (pc := 26) (v := (-3 : Int32)) hX dX10_write_26 cb_m3 ?_
      exact j_iret (pc := 28) hX rfl dX10_write_28
  · refine j_iconst (pc := 14) (v := (-1 : Int32)) hX dX10_write_14 ci_m1 ?_
    exact j_iret (pc := 15) hX rfl dX10_write_15
theorem mX10_write (l : Launch) (E : jE) (hI : jInj (gM E)) (fu : Nat)  (x1 : Int32) (M : Mem) : jMet l (gM E) yX10_write cX10_write 2 (some .int) rX10_write [.ref (gad (gM E) 0), .int x1] M (pX10_write fu  x1 M) :=
  j_entry hI (by decide +kernel) (Nat.le_of_ble_eq_true rfl) rfl (fun X _ hX => wX10_write hX fu   x1 M)
theorem qX10_wipe : jYv yX10_wipe cX10_wipe 2 (some .int) 0 := ⟨tw_1021, tw_1022, tw_72, tw_1023, ⟨by decide +kernel, by decide +kernel, by decide +kernel⟩⟩
abbrev rX10_wipe : Room := { frames := 0, cells := 0, slots := 0, locals := 0 }
def uX10_wipe : jM := (cX10_wipe, 2, RX10, (some .int), rX10_wipe)
def pX10_wipe (fu : Nat)  (M : Mem) : Res :=
  fpt M 0 22 (0 : Int32) fun M1 =>
  some ((M 0 22), M1)
set_option maxRecDepth 100000 in
theorem wX10_wipe {E : jE} {X : jC} (hX : jOk X uX10_wipe (gM E)) (fu : Nat)   (M : Mem) : J X uX10_wipe (gM E) 0 [(0, .ref (gad (gM E) 0))] [] M (pX10_wipe fu   M) := by
  unfold pX10_wipe
  refine j_aload_n (pc := 0) hX 0 dX10_wipe_0 rfl rfl ?_
  refine j_getI (pc := 1) hX (jb rfl) rfl (ci := 9) (C := RX10) (T := TX10) (N := 30) rfl (jb rfl) inX10 (j := 22) (jb rfl) rfl tw_942 dX10_wipe_1 ?_
  refine j_istore_n (pc := 4) (lv' := [(1, .int (M 0 22)), (0, .ref (gad (gM E) 0))]) hX dX10_wipe_4 rfl (jb rfl) rfl ?_
  refine j_aload_n (pc := 5) hX 1 dX10_wipe_5 rfl rfl ?_
  refine j_iconst (pc := 6) (v := (0 : Int32)) hX dX10_wipe_6 ci_0 ?_
  refine j_putI (pc := 7) hX (jb rfl) rfl (ci := 9) (C := RX10) (T := TX10) (N := 30) rfl (jb rfl) inX10 tyX10 tyX10_ok nmX10 (j := 22) (jb rfl) rfl tw_942 rfl (tyX10_ok 22 (jb rfl)) dX10_wipe_7 (fun M1 => ?_)
  refine j_iload_n (pc := 10) hX 0 dX10_wipe_10 rfl rfl ?_
  exact j_iret (pc := 11) hX rfl dX10_wipe_11
theorem mX10_wipe (l : Launch) (E : jE) (hI : jInj (gM E)) (fu : Nat)   (M : Mem) : jMet l (gM E) yX10_wipe cX10_wipe 2 (some .int) rX10_wipe [.ref (gad (gM E) 0)] M (pX10_wipe fu   M) :=
  j_entry hI (by decide +kernel) (Nat.le_of_ble_eq_true rfl) rfl (fun X _ hX => wX10_wipe hX fu    M)
theorem qX10_byteNow : jYv yX10_byteNow cX10_byteNow 1 (some .int) 0 := ⟨tw_1034, tw_24, tw_72, tw_1035, ⟨by decide +kernel, by decide +kernel, by decide +kernel⟩⟩
abbrev rX10_byteNow : Room := { frames := 0, cells := 0, slots := 0, locals := 0 }
def uX10_byteNow : jM := (cX10_byteNow, 1, RX10, (some .int), rX10_byteNow)
def pX10_byteNow (fu : Nat)  (M : Mem) : Res :=
  if (M 0 22) ≤ (M 0 24) then (
    some ((-1 : Int32), M))
  else
  ld M 13 200 (M 0 24) fun v1 =>
  some (v1, M)
set_option maxRecDepth 100000 in
theorem wX10_byteNow {E : jE} {X : jC} (hX : jOk X uX10_byteNow (gM E)) (fu : Nat)   (M : Mem) : J X uX10_byteNow (gM E) 0 [(0, .ref (gad (gM E) 0))] [] M (pX10_byteNow fu   M) := by
  unfold pX10_byteNow
  refine j_aload_n (pc := 0) hX 0 dX10_byteNow_0 rfl rfl ?_
  refine j_getI (pc := 1) hX (jb rfl) rfl (ci := 9) (C := RX10) (T := TX10) (N := 30) rfl (jb rfl) inX10 (j := 24) (jb rfl) rfl tw_944 dX10_byteNow_1 ?_
  refine j_aload_n (pc := 4) hX 0 dX10_byteNow_4 rfl rfl ?_
  refine j_getI (pc := 5) hX (jb rfl) rfl (ci := 9) (C := RX10) (T := TX10) (N := 30) rfl (jb rfl) inX10 (j := 22) (jb rfl) rfl tw_942 dX10_byteNow_5 ?_
  refine j_icmp_ge (pc := 8) hX 23 dX10_byteNow_8 (by decide) ?_ ?_
  · refine j_iconst (pc := 23) (v := (-1 : Int32)) hX dX10_byteNow_23 ci_m1 ?_
    exact j_iret (pc := 24) hX rfl dX10_byteNow_24
  · refine j_aload_n (pc := 11) hX 0 dX10_byteNow_11 rfl rfl ?_
    refine j_getR (pc := 12) (t := 13) hX (jb rfl) rfl (ci := 9) (C := RX10) (T := TX10) (N := 30) rfl (jb rfl) inX10 (j := 23) (jb rfl) rfl tw_943 dX10_byteNow_12 ?_
    refine j_aload_n (pc := 15) hX 0 dX10_byteNow_15 rfl rfl ?_
    refine j_getI (pc := 16) hX (jb rfl) rfl (ci := 9) (C := RX10) (T := TX10) (N := 30) rfl (jb rfl) inX10 (j := 24) (jb rfl) rfl tw_944 dX10_byteNow_16 ?_
    refine j_bald (pc := 19) hX (jb rfl) rfl rfl dX10_byteNow_19 (fun v1 => ?_)
    refine j_goto (pc := 20) hX 24 dX10_byteNow_20 (by decide) ?_
    exact j_iret (pc := 24) hX rfl dX10_byteNow_24
theorem mX10_byteNow (l : Launch) (E : jE) (hI : jInj (gM E)) (fu : Nat)   (M : Mem) : jMet l (gM E) yX10_byteNow cX10_byteNow 1 (some .int) rX10_byteNow [.ref (gad (gM E) 0)] M (pX10_byteNow fu   M) :=
  j_entry hI (by decide +kernel) (Nat.le_of_ble_eq_true rfl) rfl (fun X _ hX => wX10_byteNow hX fu    M)
