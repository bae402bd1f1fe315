theorem dX4_readOf__0 : decode cX4_readOf_ 0 = .ok (.aload_n 0, 1) := by decide +kernel
theorem dX4_readOf__1 : decode cX4_readOf_ 1 = .ok (.iload_n 1, 1) := by decide +kernel
theorem dX4_readOf__2 : decode cX4_readOf_ 2 = .ok (.iload_n 2, 1) := by decide +kernel
theorem dX4_readOf__3 : decode cX4_readOf_ 3 = .ok (.invokevirtual 123, 3) := by decide +kernel
theorem dX4_readOf__6 : decode cX4_readOf_ 6 = .ok (.istore_n 3, 1) := by decide +kernel
theorem dX4_readOf__7 : decode cX4_readOf_ 7 = .ok (.aload_n 0, 1) := by decide +kernel
theorem dX4_readOf__8 : decode cX4_readOf_ 8 = .ok (.getfield 15, 3) := by decide +kernel
theorem dX4_readOf__11 : decode cX4_readOf_ 11 = .ok (.aload_n 0, 1) := by decide +kernel
theorem dX4_readOf__12 : decode cX4_readOf_ 12 = .ok (.iload_n 1, 1) := by decide +kernel
theorem dX4_readOf__13 : decode cX4_readOf_ 13 = .ok (.iconst 5, 1) := by decide +kernel
theorem dX4_readOf__14 : decode cX4_readOf_ 14 = .ok (.invokevirtual 63, 3) := by decide +kernel
theorem dX4_readOf__17 : decode cX4_readOf_ 17 = .ok (.invokevirtual 126, 3) := by decide +kernel
theorem dX4_readOf__20 : decode cX4_readOf_ 20 = .ok (.tableswitch 44 1 3 #[28, 34, 40], 28) := by decide +kernel
theorem dX4_readOf__48 : decode cX4_readOf_ 48 = .ok (.iload_n 3, 1) := by decide +kernel
theorem dX4_readOf__49 : decode cX4_readOf_ 49 = .ok (.iload_n 3, 1) := by decide +kernel
theorem dX4_readOf__50 : decode cX4_readOf_ 50 = .ok (.iconst 2, 1) := by decide +kernel
theorem dX4_readOf__51 : decode cX4_readOf_ 51 = .ok (.irem, 1) := by decide +kernel
theorem dX4_readOf__52 : decode cX4_readOf_ 52 = .ok (.isub, 1) := by decide +kernel
theorem dX4_readOf__53 : decode cX4_readOf_ 53 = .ok (.ireturn, 1) := by decide +kernel
theorem dX4_readOf__54 : decode cX4_readOf_ 54 = .ok (.iload_n 3, 1) := by decide +kernel
theorem dX4_readOf__55 : decode cX4_readOf_ 55 = .ok (.iconst 4, 1) := by decide +kernel
theorem dX4_readOf__56 : decode cX4_readOf_ 56 = .ok (.invokestatic 117, 3) := by decide +kernel
theorem dX4_readOf__59 : decode cX4_readOf_ 59 = .ok (.ireturn, 1) := by decide +kernel
theorem dX4_readOf__60 : decode cX4_readOf_ 60 = .ok (.iload_n 3, 1) := by decide +kernel
theorem dX4_readOf__61 : decode cX4_readOf_ 61 = .ok (.iconst 2, 1) := by decide +kernel
theorem dX4_readOf__62 : decode cX4_readOf_ 62 = .ok (.idiv, 1) := by decide +kernel
theorem dX4_readOf__63 : decode cX4_readOf_ 63 = .ok (.ireturn, 1) := by decide +kernel
theorem dX4_readOf__64 : decode cX4_readOf_ 64 = .ok (.iload_n 3, 1) := by decide +kernel
theorem dX4_readOf__65 : decode cX4_readOf_ 65 = .ok (.ireturn, 1) := by decide +kernel
theorem dX4_readOf_0 : decode cX4_readOf 0 = .ok (.aload_n 0, 1) := by decide +kernel
theorem dX4_readOf_1 : decode cX4_readOf 1 = .ok (.iload_n 1, 1) := by decide +kernel
theorem dX4_readOf_2 : decode cX4_readOf 2 = .ok (.aload_n 0, 1) := by decide +kernel
theorem dX4_readOf_3 : decode cX4_readOf 3 = .ok (.iload_n 1, 1) := by decide +kernel
theorem dX4_readOf_4 : decode cX4_readOf 4 = .ok (.bipush 6, 2) := by decide +kernel
theorem dX4_readOf_6 : decode cX4_readOf 6 = .ok (.invokevirtual 63, 3) := by decide +kernel
theorem dX4_readOf_9 : decode cX4_readOf 9 = .ok (.invokevirtual 120, 3) := by decide +kernel
theorem dX4_readOf_12 : decode cX4_readOf 12 = .ok (.ireturn, 1) := by decide +kernel
theorem dX4_isIn_0 : decode cX4_isIn 0 = .ok (.aload_n 0, 1) := by decide +kernel
theorem dX4_isIn_1 : decode cX4_isIn 1 = .ok (.iload_n 1, 1) := by decide +kernel
theorem dX4_isIn_2 : decode cX4_isIn 2 = .ok (.iconst 2, 1) := by decide +kernel
theorem dX4_isIn_3 : decode cX4_isIn 3 = .ok (.invokevirtual 63, 3) := by decide +kernel
theorem dX4_isIn_6 : decode cX4_isIn 6 = .ok (.iload_n 2, 1) := by decide +kernel
theorem dX4_isIn_7 : decode cX4_isIn 7 = .ok (.if_icmp .ne 18, 3) := by decide +kernel
theorem dX4_isIn_10 : decode cX4_isIn 10 = .ok (.aload_n 0, 1) := by decide +kernel
theorem dX4_isIn_11 : decode cX4_isIn 11 = .ok (.iload_n 1, 1) := by decide +kernel
theorem dX4_isIn_12 : decode cX4_isIn 12 = .ok (.iconst 3, 1) := by decide +kernel
theorem dX4_isIn_13 : decode cX4_isIn 13 = .ok (.invokevirtual 63, 3) := by decide +kernel
theorem dX4_isIn_16 : decode cX4_isIn 16 = .ok (.bipush (-4), 2) := by decide +kernel
theorem dX4_isIn_18 : decode cX4_isIn 18 = .ok (.if_icmp .ne 7, 3) := by decide +kernel
theorem dX4_isIn_21 : decode cX4_isIn 21 = .ok (.iconst 1, 1) := by decide +kernel
theorem dX4_isIn_22 : decode cX4_isIn 22 = .ok (.goto 4, 3) := by decide +kernel
theorem dX4_isIn_25 : decode cX4_isIn 25 = .ok (.iconst 0, 1) := by decide +kernel
theorem dX4_isIn_26 : decode cX4_isIn 26 = .ok (.ireturn, 1) := by decide +kernel
theorem dX4_callHome_0 : decode cX4_callHome 0 = .ok (.aload_n 0, 1) := by decide +kernel
theorem dX4_callHome_1 : decode cX4_callHome 1 = .ok (.iload_n 1, 1) := by decide +kernel
theorem dX4_callHome_2 : decode cX4_callHome 2 = .ok (.iconst 1, 1) := by decide +kernel
theorem dX4_callHome_3 : decode cX4_callHome 3 = .ok (.iconst 3, 1) := by decide +kernel
theorem dX4_callHome_4 : decode cX4_callHome 4 = .ok (.invokevirtual 49, 3) := by decide +kernel
theorem dX4_callHome_7 : decode cX4_callHome 7 = .ok (.aload_n 0, 1) := by decide +kernel
theorem dX4_callHome_8 : decode cX4_callHome 8 = .ok (.iload_n 1, 1) := by decide +kernel
theorem dX4_callHome_9 : decode cX4_callHome 9 = .ok (.bipush 10, 2) := by decide +kernel
theorem dX4_callHome_11 : decode cX4_callHome 11 = .ok (.iconst 0, 1) := by decide +kernel
theorem dX4_callHome_12 : decode cX4_callHome 12 = .ok (.invokevirtual 49, 3) := by decide +kernel
theorem dX4_callHome_15 : decode cX4_callHome 15 = .ok (.aload_n 0, 1) := by decide +kernel
theorem dX4_callHome_16 : decode cX4_callHome 16 = .ok (.iload_n 1, 1) := by decide +kernel
theorem dX4_callHome_17 : decode cX4_callHome 17 = .ok (.iconst 5, 1) := by decide +kernel
theorem dX4_callHome_18 : decode cX4_callHome 18 = .ok (.bipush (-4), 2) := by decide +kernel
theorem dX4_callHome_20 : decode cX4_callHome 20 = .ok (.invokevirtual 49, 3) := by decide +kernel
theorem dX4_callHome_23 : decode cX4_callHome 23 = .ok (.return_, 1) := by decide +kernel
theorem dX4_gather_0 : decode cX4_gather 0 = .ok (.aload_n 0, 1) := by decide +kernel
theorem dX4_gather_1 : decode cX4_gather 1 = .ok (.getfield 11, 3) := by decide +kernel
theorem dX4_gather_4 : decode cX4_gather 4 = .ok (.invokestatic 35, 3) := by decide +kernel
theorem dX4_gather_7 : decode cX4_gather 7 = .ok (.iconst 0, 1) := by decide +kernel
theorem dX4_gather_8 : decode cX4_gather 8 = .ok (.istore_n 1, 1) := by decide +kernel
theorem dX4_gather_9 : decode cX4_gather 9 = .ok (.iload_n 1, 1) := by decide +kernel
theorem dX4_gather_10 : decode cX4_gather 10 = .ok (.aload_n 0, 1) := by decide +kernel
theorem dX4_gather_11 : decode cX4_gather 11 = .ok (.getfield 15, 3) := by decide +kernel
theorem dX4_gather_14 : decode cX4_gather 14 = .ok (.invokevirtual 39, 3) := by decide +kernel
theorem dX4_gather_17 : decode cX4_gather 17 = .ok (.if_icmp .ge 53, 3) := by decide +kernel
theorem dX4_gather_20 : decode cX4_gather 20 = .ok (.aload_n 0, 1) := by decide +kernel
theorem dX4_gather_21 : decode cX4_gather 21 = .ok (.iload_n 1, 1) := by decide +kernel
theorem dX4_gather_22 : decode cX4_gather 22 = .ok (.iconst 0, 1) := by decide +kernel
theorem dX4_gather_23 : decode cX4_gather 23 = .ok (.aload_n 0, 1) := by decide +kernel
theorem dX4_gather_24 : decode cX4_gather 24 = .ok (.getfield 15, 3) := by decide +kernel
theorem dX4_gather_27 : decode cX4_gather 27 = .ok (.iload_n 1, 1) := by decide +kernel
theorem dX4_gather_28 : decode cX4_gather 28 = .ok (.invokevirtual 45, 3) := by decide +kernel
theorem dX4_gather_31 : decode cX4_gather 31 = .ok (.invokevirtual 49, 3) := by decide +kernel
theorem dX4_gather_34 : decode cX4_gather 34 = .ok (.aload_n 0, 1) := by decide +kernel
theorem dX4_gather_35 : decode cX4_gather 35 = .ok (.iload_n 1, 1) := by decide +kernel
theorem dX4_gather_36 : decode cX4_gather 36 = .ok (.iconst 1, 1) := by decide +kernel
theorem dX4_gather_37 : decode cX4_gather 37 = .ok (.iconst 0, 1) := by decide +kernel
theorem dX4_gather_38 : decode cX4_gather 38 = .ok (.invokevirtual 49, 3) := by decide +kernel
theorem dX4_gather_41 : decode cX4_gather 41 = .ok (.aload_n 0, 1) := by decide +kernel
theorem dX4_gather_42 : decode cX4_gather 42 = .ok (.iload_n 1, 1) := by decide +kernel
theorem dX4_gather_43 : decode cX4_gather 43 = .ok (.iconst 2, 1) := by decide +kernel
theorem dX4_gather_44 : decode cX4_gather 44 = .ok (.iconst 0, 1) := by decide +kernel
theorem dX4_gather_45 : decode cX4_gather 45 = .ok (.invokevirtual 49, 3) := by decide +kernel
theorem dX4_gather_48 : decode cX4_gather 48 = .ok (.aload_n 0, 1) := by decide +kernel
theorem dX4_gather_49 : decode cX4_gather 49 = .ok (.iload_n 1, 1) := by decide +kernel
theorem dX4_gather_50 : decode cX4_gather 50 = .ok (.iconst 3, 1) := by decide +kernel
theorem dX4_gather_51 : decode cX4_gather 51 = .ok (.bipush (-4), 2) := by decide +kernel
theorem dX4_gather_53 : decode cX4_gather 53 = .ok (.invokevirtual 49, 3) := by decide +kernel
theorem dX4_gather_56 : decode cX4_gather 56 = .ok (.aload_n 0, 1) := by decide +kernel
theorem dX4_gather_57 : decode cX4_gather 57 = .ok (.iload_n 1, 1) := by decide +kernel
theorem dX4_gather_58 : decode cX4_gather 58 = .ok (.iconst 5, 1) := by decide +kernel
theorem dX4_gather_59 : decode cX4_gather 59 = .ok (.bipush (-4), 2) := by decide +kernel
theorem dX4_gather_61 : decode cX4_gather 61 = .ok (.invokevirtual 49, 3) := by decide +kernel
theorem dX4_gather_64 : decode cX4_gather 64 = .ok (.iinc 1 1, 3) := by decide +kernel
theorem dX4_gather_67 : decode cX4_gather 67 = .ok (.goto (-58), 3) := by decide +kernel
theorem dX4_gather_70 : decode cX4_gather 70 = .ok (.iconst 0, 1) := by decide +kernel
theorem dX4_gather_71 : decode cX4_gather 71 = .ok (.istore_n 1, 1) := by decide +kernel
theorem dX4_gather_72 : decode cX4_gather 72 = .ok (.iload_n 1, 1) := by decide +kernel
theorem dX4_gather_73 : decode cX4_gather 73 = .ok (.aload_n 0, 1) := by decide +kernel
theorem dX4_gather_74 : decode cX4_gather 74 = .ok (.getfield 15, 3) := by decide +kernel
theorem dX4_gather_77 : decode cX4_gather 77 = .ok (.invokevirtual 53, 3) := by decide +kernel
theorem dX4_gather_80 : decode cX4_gather 80 = .ok (.if_icmp .ge 22, 3) := by decide +kernel
theorem dX4_gather_83 : decode cX4_gather 83 = .ok (.aload_n 0, 1) := by decide +kernel
theorem dX4_gather_84 : decode cX4_gather 84 = .ok (.iload_n 1, 1) := by decide +kernel
theorem dX4_gather_85 : decode cX4_gather 85 = .ok (.aload_n 0, 1) := by decide +kernel
theorem dX4_gather_86 : decode cX4_gather 86 = .ok (.getfield 15, 3) := by decide +kernel
theorem dX4_gather_89 : decode cX4_gather 89 = .ok (.iload_n 1, 1) := by decide +kernel
theorem dX4_gather_90 : decode cX4_gather 90 = .ok (.invokevirtual 56, 3) := by decide +kernel
theorem dX4_gather_93 : decode cX4_gather 93 = .ok (.invokevirtual 59, 3) := by decide +kernel
theorem dX4_gather_96 : decode cX4_gather 96 = .ok (.iinc 1 1, 3) := by decide +kernel
theorem dX4_gather_99 : decode cX4_gather 99 = .ok (.goto (-27), 3) := by decide +kernel
theorem dX4_gather_102 : decode cX4_gather 102 = .ok (.return_, 1) := by decide +kernel
theorem dX4_verdictsOfSign_0 : decode cX4_verdictsOfSign 0 = .ok (.iconst 0, 1) := by decide +kernel
theorem dX4_verdictsOfSign_1 : decode cX4_verdictsOfSign 1 = .ok (.istore_n 3, 1) := by decide +kernel
theorem dX4_verdictsOfSign_2 : decode cX4_verdictsOfSign 2 = .ok (.iconst 0, 1) := by decide +kernel
theorem dX4_verdictsOfSign_3 : decode cX4_verdictsOfSign 3 = .ok (.istore 4, 2) := by decide +kernel
theorem dX4_verdictsOfSign_5 : decode cX4_verdictsOfSign 5 = .ok (.iload 4, 2) := by decide +kernel
theorem dX4_verdictsOfSign_7 : decode cX4_verdictsOfSign 7 = .ok (.bipush 8, 2) := by decide +kernel
theorem dX4_verdictsOfSign_9 : decode cX4_verdictsOfSign 9 = .ok (.if_icmp .ge 31, 3) := by decide +kernel
theorem dX4_verdictsOfSign_12 : decode cX4_verdictsOfSign 12 = .ok (.iload_n 3, 1) := by decide +kernel
theorem dX4_verdictsOfSign_13 : decode cX4_verdictsOfSign 13 = .ok (.aload_n 0, 1) := by decide +kernel
theorem dX4_verdictsOfSign_14 : decode cX4_verdictsOfSign 14 = .ok (.iload_n 1, 1) := by decide +kernel
theorem dX4_verdictsOfSign_15 : decode cX4_verdictsOfSign 15 = .ok (.iload 4, 2) := by decide +kernel
theorem dX4_verdictsOfSign_17 : decode cX4_verdictsOfSign 17 = .ok (.invokevirtual 123, 3) := by decide +kernel
theorem dX4_verdictsOfSign_20 : decode cX4_verdictsOfSign 20 = .ok (.iload_n 2, 1) := by decide +kernel
theorem dX4_verdictsOfSign_21 : decode cX4_verdictsOfSign 21 = .ok (.if_icmp .ne 10, 3) := by decide +kernel
theorem dX4_verdictsOfSign_24 : decode cX4_verdictsOfSign 24 = .ok (.iconst 1, 1) := by decide +kernel
theorem dX4_verdictsOfSign_25 : decode cX4_verdictsOfSign 25 = .ok (.iload 4, 2) := by decide +kernel
theorem dX4_verdictsOfSign_27 : decode cX4_verdictsOfSign 27 = .ok (.ishl, 1) := by decide +kernel
theorem dX4_verdictsOfSign_28 : decode cX4_verdictsOfSign 28 = .ok (.goto 4, 3) := by decide +kernel
theorem dX4_verdictsOfSign_31 : decode cX4_verdictsOfSign 31 = .ok (.iconst 0, 1) := by decide +kernel
theorem dX4_verdictsOfSign_32 : decode cX4_verdictsOfSign 32 = .ok (.ior, 1) := by decide +kernel
theorem dX4_verdictsOfSign_33 : decode cX4_verdictsOfSign 33 = .ok (.istore_n 3, 1) := by decide +kernel
theorem dX4_verdictsOfSign_34 : decode cX4_verdictsOfSign 34 = .ok (.iinc 4 1, 3) := by decide +kernel
theorem dX4_verdictsOfSign_37 : decode cX4_verdictsOfSign 37 = .ok (.goto (-32), 3) := by decide +kernel
theorem dX4_verdictsOfSign_40 : decode cX4_verdictsOfSign 40 = .ok (.iload_n 3, 1) := by decide +kernel
theorem dX4_verdictsOfSign_41 : decode cX4_verdictsOfSign 41 = .ok (.ireturn, 1) := by decide +kernel
theorem dX4_placeAhead_0 : decode cX4_placeAhead 0 = .ok (.aload_n 0, 1) := by decide +kernel
theorem dX4_placeAhead_1 : decode cX4_placeAhead 1 = .ok (.iload_n 1, 1) := by decide +kernel
theorem dX4_placeAhead_2 : decode cX4_placeAhead 2 = .ok (.bipush 10, 2) := by decide +kernel
theorem dX4_placeAhead_4 : decode cX4_placeAhead 4 = .ok (.invokevirtual 63, 3) := by decide +kernel
theorem dX4_placeAhead_7 : decode cX4_placeAhead 7 = .ok (.istore_n 3, 1) := by decide +kernel
theorem dX4_placeAhead_8 : decode cX4_placeAhead 8 = .ok (.aload_n 0, 1) := by decide +kernel
theorem dX4_placeAhead_9 : decode cX4_placeAhead 9 = .ok (.iload_n 1, 1) := by decide +kernel
theorem dX4_placeAhead_10 : decode cX4_placeAhead 10 = .ok (.iconst 3, 1) := by decide +kernel
theorem dX4_placeAhead_11 : decode cX4_placeAhead 11 = .ok (.invokevirtual 63, 3) := by decide +kernel
theorem dX4_placeAhead_14 : decode cX4_placeAhead 14 = .ok (.istore 4, 2) := by decide +kernel
theorem dX4_placeAhead_16 : decode cX4_placeAhead 16 = .ok (.iload 4, 2) := by decide +kernel
theorem dX4_placeAhead_18 : decode cX4_placeAhead 18 = .ok (.bipush (-4), 2) := by decide +kernel
theorem dX4_placeAhead_20 : decode cX4_placeAhead 20 = .ok (.if_icmp .ne 34, 3) := by decide +kernel
theorem dX4_placeAhead_23 : decode cX4_placeAhead 23 = .ok (.aload_n 0, 1) := by decide +kernel
theorem dX4_placeAhead_24 : decode cX4_placeAhead 24 = .ok (.iload_n 1, 1) := by decide +kernel
theorem dX4_placeAhead_25 : decode cX4_placeAhead 25 = .ok (.iconst 2, 1) := by decide +kernel
theorem dX4_placeAhead_26 : decode cX4_placeAhead 26 = .ok (.invokevirtual 63, 3) := by decide +kernel
theorem dX4_placeAhead_29 : decode cX4_placeAhead 29 = .ok (.iload_n 3, 1) := by decide +kernel
theorem dX4_placeAhead_30 : decode cX4_placeAhead 30 = .ok (.if_icmp .ne 8, 3) := by decide +kernel
theorem dX4_placeAhead_33 : decode cX4_placeAhead 33 = .ok (.bipush (-4), 2) := by decide +kernel
theorem dX4_placeAhead_35 : decode cX4_placeAhead 35 = .ok (.goto 17, 3) := by decide +kernel
theorem dX4_placeAhead_38 : decode cX4_placeAhead 38 = .ok (.aload_n 0, 1) := by decide +kernel
theorem dX4_placeAhead_39 : decode cX4_placeAhead 39 = .ok (.getfield 15, 3) := by decide +kernel
theorem dX4_placeAhead_42 : decode cX4_placeAhead 42 = .ok (.aload_n 0, 1) := by decide +kernel
theorem dX4_placeAhead_43 : decode cX4_placeAhead 43 = .ok (.iload_n 1, 1) := by decide +kernel
theorem dX4_placeAhead_44 : decode cX4_placeAhead 44 = .ok (.iconst 2, 1) := by decide +kernel
theorem dX4_placeAhead_45 : decode cX4_placeAhead 45 = .ok (.invokevirtual 63, 3) := by decide +kernel
theorem dX4_placeAhead_48 : decode cX4_placeAhead 48 = .ok (.iload_n 3, 1) := by decide +kernel
theorem dX4_placeAhead_49 : decode cX4_placeAhead 49 = .ok (.invokevirtual 91, 3) := by decide +kernel
theorem dX4_placeAhead_52 : decode cX4_placeAhead 52 = .ok (.istore 4, 2) := by decide +kernel
theorem dX4_placeAhead_54 : decode cX4_placeAhead 54 = .ok (.iconst 0, 1) := by decide +kernel
theorem dX4_placeAhead_55 : decode cX4_placeAhead 55 = .ok (.istore 5, 2) := by decide +kernel
theorem dX4_placeAhead_57 : decode cX4_placeAhead 57 = .ok (.iload 5, 2) := by decide +kernel
theorem dX4_placeAhead_59 : decode cX4_placeAhead 59 = .ok (.iload_n 2, 1) := by decide +kernel
theorem dX4_placeAhead_60 : decode cX4_placeAhead 60 = .ok (.if_icmp .ge 46, 3) := by decide +kernel
theorem dX4_placeAhead_63 : decode cX4_placeAhead 63 = .ok (.iload 5, 2) := by decide +kernel
theorem dX4_placeAhead_65 : decode cX4_placeAhead 65 = .ok (.bipush 8, 2) := by decide +kernel
theorem dX4_placeAhead_67 : decode cX4_placeAhead 67 = .ok (.if_icmp .ge 39, 3) := by decide +kernel
theorem dX4_placeAhead_70 : decode cX4_placeAhead 70 = .ok (.iload 4, 2) := by decide +kernel
theorem dX4_placeAhead_72 : decode cX4_placeAhead 72 = .ok (.bipush (-4), 2) := by decide +kernel
theorem dX4_placeAhead_74 : decode cX4_placeAhead 74 = .ok (.if_icmp .eq 32, 3) := by decide +kernel
theorem dX4_placeAhead_77 : decode cX4_placeAhead 77 = .ok (.iload 4, 2) := by decide +kernel
theorem dX4_placeAhead_79 : decode cX4_placeAhead 79 = .ok (.iload_n 3, 1) := by decide +kernel
theorem dX4_placeAhead_80 : decode cX4_placeAhead 80 = .ok (.if_icmp .ne 8, 3) := by decide +kernel
theorem dX4_placeAhead_83 : decode cX4_placeAhead 83 = .ok (.bipush (-4), 2) := by decide +kernel
theorem dX4_placeAhead_85 : decode cX4_placeAhead 85 = .ok (.goto 13, 3) := by decide +kernel
theorem dX4_placeAhead_88 : decode cX4_placeAhead 88 = .ok (.aload_n 0, 1) := by decide +kernel
theorem dX4_placeAhead_89 : decode cX4_placeAhead 89 = .ok (.getfield 15, 3) := by decide +kernel
theorem dX4_placeAhead_92 : decode cX4_placeAhead 92 = .ok (.iload 4, 2) := by decide +kernel
theorem dX4_placeAhead_94 : decode cX4_placeAhead 94 = .ok (.iload_n 3, 1) := by decide +kernel
theorem dX4_placeAhead_95 : decode cX4_placeAhead 95 = .ok (.invokevirtual 91, 3) := by decide +kernel
theorem dX4_placeAhead_98 : decode cX4_placeAhead 98 = .ok (.istore 4, 2) := by decide +kernel
theorem dX4_placeAhead_100 : decode cX4_placeAhead 100 = .ok (.iinc 5 1, 3) := by decide +kernel
theorem dX4_placeAhead_103 : decode cX4_placeAhead 103 = .ok (.goto (-46), 3) := by decide +kernel
theorem dX4_placeAhead_106 : decode cX4_placeAhead 106 = .ok (.iload 4, 2) := by decide +kernel
theorem dX4_placeAhead_108 : decode cX4_placeAhead 108 = .ok (.ireturn, 1) := by decide +kernel
theorem dX4_beastsIn_0 : decode cX4_beastsIn 0 = .ok (.iconst 0, 1) := by decide +kernel
theorem dX4_beastsIn_1 : decode cX4_beastsIn 1 = .ok (.istore_n 2, 1) := by decide +kernel
theorem dX4_beastsIn_2 : decode cX4_beastsIn 2 = .ok (.iconst 0, 1) := by decide +kernel
theorem dX4_beastsIn_3 : decode cX4_beastsIn 3 = .ok (.istore_n 3, 1) := by decide +kernel
theorem dX4_beastsIn_4 : decode cX4_beastsIn 4 = .ok (.iload_n 3, 1) := by decide +kernel
theorem dX4_beastsIn_5 : decode cX4_beastsIn 5 = .ok (.aload_n 0, 1) := by decide +kernel
theorem dX4_beastsIn_6 : decode cX4_beastsIn 6 = .ok (.getfield 15, 3) := by decide +kernel
theorem dX4_beastsIn_9 : decode cX4_beastsIn 9 = .ok (.invokevirtual 39, 3) := by decide +kernel
theorem dX4_beastsIn_12 : decode cX4_beastsIn 12 = .ok (.if_icmp .ge 26, 3) := by decide +kernel
theorem dX4_beastsIn_15 : decode cX4_beastsIn 15 = .ok (.iload_n 2, 1) := by decide +kernel
theorem dX4_beastsIn_16 : decode cX4_beastsIn 16 = .ok (.aload_n 0, 1) := by decide +kernel
theorem dX4_beastsIn_17 : decode cX4_beastsIn 17 = .ok (.iload_n 3, 1) := by decide +kernel
theorem dX4_beastsIn_18 : decode cX4_beastsIn 18 = .ok (.iload_n 1, 1) := by decide +kernel
theorem dX4_beastsIn_19 : decode cX4_beastsIn 19 = .ok (.invokevirtual 129, 3) := by decide +kernel
theorem dX4_beastsIn_22 : decode cX4_beastsIn 22 = .ok (.ifCond .eq 7, 3) := by decide +kernel
theorem dX4_beastsIn_25 : decode cX4_beastsIn 25 = .ok (.iconst 1, 1) := by decide +kernel
theorem dX4_beastsIn_26 : decode cX4_beastsIn 26 = .ok (.goto 4, 3) := by decide +kernel
theorem dX4_beastsIn_29 : decode cX4_beastsIn 29 = .ok (.iconst 0, 1) := by decide +kernel
theorem dX4_beastsIn_30 : decode cX4_beastsIn 30 = .ok (.iadd, 1) := by decide +kernel
theorem dX4_beastsIn_31 : decode cX4_beastsIn 31 = .ok (.istore_n 2, 1) := by decide +kernel
theorem dX4_beastsIn_32 : decode cX4_beastsIn 32 = .ok (.iinc 3 1, 3) := by decide +kernel
theorem dX4_beastsIn_35 : decode cX4_beastsIn 35 = .ok (.goto (-31), 3) := by decide +kernel
theorem dX4_beastsIn_38 : decode cX4_beastsIn 38 = .ok (.iload_n 2, 1) := by decide +kernel
theorem dX4_beastsIn_39 : decode cX4_beastsIn 39 = .ok (.ireturn, 1) := by decide +kernel
theorem dX4_amount_0 : decode cX4_amount 0 = .ok (.iconst 0, 1) := by decide +kernel
theorem dX4_amount_1 : decode cX4_amount 1 = .ok (.istore_n 2, 1) := by decide +kernel
theorem dX4_amount_2 : decode cX4_amount 2 = .ok (.iconst 0, 1) := by decide +kernel
theorem dX4_amount_3 : decode cX4_amount 3 = .ok (.istore_n 3, 1) := by decide +kernel
theorem dX4_amount_4 : decode cX4_amount 4 = .ok (.iload_n 3, 1) := by decide +kernel
theorem dX4_amount_5 : decode cX4_amount 5 = .ok (.aload_n 0, 1) := by decide +kernel
theorem dX4_amount_6 : decode cX4_amount 6 = .ok (.getfield 15, 3) := by decide +kernel
theorem dX4_amount_9 : decode cX4_amount 9 = .ok (.invokevirtual 39, 3) := by decide +kernel
theorem dX4_amount_12 : decode cX4_amount 12 = .ok (.if_icmp .ge 26, 3) := by decide +kernel
theorem dX4_amount_15 : decode cX4_amount 15 = .ok (.iload_n 2, 1) := by decide +kernel
theorem dX4_amount_16 : decode cX4_amount 16 = .ok (.aload_n 0, 1) := by decide +kernel
theorem dX4_amount_17 : decode cX4_amount 17 = .ok (.iload_n 3, 1) := by decide +kernel
theorem dX4_amount_18 : decode cX4_amount 18 = .ok (.iload_n 1, 1) := by decide +kernel
theorem dX4_amount_19 : decode cX4_amount 19 = .ok (.invokevirtual 67, 3) := by decide +kernel
theorem dX4_amount_22 : decode cX4_amount 22 = .ok (.ifCond .eq 7, 3) := by decide +kernel
theorem dX4_amount_25 : decode cX4_amount 25 = .ok (.iconst 1, 1) := by decide +kernel
theorem dX4_amount_26 : decode cX4_amount 26 = .ok (.goto 4, 3) := by decide +kernel
theorem dX4_amount_29 : decode cX4_amount 29 = .ok (.iconst 0, 1) := by decide +kernel
theorem dX4_amount_30 : decode cX4_amount 30 = .ok (.iadd, 1) := by decide +kernel
theorem dX4_amount_31 : decode cX4_amount 31 = .ok (.istore_n 2, 1) := by decide +kernel
theorem dX4_amount_32 : decode cX4_amount 32 = .ok (.iinc 3 1, 3) := by decide +kernel
theorem dX4_amount_35 : decode cX4_amount 35 = .ok (.goto (-31), 3) := by decide +kernel
theorem dX4_amount_38 : decode cX4_amount 38 = .ok (.iload_n 2, 1) := by decide +kernel
theorem dX4_amount_39 : decode cX4_amount 39 = .ok (.ireturn, 1) := by decide +kernel
theorem dX4_carrotsInAll_0 : decode cX4_carrotsInAll 0 = .ok (.iconst 0, 1) := by decide +kernel
theorem dX4_carrotsInAll_1 : decode cX4_carrotsInAll 1 = .ok (.istore_n 1, 1) := by decide +kernel
theorem dX4_carrotsInAll_2 : decode cX4_carrotsInAll 2 = .ok (.iconst 0, 1) := by decide +kernel
theorem dX4_carrotsInAll_3 : decode cX4_carrotsInAll 3 = .ok (.istore_n 2, 1) := by decide +kernel
theorem dX4_carrotsInAll_4 : decode cX4_carrotsInAll 4 = .ok (.iload_n 2, 1) := by decide +kernel
theorem dX4_carrotsInAll_5 : decode cX4_carrotsInAll 5 = .ok (.aload_n 0, 1) := by decide +kernel
theorem dX4_carrotsInAll_6 : decode cX4_carrotsInAll 6 = .ok (.getfield 15, 3) := by decide +kernel
theorem dX4_carrotsInAll_9 : decode cX4_carrotsInAll 9 = .ok (.invokevirtual 53, 3) := by decide +kernel
theorem dX4_carrotsInAll_12 : decode cX4_carrotsInAll 12 = .ok (.if_icmp .ge 17, 3) := by decide +kernel
theorem dX4_carrotsInAll_15 : decode cX4_carrotsInAll 15 = .ok (.iload_n 1, 1) := by decide +kernel
theorem dX4_carrotsInAll_16 : decode cX4_carrotsInAll 16 = .ok (.aload_n 0, 1) := by decide +kernel
theorem dX4_carrotsInAll_17 : decode cX4_carrotsInAll 17 = .ok (.iload_n 2, 1) := by decide +kernel
theorem dX4_carrotsInAll_18 : decode cX4_carrotsInAll 18 = .ok (.invokevirtual 106, 3) := by decide +kernel
theorem dX4_carrotsInAll_21 : decode cX4_carrotsInAll 21 = .ok (.iadd, 1) := by decide +kernel
theorem dX4_carrotsInAll_22 : decode cX4_carrotsInAll 22 = .ok (.istore_n 1, 1) := by decide +kernel
theorem dX4_carrotsInAll_23 : decode cX4_carrotsInAll 23 = .ok (.iinc 2 1, 3) := by decide +kernel
theorem dX4_carrotsInAll_26 : decode cX4_carrotsInAll 26 = .ok (.goto (-22), 3) := by decide +kernel
theorem dX4_carrotsInAll_29 : decode cX4_carrotsInAll 29 = .ok (.iload_n 1, 1) := by decide +kernel
theorem dX4_carrotsInAll_30 : decode cX4_carrotsInAll 30 = .ok (.ireturn, 1) := by decide +kernel
theorem dX4_readInSum_0 : decode cX4_readInSum 0 = .ok (.iconst 0, 1) := by decide +kernel
theorem dX4_readInSum_1 : decode cX4_readInSum 1 = .ok (.istore_n 1, 1) := by decide +kernel
theorem dX4_readInSum_2 : decode cX4_readInSum 2 = .ok (.iconst 0, 1) := by decide +kernel
theorem dX4_readInSum_3 : decode cX4_readInSum 3 = .ok (.istore_n 2, 1) := by decide +kernel
theorem dX4_readInSum_4 : decode cX4_readInSum 4 = .ok (.iload_n 2, 1) := by decide +kernel
theorem dX4_readInSum_5 : decode cX4_readInSum 5 = .ok (.aload_n 0, 1) := by decide +kernel
theorem dX4_readInSum_6 : decode cX4_readInSum 6 = .ok (.getfield 15, 3) := by decide +kernel
theorem dX4_readInSum_9 : decode cX4_readInSum 9 = .ok (.invokevirtual 39, 3) := by decide +kernel
theorem dX4_readInSum_12 : decode cX4_readInSum 12 = .ok (.if_icmp .ge 30, 3) := by decide +kernel
theorem dX4_readInSum_15 : decode cX4_readInSum 15 = .ok (.iload_n 1, 1) := by decide +kernel
theorem dX4_readInSum_16 : decode cX4_readInSum 16 = .ok (.aload_n 0, 1) := by decide +kernel
theorem dX4_readInSum_17 : decode cX4_readInSum 17 = .ok (.iload_n 2, 1) := by decide +kernel
theorem dX4_readInSum_18 : decode cX4_readInSum 18 = .ok (.iconst 2, 1) := by decide +kernel
theorem dX4_readInSum_19 : decode cX4_readInSum 19 = .ok (.invokevirtual 67, 3) := by decide +kernel
theorem dX4_readInSum_22 : decode cX4_readInSum 22 = .ok (.ifCond .eq 11, 3) := by decide +kernel
theorem dX4_readInSum_25 : decode cX4_readInSum 25 = .ok (.aload_n 0, 1) := by decide +kernel
theorem dX4_readInSum_26 : decode cX4_readInSum 26 = .ok (.iload_n 2, 1) := by decide +kernel
theorem dX4_readInSum_27 : decode cX4_readInSum 27 = .ok (.invokevirtual 132, 3) := by decide +kernel
theorem dX4_readInSum_30 : decode cX4_readInSum 30 = .ok (.goto 4, 3) := by decide +kernel
theorem dX4_readInSum_33 : decode cX4_readInSum 33 = .ok (.iconst 0, 1) := by decide +kernel
theorem dX4_readInSum_34 : decode cX4_readInSum 34 = .ok (.iadd, 1) := by decide +kernel
theorem dX4_readInSum_35 : decode cX4_readInSum 35 = .ok (.istore_n 1, 1) := by decide +kernel
theorem dX4_readInSum_36 : decode cX4_readInSum 36 = .ok (.iinc 2 1, 3) := by decide +kernel
theorem dX4_readInSum_39 : decode cX4_readInSum 39 = .ok (.goto (-35), 3) := by decide +kernel
theorem dX4_readInSum_42 : decode cX4_readInSum 42 = .ok (.iload_n 1, 1) := by decide +kernel
theorem dX4_readInSum_43 : decode cX4_readInSum 43 = .ok (.ireturn, 1) := by decide +kernel
theorem qX4_readOf_ : jYv yX4_readOf_ cX4_readOf_ 4 (some .int) 2 := ⟨tw_638, tw_639, tw_61, tw_640, ⟨by decide +kernel, by decide +kernel, by decide +kernel⟩⟩
abbrev rX4_readOf_ : Room := { frames := 3, cells := 0, slots := 0, locals := 66 }
def uX4_readOf_ : jM := (cX4_readOf_, 4, RX4, (some .int), rX4_readOf_)
def pX4_readOf_ (fu : Nat) (k0 : Nat) (x1 : Int32) (x2 : Int32) (M : Mem) : Res :=
  bI (pX4_signOf fu k0 x1 x2 M) fun r2 M1 =>
  bI (pX4_get fu k0 x1 (5 : Int32) M1) fun r4 M3 =>
  bI (pX1_doorKind fu 5 r4 M3) fun r6 M5 =>
  if r6 = (1 : Int32) then (
    some ((r2 - (irm r2 (2 : Int32))), M5))
  else
  if r6 = (2 : Int32) then (
    some ((imax r2 (4 : Int32)), M5))
  else
  if r6 = (3 : Int32) then (
    some ((r2 / (2 : Int32)), M5))
  else
  some (r2, M5)
set_option maxRecDepth 100000 in
theorem wX4_readOf_ {E : jE} {X : jC} (hX : jOk X uX4_readOf_ (gX E)) (fu : Nat) (k0 : Nat) (hk0 : tX k0 = 4) (x1 : Int32) (x2 : Int32) (M : Mem) : J X uX4_readOf_ (gX E) 0 [(0, .ref (gad (gX E) k0)), (1, .int x1), (2, .int x2)] [] M (pX4_readOf_ fu k0 x1 x2 M) := by
  unfold pX4_readOf_
  refine j_aload_n (pc := 0) hX 0 dX4_readOf__0 rfl rfl ?_
  refine j_iload_n (pc := 1) hX 1 dX4_readOf__1 rfl rfl ?_
  refine j_iload_n (pc := 2) hX 2 dX4_readOf__2 rfl rfl ?_
  refine j_callV (pc := 3) hX [.int x1, .int x2] (mX4_signOf _ E hX.2.2.2.2.2.2.2.2.1 fu k0 hk0 x1 x2 M) qX4_signOf tw_641 (hh hk0).1 hk0 (ci := 4) (T := TX4) (N := 2) rfl (jb rfl) rfl ⟨rfl, rfl⟩ ⟨(Nat.le_of_ble_eq_true rfl), (Nat.le_of_ble_eq_true rfl)⟩ (Nat.le_of_ble_eq_true rfl) dX4_readOf__3 (fun _ => rfl) rfl (fun r2 M1 => ?_)
  refine j_istore_n (pc := 6) (lv' := [(3, .int r2), (0, .ref (gad (gX E) k0)), (1, .int x1), (2, .int x2)]) hX dX4_readOf__6 rfl (jb rfl) rfl ?_
  refine j_aload_n (pc := 7) hX 1 dX4_readOf__7 rfl rfl ?_
  refine j_getR (pc := 8) (t := 5) hX (hh hk0).1 hk0 (ci := 4) (C := RX4) (T := TX4) (N := 2) rfl (jb rfl) inX4 (j := 0) (jb rfl) (rf_h0 hk0) tw_166 dX4_readOf__8 ?_
  refine j_aload_n (pc := 11) hX 1 dX4_readOf__11 rfl rfl ?_
  refine j_iload_n (pc := 12) hX 2 dX4_readOf__12 rfl rfl ?_
  refine j_iconst (pc := 13) (v := (5 : Int32)) hX dX4_readOf__13 ci_5 ?_
  refine j_callV (pc := 14) hX [.int x1, .int (5 : Int32)] (mX4_get _ E hX.2.2.2.2.2.2.2.2.1 fu k0 hk0 x1 (5 : Int32) M1) qX4_get tw_496 (hh hk0).1 hk0 (ci := 4) (T := TX4) (N := 2) rfl (jb rfl) rfl ⟨rfl, rfl⟩ ⟨(Nat.le_of_ble_eq_true rfl), (Nat.le_of_ble_eq_true rfl)⟩ (Nat.le_of_ble_eq_true rfl) dX4_readOf__14 (fun _ => rfl) rfl (fun r4 M3 => ?_)
  refine j_callV (pc := 17) hX [.int r4] (mX1_doorKind _ E hX.2.2.2.2.2.2.2.2.1 fu 5 rfl r4 M3) qX1_doorKind tw_642 (jb rfl) rfl (ci := 1) (T := TX1) (N := 13) rfl (jb rfl) rfl ⟨rfl, rfl⟩ ⟨(Nat.le_of_ble_eq_true rfl), (Nat.le_of_ble_eq_true rfl)⟩ (Nat.le_of_ble_eq_true rfl) dX4_readOf__17 (fun _ => rfl) rfl (fun r6 M5 => ?_)
  refine j_if (fun hq7 => ?_) (fun hq7 => ?_)
  · rw [hq7]
    refine j_tableIn (pc := 20) (off := 28) hX 48 dX4_readOf__20 (by decide) (by decide) (by decide) (by decide) ?_
    refine j_iload_n (pc := 48) hX 0 dX4_readOf__48 rfl rfl ?_
    refine j_iload_n (pc := 49) hX 0 dX4_readOf__49 rfl rfl ?_
    refine j_iconst (pc := 50) (v := (2 : Int32)) hX dX4_readOf__50 ci_2 ?_
    refine j_iremC (pc := 51) hX dX4_readOf__51 (by decide) ?_
    refine j_isub (pc := 52) hX dX4_readOf__52 ?_
    exact j_iret (pc := 53) hX rfl dX4_readOf__53
  refine j_if (fun hq8 => ?_) (fun hq8 => ?_)
  · rw [hq8]
    refine j_tableIn (pc := 20) (off := 34) hX 54 dX4_readOf__20 (by decide) (by decide) (by decide) (by decide) ?_
    refine j_iload_n (pc := 54) hX 0 dX4_readOf__54 rfl rfl ?_
    refine j_iconst (pc := 55) (v := (4 : Int32)) hX dX4_readOf__55 ci_4 ?_
    refine j_max (pc := 56) hX tw_556 tw_557 tw_71 tw_558 (Nat.le_of_ble_eq_true rfl) (Nat.le_of_ble_eq_true rfl) dX4_readOf__56 ?_
    exact j_iret (pc := 59) hX rfl dX4_readOf__59
  refine j_if (fun hq9 => ?_) (fun hq9 => ?_)
  · rw [hq9]
    refine j_tableIn (pc := 20) (off := 40) hX 60 dX4_readOf__20 (by decide) (by decide) (by decide) (by decide) ?_
    refine j_iload_n (pc := 60) hX 0 dX4_readOf__60 rfl rfl ?_
    refine j_iconst (pc := 61) (v := (2 : Int32)) hX dX4_readOf__61 ci_2 ?_
    refine j_idivC (pc := 62) hX dX4_readOf__62 (by decide) ?_
    exact j_iret (pc := 63) hX rfl dX4_readOf__63
  refine j_tableOut (pc := 20) hX 64 dX4_readOf__20 (sw_out (fun c h1 h2 => ?_)) (by decide) ?_
  · rcases (show c = 1 ∨ c = 2 ∨ c = 3 by omega) with rfl | rfl | rfl
    · exact hq7
    · exact hq8
    · exact hq9
  · refine j_iload_n (pc := 64) hX 0 dX4_readOf__64 rfl rfl ?_
    exact j_iret (pc := 65) hX rfl dX4_readOf__65
theorem mX4_readOf_ (l : Launch) (E : jE) (hI : jInj (gX E)) (fu : Nat) (k0 : Nat) (hk0 : tX k0 = 4) (x1 : Int32) (x2 : Int32) (M : Mem) : jMet l (gX E) yX4_readOf_ cX4_readOf_ 4 (some .int) rX4_readOf_ [.ref (gad (gX E) k0), .int x1, .int x2] M (pX4_readOf_ fu k0 x1 x2 M) :=
  j_entry hI (by decide +kernel) (Nat.le_of_ble_eq_true rfl) rfl (fun X _ hX => wX4_readOf_ hX fu k0 hk0 x1 x2 M)
theorem qX4_readOf : jYv yX4_readOf cX4_readOf 2 (some .int) 1 := ⟨tw_634, tw_635, tw_61, tw_636, ⟨by decide +kernel, by decide +kernel, by decide +kernel⟩⟩
abbrev rX4_readOf : Room := { frames := 4, cells := 0, slots := 0, locals := 89 }
def uX4_readOf : jM := (cX4_readOf, 2, RX4, (some .int), rX4_readOf)
def pX4_readOf (fu : Nat) (k0 : Nat) (x1 : Int32) (M : Mem) : Res :=
  bI (pX4_get fu k0 x1 (6 : Int32) M) fun r2 M1 =>
  bI (pX4_readOf_ fu k0 x1 r2 M1) fun r4 M3 =>
  some (r4, M3)
set_option maxRecDepth 100000 in
theorem wX4_readOf {E : jE} {X : jC} (hX : jOk X uX4_readOf (gX E)) (fu : Nat) (k0 : Nat) (hk0 : tX k0 = 4) (x1 : Int32) (M : Mem) : J X uX4_readOf (gX E) 0 [(0, .ref (gad (gX E) k0)), (1, .int x1)] [] M (pX4_readOf fu k0 x1 M) := by
  unfold pX4_readOf
  refine j_aload_n (pc := 0) hX 0 dX4_readOf_0 rfl rfl ?_
  refine j_iload_n (pc := 1) hX 1 dX4_readOf_1 rfl rfl ?_
  refine j_aload_n (pc := 2) hX 0 dX4_readOf_2 rfl rfl ?_
  refine j_iload_n (pc := 3) hX 1 dX4_readOf_3 rfl rfl ?_
  refine j_bipush (pc := 4) (v := (6 : Int32)) hX dX4_readOf_4 cb_6 ?_
  refine j_callV (pc := 6) hX [.int x1, .int (6 : Int32)] (mX4_get _ E hX.2.2.2.2.2.2.2.2.1 fu k0 hk0 x1 (6 : Int32) M) qX4_get tw_496 (hh hk0).1 hk0 (ci := 4) (T := TX4) (N := 2) rfl (jb rfl) rfl ⟨rfl, rfl⟩ ⟨(Nat.le_of_ble_eq_true rfl), (Nat.le_of_ble_eq_true rfl)⟩ (Nat.le_of_ble_eq_true rfl) dX4_readOf_6 (fun _ => rfl) rfl (fun r2 M1 => ?_)
  refine j_callV (pc := 9) hX [.int x1, .int r2] (mX4_readOf_ _ E hX.2.2.2.2.2.2.2.2.1 fu k0 hk0 x1 r2 M1) qX4_readOf_ tw_637 (hh hk0).1 hk0 (ci := 4) (T := TX4) (N := 2) rfl (jb rfl) rfl ⟨rfl, rfl⟩ ⟨(Nat.le_of_ble_eq_true rfl), (Nat.le_of_ble_eq_true rfl)⟩ (Nat.le_of_ble_eq_true rfl) dX4_readOf_9 (fun _ => rfl) rfl (fun r4 M3 => ?_)
  exact j_iret (pc := 12) hX rfl dX4_readOf_12
theorem mX4_readOf (l : Launch) (E : jE) (hI : jInj (gX E)) (fu : Nat) (k0 : Nat) (hk0 : tX k0 = 4) (x1 : Int32) (M : Mem) : jMet l (gX E) yX4_readOf cX4_readOf 2 (some .int) rX4_readOf [.ref (gad (gX E) k0), .int x1] M (pX4_readOf fu k0 x1 M) :=
  j_entry hI (by decide +kernel) (Nat.le_of_ble_eq_true rfl) rfl (fun X _ hX => wX4_readOf hX fu k0 hk0 x1 M)
theorem qX4_isIn : jYv yX4_isIn cX4_isIn 3 (some .boolean) 2 := ⟨tw_493, tw_494, tw_61, tw_495, ⟨by decide +kernel, by decide +kernel, by decide +kernel⟩⟩
abbrev rX4_isIn : Room := { frames := 1, cells := 0, slots := 0, locals := 23 }
def uX4_isIn : jM := (cX4_isIn, 3, RX4, (some .boolean), rX4_isIn)
def pX4_isIn (fu : Nat) (k0 : Nat) (x1 : Int32) (x2 : Int32) (M : Mem) : Res :=
  bI (pX4_get fu k0 x1 (2 : Int32) M) fun r2 M1 =>
  if r2 = x2 then (
    bI (pX4_get fu k0 x1 (3 : Int32) M1) fun r4 M3 =>
    if r4 = (-4 : Int32) then (
      rtz (1 : Int32) M3)
    else
    rtz (0 : Int32) M3)
  else
  rtz (0 : Int32) M1
set_option maxRecDepth 100000 in
theorem wX4_isIn {E : jE} {X : jC} (hX : jOk X uX4_isIn (gX E)) (fu : Nat) (k0 : Nat) (hk0 : tX k0 = 4) (x1 : Int32) (x2 : Int32) (M : Mem) : J X uX4_isIn (gX E) 0 [(0, .ref (gad (gX E) k0)), (1, .int x1), (2, .int x2)] [] M (pX4_isIn fu k0 x1 x2 M) := by
  unfold pX4_isIn
  refine j_aload_n (pc := 0) hX 0 dX4_isIn_0 rfl rfl ?_
  refine j_iload_n (pc := 1) hX 1 dX4_isIn_1 rfl rfl ?_
  refine j_iconst (pc := 2) (v := (2 : Int32)) hX dX4_isIn_2 ci_2 ?_
  refine j_callV (pc := 3) hX [.int x1, .int (2 : Int32)] (mX4_get _ E hX.2.2.2.2.2.2.2.2.1 fu k0 hk0 x1 (2 : Int32) M) qX4_get tw_496 (hh hk0).1 hk0 (ci := 4) (T := TX4) (N := 2) rfl (jb rfl) rfl ⟨rfl, rfl⟩ ⟨(Nat.le_of_ble_eq_true rfl), (Nat.le_of_ble_eq_true rfl)⟩ (Nat.le_of_ble_eq_true rfl) dX4_isIn_3 (fun _ => rfl) rfl (fun r2 M1 => ?_)
  refine j_iload_n (pc := 6) hX 2 dX4_isIn_6 rfl rfl ?_
  refine j_icmp_ne (pc := 7) hX 25 dX4_isIn_7 (by decide) ?_ ?_
  · refine j_iconst (pc := 25) (v := (0 : Int32)) hX dX4_isIn_25 ci_0 ?_
    exact j_zret (pc := 26) hX rfl dX4_isIn_26
  · refine j_aload_n (pc := 10) hX 0 dX4_isIn_10 rfl rfl ?_
    refine j_iload_n (pc := 11) hX 1 dX4_isIn_11 rfl rfl ?_
    refine j_iconst (pc := 12) (v := (3 : Int32)) hX dX4_isIn_12 ci_3 ?_
    refine j_callV (pc := 13) hX [.int x1, .int (3 : Int32)] (mX4_get _ E hX.2.2.2.2.2.2.2.2.1 fu k0 hk0 x1 (3 : Int32) M1) qX4_get tw_496 (hh hk0).1 hk0 (ci := 4) (T := TX4) (N := 2) rfl (jb rfl) rfl ⟨rfl, rfl⟩ ⟨(Nat.le_of_ble_eq_true rfl), (Nat.le_of_ble_eq_true rfl)⟩ (Nat.le_of_ble_eq_true rfl) dX4_isIn_13 (fun _ => rfl) rfl (fun r4 M3 => ?_)
    refine j_bipush (pc := 16) (v := (-4 : Int32)) hX dX4_isIn_16 cb_m4 ?_
    refine j_icmp_ne (pc := 18) hX 25 dX4_isIn_18 (by decide) ?_ ?_
    · refine j_iconst (pc := 25) (v := (0 : Int32)) hX dX4_isIn_25 ci_0 ?_
      exact j_zret (pc := 26) hX rfl dX4_isIn_26
    · refine j_iconst (pc := 21) (v := (1 : Int32)) hX dX4_isIn_21 ci_1 ?_
      refine j_goto (pc := 22) hX 26 dX4_isIn_22 (by decide) ?_
      exact j_zret (pc := 26) hX rfl dX4_isIn_26
theorem mX4_isIn (l : Launch) (E : jE) (hI : jInj (gX E)) (fu : Nat) (k0 : Nat) (hk0 : tX k0 = 4) (x1 : Int32) (x2 : Int32) (M : Mem) : jMet l (gX E) yX4_isIn cX4_isIn 3 (some .boolean) rX4_isIn [.ref (gad (gX E) k0), .int x1, .int x2] M (pX4_isIn fu k0 x1 x2 M) :=
  j_entry hI (by decide +kernel) (Nat.le_of_ble_eq_true rfl) rfl (fun X _ hX => wX4_isIn hX fu k0 hk0 x1 x2 M)
theorem qX4_callHome : jYv yX4_callHome cX4_callHome 2 none 1 := ⟨tw_644, tw_645, tw_61, tw_646, ⟨by decide +kernel, by decide +kernel, by decide +kernel⟩⟩
abbrev rX4_callHome : Room := { frames := 1, cells := 0, slots := 0, locals := 24 }
def uX4_callHome : jM := (cX4_callHome, 2, RX4, none, rX4_callHome)
def pX4_callHome (fu : Nat) (k0 : Nat) (x1 : Int32) (M : Mem) : Res :=
  bV (pX4_set fu k0 x1 (1 : Int32) (3 : Int32) M) fun M1 =>
  bV (pX4_set fu k0 x1 (10 : Int32) (0 : Int32) M1) fun M2 =>
  bV (pX4_set fu k0 x1 (5 : Int32) (-4 : Int32) M2) fun M3 =>
  some (0, M3)
set_option maxRecDepth 100000 in
theorem wX4_callHome {E : jE} {X : jC} (hX : jOk X uX4_callHome (gX E)) (fu : Nat) (k0 : Nat) (hk0 : tX k0 = 4) (x1 : Int32) (M : Mem) : J X uX4_callHome (gX E) 0 [(0, .ref (gad (gX E) k0)), (1, .int x1)] [] M (pX4_callHome fu k0 x1 M) := by
  unfold pX4_callHome
  refine j_aload_n (pc := 0) hX 0 dX4_callHome_0 rfl rfl ?_
  refine j_iload_n (pc := 1) hX 1 dX4_callHome_1 rfl rfl ?_
  refine j_iconst (pc := 2) (v := (1 : Int32)) hX dX4_callHome_2 ci_1 ?_
  refine j_iconst (pc := 3) (v := (3 : Int32)) hX dX4_callHome_3 ci_3 ?_
  refine j_callVv (pc := 4) hX [.int x1, .int (1 : Int32), .int (3 : Int32)] (mX4_set _ E hX.2.2.2.2.2.2.2.2.1 fu k0 hk0 x1 (1 : Int32) (3 : Int32) M) qX4_set tw_395 (hh hk0).1 hk0 (ci := 4) (T := TX4) (N := 2) rfl (jb rfl) rfl ⟨rfl, rfl⟩ ⟨(Nat.le_of_ble_eq_true rfl), (Nat.le_of_ble_eq_true rfl)⟩ (Nat.le_of_ble_eq_true rfl) dX4_callHome_4 rfl (fun M1 => ?_)
  refine j_aload_n (pc := 7) hX 0 dX4_callHome_7 rfl rfl ?_
  refine j_iload_n (pc := 8) hX 1 dX4_callHome_8 rfl rfl ?_
  refine j_bipush (pc := 9) (v := (10 : Int32)) hX dX4_callHome_9 cb_10 ?_
  refine j_iconst (pc := 11) (v := (0 : Int32)) hX dX4_callHome_11 ci_0 ?_
  refine j_callVv (pc := 12) hX [.int x1, .int (10 : Int32), .int (0 : Int32)] (mX4_set _ E hX.2.2.2.2.2.2.2.2.1 fu k0 hk0 x1 (10 : Int32) (0 : Int32) M1) qX4_set tw_395 (hh hk0).1 hk0 (ci := 4) (T := TX4) (N := 2) rfl (jb rfl) rfl ⟨rfl, rfl⟩ ⟨(Nat.le_of_ble_eq_true rfl), (Nat.le_of_ble_eq_true rfl)⟩ (Nat.le_of_ble_eq_true rfl) dX4_callHome_12 rfl (fun M2 => ?_)
  refine j_aload_n (pc := 15) hX 0 dX4_callHome_15 rfl rfl ?_
  refine j_iload_n (pc := 16) hX 1 dX4_callHome_16 rfl rfl ?_
  refine j_iconst (pc := 17) (v := (5 : Int32)) hX dX4_callHome_17 ci_5 ?_
  refine j_bipush (pc := 18) (v := (-4 : Int32)) hX dX4_callHome_18 cb_m4 ?_
  refine j_callVv (pc := 20) hX [.int x1, .int (5 : Int32), .int (-4 : Int32)] (mX4_set _ E hX.2.2.2.2.2.2.2.2.1 fu k0 hk0 x1 (5 : Int32) (-4 : Int32) M2) qX4_set tw_395 (hh hk0).1 hk0 (ci := 4) (T := TX4) (N := 2) rfl (jb rfl) rfl ⟨rfl, rfl⟩ ⟨(Nat.le_of_ble_eq_true rfl), (Nat.le_of_ble_eq_true rfl)⟩ (Nat.le_of_ble_eq_true rfl) dX4_callHome_20 rfl (fun M3 => ?_)
  exact j_vret (pc := 23) hX rfl dX4_callHome_23
theorem mX4_callHome (l : Launch) (E : jE) (hI : jInj (gX E)) (fu : Nat) (k0 : Nat) (hk0 : tX k0 = 4) (x1 : Int32) (M : Mem) : jMet l (gX E) yX4_callHome cX4_callHome 2 none rX4_callHome [.ref (gad (gX E) k0), .int x1] M (pX4_callHome fu k0 x1 M) :=
  j_entry hI (by decide +kernel) (Nat.le_of_ble_eq_true rfl) rfl (fun X _ hX => wX4_callHome hX fu k0 hk0 x1 M)
theorem qX4_gather : jYv yX4_gather cX4_gather 2 none 0 := ⟨tw_383, tw_384, tw_61, tw_385, ⟨by decide +kernel, by decide +kernel, by decide +kernel⟩⟩
abbrev rX4_gather : Room := { frames := 2, cells := 0, slots := 0, locals := 44 }
def uX4_gather : jM := (cX4_gather, 2, RX4, none, rX4_gather)
def pX4_gather_9b (fu : Nat) (k0 : Nat) (x1 : Int32) (M : Mem) (c9 : Int32 → Mem → Res) (c70 : Mem → Res) : Res :=
  bI (pX1_beasts fu 5 M) fun r3 M2 =>
  if r3 ≤ x1 then (
    c70 M2)
  else
  bI (pX1_firstMood fu 5 x1 M2) fun r5 M4 =>
  bV (pX4_set fu k0 x1 (0 : Int32) r5 M4) fun M6 =>
  bV (pX4_set fu k0 x1 (1 : Int32) (0 : Int32) M6) fun M7 =>
  bV (pX4_set fu k0 x1 (2 : Int32) (0 : Int32) M7) fun M8 =>
  bV (pX4_set fu k0 x1 (3 : Int32) (-4 : Int32) M8) fun M9 =>
  bV (pX4_set fu k0 x1 (5 : Int32) (-4 : Int32) M9) fun M10 =>
  c9 (x1 + (1 : Int32)) M10
set_option maxRecDepth 100000 in
theorem wX4_gather_9b {E : jE} {X : jC} (hX : jOk X uX4_gather (gX E)) (fu : Nat) (k0 : Nat) (hk0 : tX k0 = 4) (x1 : Int32) (M : Mem) (c9 : Int32 → Mem → Res) (c70 : Mem → Res) (hc9 : ∀ (x1 : Int32) (M : Mem), J X uX4_gather (gX E) 9 [(0, .ref (gad (gX E) k0)), (1, .int x1)] [] M (c9 x1 M)) (hc70 : ∀  (M : Mem), J X uX4_gather (gX E) 70 [(0, .ref (gad (gX E) k0))] [] M (c70  M)) : J X uX4_gather (gX E) 9 [(0, .ref (gad (gX E) k0)), (1, .int x1)] [] M (pX4_gather_9b fu k0 x1 M c9 c70) := by
  unfold pX4_gather_9b
  refine j_iload_n (pc := 9) hX 1 dX4_gather_9 rfl rfl ?_
  refine j_aload_n (pc := 10) hX 0 dX4_gather_10 rfl rfl ?_
  refine j_getR (pc := 11) (t := 5) hX (hh hk0).1 hk0 (ci := 4) (C := RX4) (T := TX4) (N := 2) rfl (jb rfl) inX4 (j := 0) (jb rfl) (rf_h0 hk0) tw_166 dX4_gather_11 ?_
  refine j_callV (pc := 14) hX [] (mX1_beasts _ E hX.2.2.2.2.2.2.2.2.1 fu 5 rfl  M) qX1_beasts tw_387 (jb rfl) rfl (ci := 1) (T := TX1) (N := 13) rfl (jb rfl) rfl ⟨rfl, rfl⟩ ⟨(Nat.le_of_ble_eq_true rfl), (Nat.le_of_ble_eq_true rfl)⟩ (Nat.le_of_ble_eq_true rfl) dX4_gather_14 (fun _ => rfl) rfl (fun r3 M2 => ?_)
  refine j_icmp_ge (pc := 17) hX 70 dX4_gather_17 (by decide) ?_ ?_
  · exact j_sub [0] rfl (hc70  M2)
  · refine j_aload_n (pc := 20) hX 0 dX4_gather_20 rfl rfl ?_
    refine j_iload_n (pc := 21) hX 1 dX4_gather_21 rfl rfl ?_
    refine j_iconst (pc := 22) (v := (0 : Int32)) hX dX4_gather_22 ci_0 ?_
    refine j_aload_n (pc := 23) hX 0 dX4_gather_23 rfl rfl ?_
    refine j_getR (pc := 24) (t := 5) hX (hh hk0).1 hk0 (ci := 4) (C := RX4) (T := TX4) (N := 2) rfl (jb rfl) inX4 (j := 0) (jb rfl) (rf_h0 hk0) tw_166 dX4_gather_24 ?_
    refine j_iload_n (pc := 27) hX 1 dX4_gather_27 rfl rfl ?_
    refine j_callV (pc := 28) hX [.int x1] (mX1_firstMood _ E hX.2.2.2.2.2.2.2.2.1 fu 5 rfl x1 M2) qX1_firstMood tw_391 (jb rfl) rfl (ci := 1) (T := TX1) (N := 13) rfl (jb rfl) rfl ⟨rfl, rfl⟩ ⟨(Nat.le_of_ble_eq_true rfl), (Nat.le_of_ble_eq_true rfl)⟩ (Nat.le_of_ble_eq_true rfl) dX4_gather_28 (fun _ => rfl) rfl (fun r5 M4 => ?_)
    refine j_callVv (pc := 31) hX [.int x1, .int (0 : Int32), .int r5] (mX4_set _ E hX.2.2.2.2.2.2.2.2.1 fu k0 hk0 x1 (0 : Int32) r5 M4) qX4_set tw_395 (hh hk0).1 hk0 (ci := 4) (T := TX4) (N := 2) rfl (jb rfl) rfl ⟨rfl, rfl⟩ ⟨(Nat.le_of_ble_eq_true rfl), (Nat.le_of_ble_eq_true rfl)⟩ (Nat.le_of_ble_eq_true rfl) dX4_gather_31 rfl (fun M6 => ?_)
    refine j_aload_n (pc := 34) hX 0 dX4_gather_34 rfl rfl ?_
    refine j_iload_n (pc := 35) hX 1 dX4_gather_35 rfl rfl ?_
    refine j_iconst (pc := 36) (v := (1 : Int32)) hX dX4_gather_36 ci_1 ?_
    refine j_iconst (pc := 37) (v := (0 : Int32)) hX dX4_gather_37 ci_0 ?_
    refine j_callVv (pc := 38) hX [.int x1, .int (1 : Int32), .int (0 : Int32)] (mX4_set _ E hX.2.2.2.2.2.2.2.2.1 fu k0 hk0 x1 (1 : Int32) (0 : Int32) M6) qX4_set tw_395 (hh hk0).1 hk0 (ci := 4) (T := TX4) (N := 2) rfl (jb rfl) rfl ⟨rfl, rfl⟩ ⟨(Nat.le_of_ble_eq_true rfl), (Nat.le_of_ble_eq_true rfl)⟩ (Nat.le_of_ble_eq_true rfl) dX4_gather_38 rfl (fun M7 => ?_)
    refine j_aload_n (pc := 41) hX 0 dX4_gather_41 rfl rfl ?_
    refine j_iload_n (pc := 42) hX 1 dX4_gather_42 rfl rfl ?_
    refine j_iconst (pc := 43) (v := (2 : Int32)) hX dX4_gather_43 ci_2 ?_
    refine j_iconst (pc := 44) (v := (0 : Int32)) hX dX4_gather_44 ci_0 ?_
    refine j_callVv (pc := 45) hX [.int x1, .int (2 : Int32), .int (0 : Int32)] (mX4_set _ E hX.2.2.2.2.2.2.2.2.1 fu k0 hk0 x1 (2 : Int32) (0 : Int32) M7) qX4_set tw_395 (hh hk0).1 hk0 (ci := 4) (T := TX4) (N := 2) rfl (jb rfl) rfl ⟨rfl, rfl⟩ ⟨(Nat.le_of_ble_eq_true rfl), (Nat.le_of_ble_eq_true rfl)⟩ (Nat.le_of_ble_eq_true rfl) dX4_gather_45 rfl (fun M8 => ?_)
    refine j_aload_n (pc := 48) hX 0 dX4_gather_48 rfl rfl ?_
    refine j_iload_n (pc := 49) hX 1 dX4_gather_49 rfl rfl ?_
    refine j_iconst (pc := 50) (v := (3 : Int32)) hX dX4_gather_50 ci_3 ?_
    refine j_bipush (pc := 51) (v := (-4 : Int32)) hX dX4_gather_51 cb_m4 ?_
    refine j_callVv (pc := 53) hX [.int x1, .int (3 : Int32), .int (-4 : Int32)] (mX4_set _ E hX.2.2.2.2.2.2.2.2.1 fu k0 hk0 x1 (3 : Int32) (-4 : Int32) M8) qX4_set tw_395 (hh hk0).1 hk0 (ci := 4) (T := TX4) (N := 2) rfl (jb rfl) rfl ⟨rfl, rfl⟩ ⟨(Nat.le_of_ble_eq_true rfl), (Nat.le_of_ble_eq_true rfl)⟩ (Nat.le_of_ble_eq_true rfl) dX4_gather_53 rfl (fun M9 => ?_)
    refine j_aload_n (pc := 56) hX 0 dX4_gather_56 rfl rfl ?_
    refine j_iload_n (pc := 57) hX 1 dX4_gather_57 rfl rfl ?_
    refine j_iconst (pc := 58) (v := (5 : Int32)) hX dX4_gather_58 ci_5 ?_
    refine j_bipush (pc := 59) (v := (-4 : Int32)) hX dX4_gather_59 cb_m4 ?_
    refine j_callVv (pc := 61) hX [.int x1, .int (5 : Int32), .int (-4 : Int32)] (mX4_set _ E hX.2.2.2.2.2.2.2.2.1 fu k0 hk0 x1 (5 : Int32) (-4 : Int32) M9) qX4_set tw_395 (hh hk0).1 hk0 (ci := 4) (T := TX4) (N := 2) rfl (jb rfl) rfl ⟨rfl, rfl⟩ ⟨(Nat.le_of_ble_eq_true rfl), (Nat.le_of_ble_eq_true rfl)⟩ (Nat.le_of_ble_eq_true rfl) dX4_gather_61 rfl (fun M10 => ?_)
    refine j_iinc (pc := 64) (v := (x1 + (1 : Int32))) (lv' := [(1, .int (x1 + (1 : Int32))), (0, .ref (gad (gX E) k0))]) hX 1 dX4_gather_64 rfl (by rw [ci_1]) (jb rfl) rfl ?_
    refine j_goto (pc := 67) hX 9 dX4_gather_67 (by decide) ?_
    exact j_sub [1, 0] rfl (hc9 (x1 + (1 : Int32)) M10)
def pX4_gather_9 (fu : Nat) (k0 : Nat) (c70 : Mem → Res) : Nat → Int32 → Mem → Res
  | 0, _, _ => none
  | n + 1, x1, M => pX4_gather_9b fu k0 x1 M (pX4_gather_9 fu k0 c70 n) c70
theorem wX4_gather_9 {E : jE} {X : jC} (hX : jOk X uX4_gather (gX E)) (fu : Nat) (k0 : Nat) (hk0 : tX k0 = 4) (c70 : Mem → Res) (hc70 : ∀  (M : Mem), J X uX4_gather (gX E) 70 [(0, .ref (gad (gX E) k0))] [] M (c70  M)) : ∀ (n : Nat) (x1 : Int32) (M : Mem), J X uX4_gather (gX E) 9 [(0, .ref (gad (gX E) k0)), (1, .int x1)] [] M (pX4_gather_9 fu k0 c70 n x1 M) := by
  intro n
  induction n with
  | zero => intro x1 M; exact j_none
  | succ n ih => intro x1 M; exact wX4_gather_9b hX fu k0 hk0 x1 M (pX4_gather_9 fu k0 c70 n) c70 ih hc70
def pX4_gather_72b (fu : Nat) (k0 : Nat) (x1 : Int32) (M : Mem) (c72 : Int32 → Mem → Res) : Res :=
  bI (pX1_places fu 5 M) fun r13 M12 =>
  if r13 ≤ x1 then (
    some (0, M12))
  else
  bI (pX1_firstCarrots fu 5 x1 M12) fun r15 M14 =>
  bV (pX4_putCarrots fu k0 x1 r15 M14) fun M16 =>
  c72 (x1 + (1 : Int32)) M16
set_option maxRecDepth 100000 in
theorem wX4_gather_72b {E : jE} {X : jC} (hX : jOk X uX4_gather (gX E)) (fu : Nat) (k0 : Nat) (hk0 : tX k0 = 4) (x1 : Int32) (M : Mem) (c72 : Int32 → Mem → Res) (hc72 : ∀ (x1 : Int32) (M : Mem), J X uX4_gather (gX E) 72 [(0, .ref (gad (gX E) k0)), (1, .int x1)] [] M (c72 x1 M)) : J X uX4_gather (gX E) 72 [(0, .ref (gad (gX E) k0)), (1, .int x1)] [] M (pX4_gather_72b fu k0 x1 M c72) := by
  unfold pX4_gather_72b
  refine j_iload_n (pc := 72) hX 1 dX4_gather_72 rfl rfl ?_
  refine j_aload_n (pc := 73) hX 0 dX4_gather_73 rfl rfl ?_
  refine j_getR (pc := 74) (t := 5) hX (hh hk0).1 hk0 (ci := 4) (C := RX4) (T := TX4) (N := 2) rfl (jb rfl) inX4 (j := 0) (jb rfl) (rf_h0 hk0) tw_166 dX4_gather_74 ?_
  refine j_callV (pc := 77) hX [] (mX1_places _ E hX.2.2.2.2.2.2.2.2.1 fu 5 rfl  M) qX1_places tw_399 (jb rfl) rfl (ci := 1) (T := TX1) (N := 13) rfl (jb rfl) rfl ⟨rfl, rfl⟩ ⟨(Nat.le_of_ble_eq_true rfl), (Nat.le_of_ble_eq_true rfl)⟩ (Nat.le_of_ble_eq_true rfl) dX4_gather_77 (fun _ => rfl) rfl (fun r13 M12 => ?_)
  refine j_icmp_ge (pc := 80) hX 102 dX4_gather_80 (by decide) ?_ ?_
  · exact j_vret (pc := 102) hX rfl dX4_gather_102
  · refine j_aload_n (pc := 83) hX 0 dX4_gather_83 rfl rfl ?_
    refine j_iload_n (pc := 84) hX 1 dX4_gather_84 rfl rfl ?_
    refine j_aload_n (pc := 85) hX 0 dX4_gather_85 rfl rfl ?_
    refine j_getR (pc := 86) (t := 5) hX (hh hk0).1 hk0 (ci := 4) (C := RX4) (T := TX4) (N := 2) rfl (jb rfl) inX4 (j := 0) (jb rfl) (rf_h0 hk0) tw_166 dX4_gather_86 ?_
    refine j_iload_n (pc := 89) hX 1 dX4_gather_89 rfl rfl ?_
    refine j_callV (pc := 90) hX [.int x1] (mX1_firstCarrots _ E hX.2.2.2.2.2.2.2.2.1 fu 5 rfl x1 M12) qX1_firstCarrots tw_403 (jb rfl) rfl (ci := 1) (T := TX1) (N := 13) rfl (jb rfl) rfl ⟨rfl, rfl⟩ ⟨(Nat.le_of_ble_eq_true rfl), (Nat.le_of_ble_eq_true rfl)⟩ (Nat.le_of_ble_eq_true rfl) dX4_gather_90 (fun _ => rfl) rfl (fun r15 M14 => ?_)
    refine j_callVv (pc := 93) hX [.int x1, .int r15] (mX4_putCarrots _ E hX.2.2.2.2.2.2.2.2.1 fu k0 hk0 x1 r15 M14) qX4_putCarrots tw_407 (hh hk0).1 hk0 (ci := 4) (T := TX4) (N := 2) rfl (jb rfl) rfl ⟨rfl, rfl⟩ ⟨(Nat.le_of_ble_eq_true rfl), (Nat.le_of_ble_eq_true rfl)⟩ (Nat.le_of_ble_eq_true rfl) dX4_gather_93 rfl (fun M16 => ?_)
    refine j_iinc (pc := 96) (v := (x1 + (1 : Int32))) (lv' := [(1, .int (x1 + (1 : Int32))), (0, .ref (gad (gX E) k0))]) hX 1 dX4_gather_96 rfl (by rw [ci_1]) (jb rfl) rfl ?_
    refine j_goto (pc := 99) hX 72 dX4_gather_99 (by decide) ?_
    exact j_sub [1, 0] rfl (hc72 (x1 + (1 : Int32)) M16)
def pX4_gather_72 (fu : Nat) (k0 : Nat)  : Nat → Int32 → Mem → Res
  | 0, _, _ => none
  | n + 1, x1, M => pX4_gather_72b fu k0 x1 M (pX4_gather_72 fu k0  n)
theorem wX4_gather_72 {E : jE} {X : jC} (hX : jOk X uX4_gather (gX E)) (fu : Nat) (k0 : Nat) (hk0 : tX k0 = 4)   : ∀ (n : Nat) (x1 : Int32) (M : Mem), J X uX4_gather (gX E) 72 [(0, .ref (gad (gX E) k0)), (1, .int x1)] [] M (pX4_gather_72 fu k0  n x1 M) := by
  intro n
  induction n with
  | zero => intro x1 M; exact j_none
  | succ n ih => intro x1 M; exact wX4_gather_72b hX fu k0 hk0 x1 M (pX4_gather_72 fu k0  n) ih
def pX4_gather (fu : Nat) (k0 : Nat)  (M : Mem) : Res :=
  bV (pX6_clear fu (k0 + 1) 64 M) fun M1 =>
  pX4_gather_9 fu k0
    (fun  M11 =>
      pX4_gather_72 fu k0
        fu (0 : Int32) M11)
    fu (0 : Int32) M1
set_option maxRecDepth 100000 in
theorem wX4_gather {E : jE} {X : jC} (hX : jOk X uX4_gather (gX E)) (fu : Nat) (k0 : Nat) (hk0 : tX k0 = 4)  (M : Mem) : J X uX4_gather (gX E) 0 [(0, .ref (gad (gX E) k0))] [] M (pX4_gather fu k0  M) := by
  unfold pX4_gather
  refine j_aload_n (pc := 0) hX 0 dX4_gather_0 rfl rfl ?_
  refine j_getR (pc := 1) (t := (k0 + 1)) hX (hh hk0).1 hk0 (ci := 4) (C := RX4) (T := TX4) (N := 2) rfl (jb rfl) inX4 (j := 1) (jb rfl) (rf_h1 hk0) tw_167 dX4_gather_1 ?_
  refine j_callSv (pc := 4) hX [.ref (gad (gX E) (k0 + 1))] (mX6_clear _ E hX.2.2.2.2.2.2.2.2.1 fu (k0 + 1) 64 (hh hk0).2.1 (hh hk0).2.2.1  M) qX6_clear tw_386 rfl ⟨rfl, rfl⟩ ⟨(Nat.le_of_ble_eq_true rfl), (Nat.le_of_ble_eq_true rfl)⟩ (Nat.le_of_ble_eq_true rfl) dX4_gather_4 rfl (fun M1 => ?_)
  refine j_iconst (pc := 7) (v := (0 : Int32)) hX dX4_gather_7 ci_0 ?_
  refine j_istore_n (pc := 8) (lv' := [(1, .int (0 : Int32)), (0, .ref (gad (gX E) k0))]) hX dX4_gather_8 rfl (jb rfl) rfl ?_
  refine j_sub [1, 0] rfl (wX4_gather_9 hX fu k0 hk0 _ ?_ fu (0 : Int32) M1)
  · intro  M11
    refine j_iconst (pc := 70) (v := (0 : Int32)) hX dX4_gather_70 ci_0 ?_
    refine j_istore_n (pc := 71) (lv' := [(1, .int (0 : Int32)), (0, .ref (gad (gX E) k0))]) hX dX4_gather_71 rfl (jb rfl) rfl ?_
    refine j_sub [1, 0] rfl (wX4_gather_72 hX fu k0 hk0   fu (0 : Int32) M11)
theorem mX4_gather (l : Launch) (E : jE) (hI : jInj (gX E)) (fu : Nat) (k0 : Nat) (hk0 : tX k0 = 4)  (M : Mem) : jMet l (gX E) yX4_gather cX4_gather 2 none rX4_gather [.ref (gad (gX E) k0)] M (pX4_gather fu k0  M) :=
  j_entry hI (by decide +kernel) (Nat.le_of_ble_eq_true rfl) rfl (fun X _ hX => wX4_gather hX fu k0 hk0  M)
theorem qX4_verdictsOfSign : jYv yX4_verdictsOfSign cX4_verdictsOfSign 5 (some .int) 2 := ⟨tw_798, tw_799, tw_61, tw_800, ⟨by decide +kernel, by decide +kernel, by decide +kernel⟩⟩
abbrev rX4_verdictsOfSign : Room := { frames := 3, cells := 0, slots := 0, locals := 66 }
def uX4_verdictsOfSign : jM := (cX4_verdictsOfSign, 5, RX4, (some .int), rX4_verdictsOfSign)
def pX4_verdictsOfSign_32 (fu : Nat) (k0 : Nat) (x1 : Int32) (x2 : Int32) (x4 : Int32) (s0 : Int32) (s1 : Int32) (M : Mem) (c5 : Int32 → Int32 → Int32 → Int32 → Mem → Res) : Res :=
  c5 x1 x2 (s1 ||| s0) (x4 + (1 : Int32)) M
set_option maxRecDepth 100000 in
theorem wX4_verdictsOfSign_32 {E : jE} {X : jC} (hX : jOk X uX4_verdictsOfSign (gX E)) (fu : Nat) (k0 : Nat) (hk0 : tX k0 = 4) (x1 : Int32) (x2 : Int32) (x4 : Int32) (s0 : Int32) (s1 : Int32) (M : Mem) (c5 : Int32 → Int32 → Int32 → Int32 → Mem → Res) (hc5 : ∀ (x1 : Int32) (x2 : Int32) (x3 : Int32) (x4 : Int32) (M : Mem), J X uX4_verdictsOfSign (gX E) 5 [(0, .ref (gad (gX E) k0)), (1, .int x1), (2, .int x2), (3, .int x3), (4, .int x4)] [] M (c5 x1 x2 x3 x4 M)) : J X uX4_verdictsOfSign (gX E) 32 [(0, .ref (gad (gX E) k0)), (1, .int x1), (2, .int x2), (4, .int x4)] [.int s0, .int s1] M (pX4_verdictsOfSign_32 fu k0 x1 x2 x4 s0 s1 M c5) := by
  unfold pX4_verdictsOfSign_32
  refine j_ior (pc := 32) hX dX4_verdictsOfSign_32 ?_
  refine j_istore_n (pc := 33) (lv' := [(3, .int (s1 ||| s0)), (0, .ref (gad (gX E) k0)), (1, .int x1), (2, .int x2), (4, .int x4)]) hX dX4_verdictsOfSign_33 rfl (jb rfl) rfl ?_
  refine j_iinc (pc := 34) (v := (x4 + (1 : Int32))) (lv' := [(4, .int (x4 + (1 : Int32))), (3, .int (s1 ||| s0)), (0, .ref (gad (gX E) k0)), (1, .int x1), (2, .int x2)]) hX 4 dX4_verdictsOfSign_34 rfl (by rw [ci_1]) (jb rfl) rfl ?_
  refine j_goto (pc := 37) hX 5 dX4_verdictsOfSign_37 (by decide) ?_
  exact j_sub [2, 3, 4, 1, 0] rfl (hc5 x1 x2 (s1 ||| s0) (x4 + (1 : Int32)) M)
def pX4_verdictsOfSign_5b (fu : Nat) (k0 : Nat) (x1 : Int32) (x2 : Int32) (x3 : Int32) (x4 : Int32) (M : Mem) (c5 : Int32 → Int32 → Int32 → Int32 → Mem → Res) : Res :=
  if (8 : Int32) ≤ x4 then (
    some (x3, M))
  else
  bI (pX4_signOf fu k0 x1 x4 M) fun r2 M1 =>
  if r2 = x2 then (
    pX4_verdictsOfSign_32 fu k0 x1 x2 x4 ((1 : Int32) <<< (x4 &&& 31)) x3 M1 c5)
  else
  pX4_verdictsOfSign_32 fu k0 x1 x2 x4 (0 : Int32) x3 M1 c5
set_option maxRecDepth 100000 in
theorem wX4_verdictsOfSign_5b {E : jE} {X : jC} (hX : jOk X uX4_verdictsOfSign (gX E)) (fu : Nat) (k0 : Nat) (hk0 : tX k0 = 4) (x1 : Int32) (x2 : Int32) (x3 : Int32) (x4 : Int32) (M : Mem) (c5 : Int32 → Int32 → Int32 → Int32 → Mem → Res) (hc5 : ∀ (x1 : Int32) (x2 : Int32) (x3 : Int32) (x4 : Int32) (M : Mem), J X uX4_verdictsOfSign (gX E) 5 [(0, .ref (gad (gX E) k0)), (1, .int x1), (2, .int x2), (3, .int x3), (4, .int x4)] [] M (c5 x1 x2 x3 x4 M)) : J X uX4_verdictsOfSign (gX E) 5 [(0, .ref (gad (gX E) k0)), (1, .int x1), (2, .int x2), (3, .int x3), (4, .int x4)] [] M (pX4_verdictsOfSign_5b fu k0 x1 x2 x3 x4 M c5) := by
  unfold pX4_verdictsOfSign_5b
  refine j_iload (pc := 5) hX 4 dX4_verdictsOfSign_5 rfl ?_
  refine j_bipush (pc := 7) (v := (8 : Int32)) hX dX4_verdictsOfSign_7 cb_8 ?_
  refine j_icmp_ge (pc := 9) hX 40 dX4_verdictsOfSign_9 (by decide) ?_ ?_
  · refine j_iload_n (pc := 40) hX 3 dX4_verdictsOfSign_40 rfl rfl ?_
    exact j_iret (pc := 41) hX rfl dX4_verdictsOfSign_41
  · refine j_iload_n (pc := 12) hX 3 dX4_verdictsOfSign_12 rfl rfl ?_
    refine j_aload_n (pc := 13) hX 0 dX4_verdictsOfSign_13 rfl rfl ?_
    refine j_iload_n (pc := 14) hX 1 dX4_verdictsOfSign_14 rfl rfl ?_
    refine j_iload (pc := 15) hX 4 dX4_verdictsOfSign_15 rfl ?_
    refine j_callV (pc := 17) hX [.int x1, .int x4] (mX4_signOf _ E hX.2.2.2.2.2.2.2.2.1 fu k0 hk0 x1 x4 M) qX4_signOf tw_641 (hh hk0).1 hk0 (ci := 4) (T := TX4) (N := 2) rfl (jb rfl) rfl ⟨rfl, rfl⟩ ⟨(Nat.le_of_ble_eq_true rfl), (Nat.le_of_ble_eq_true rfl)⟩ (Nat.le_of_ble_eq_true rfl) dX4_verdictsOfSign_17 (fun _ => rfl) rfl (fun r2 M1 => ?_)
    refine j_iload_n (pc := 20) hX 2 dX4_verdictsOfSign_20 rfl rfl ?_
    refine j_icmp_ne (pc := 21) hX 31 dX4_verdictsOfSign_21 (by decide) ?_ ?_
    · refine j_iconst (pc := 31) (v := (0 : Int32)) hX dX4_verdictsOfSign_31 ci_0 ?_
      exact j_sub [0, 1, 2, 4] rfl (wX4_verdictsOfSign_32 hX fu k0 hk0 x1 x2 x4 (0 : Int32) x3 M1 c5 hc5)
    · refine j_iconst (pc := 24) (v := (1 : Int32)) hX dX4_verdictsOfSign_24 ci_1 ?_
      refine j_iload (pc := 25) hX 4 dX4_verdictsOfSign_25 rfl ?_
      refine j_ishl (pc := 27) hX dX4_verdictsOfSign_27 ?_
      refine j_goto (pc := 28) hX 32 dX4_verdictsOfSign_28 (by decide) ?_
      exact j_sub [0, 1, 2, 4] rfl (wX4_verdictsOfSign_32 hX fu k0 hk0 x1 x2 x4 ((1 : Int32) <<< (x4 &&& 31)) x3 M1 c5 hc5)
def pX4_verdictsOfSign_5 (fu : Nat) (k0 : Nat)  : Nat → Int32 → Int32 → Int32 → Int32 → Mem → Res
  | 0, _, _, _, _, _ => none
  | n + 1, x1, x2, x3, x4, M => pX4_verdictsOfSign_5b fu k0 x1 x2 x3 x4 M (pX4_verdictsOfSign_5 fu k0  n)
theorem wX4_verdictsOfSign_5 {E : jE} {X : jC} (hX : jOk X uX4_verdictsOfSign (gX E)) (fu : Nat) (k0 : Nat) (hk0 : tX k0 = 4)   : ∀ (n : Nat) (x1 : Int32) (x2 : Int32) (x3 : Int32) (x4 : Int32) (M : Mem), J X uX4_verdictsOfSign (gX E) 5 [(0, .ref (gad (gX E) k0)), (1, .int x1), (2, .int x2), (3, .int x3), (4, .int x4)] [] M (pX4_verdictsOfSign_5 fu k0  n x1 x2 x3 x4 M) := by
  intro n
  induction n with
  | zero => intro x1 x2 x3 x4 M; exact j_none
  | succ n ih => intro x1 x2 x3 x4 M; exact wX4_verdictsOfSign_5b hX fu k0 hk0 x1 x2 x3 x4 M (pX4_verdictsOfSign_5 fu k0  n) ih
def pX4_verdictsOfSign (fu : Nat) (k0 : Nat) (x1 : Int32) (x2 : Int32) (M : Mem) : Res :=
  pX4_verdictsOfSign_5 fu k0
    fu x1 x2 (0 : Int32) (0 : Int32) M
set_option maxRecDepth 100000 in
theorem wX4_verdictsOfSign {E : jE} {X : jC} (hX : jOk X uX4_verdictsOfSign (gX E)) (fu : Nat) (k0 : Nat) (hk0 : tX k0 = 4) (x1 : Int32) (x2 : Int32) (M : Mem) : J X uX4_verdictsOfSign (gX E) 0 [(0, .ref (gad (gX E) k0)), (1, .int x1), (2, .int x2)] [] M (pX4_verdictsOfSign fu k0 x1 x2 M) := by
  unfold pX4_verdictsOfSign
  refine j_iconst (pc := 0) (v := (0 : Int32)) hX dX4_verdictsOfSign_0 ci_0 ?_
  refine j_istore_n (pc := 1) (lv' := [(3, .int (0 : Int32)), (0, .ref (gad (gX E) k0)), (1, .int x1), (2, .int x2)]) hX dX4_verdictsOfSign_1 rfl (jb rfl) rfl ?_
  refine j_iconst (pc := 2) (v := (0 : Int32)) hX dX4_verdictsOfSign_2 ci_0 ?_
  refine j_istore (pc := 3) (lv' := [(4, .int (0 : Int32)), (3, .int (0 : Int32)), (0, .ref (gad (gX E) k0)), (1, .int x1), (2, .int x2)]) hX dX4_verdictsOfSign_3 (jb rfl) rfl ?_
  refine j_sub [2, 3, 4, 1, 0] rfl (wX4_verdictsOfSign_5 hX fu k0 hk0   fu x1 x2 (0 : Int32) (0 : Int32) M)
theorem mX4_verdictsOfSign (l : Launch) (E : jE) (hI : jInj (gX E)) (fu : Nat) (k0 : Nat) (hk0 : tX k0 = 4) (x1 : Int32) (x2 : Int32) (M : Mem) : jMet l (gX E) yX4_verdictsOfSign cX4_verdictsOfSign 5 (some .int) rX4_verdictsOfSign [.ref (gad (gX E) k0), .int x1, .int x2] M (pX4_verdictsOfSign fu k0 x1 x2 M) :=
  j_entry hI (by decide +kernel) (Nat.le_of_ble_eq_true rfl) rfl (fun X _ hX => wX4_verdictsOfSign hX fu k0 hk0 x1 x2 M)
theorem qX4_placeAhead : jYv yX4_placeAhead cX4_placeAhead 6 (some .int) 2 := ⟨tw_780, tw_781, tw_61, tw_782, ⟨by decide +kernel, by decide +kernel, by decide +kernel⟩⟩
abbrev rX4_placeAhead : Room := { frames := 2, cells := 0, slots := 0, locals := 43 }
def uX4_placeAhead : jM := (cX4_placeAhead, 6, RX4, (some .int), rX4_placeAhead)
def pX4_placeAhead_98 (fu : Nat) (k0 : Nat) (x2 : Int32) (x3 : Int32) (x5 : Int32) (s0 : Int32) (M : Mem) (c57 : Int32 → Int32 → Int32 → Int32 → Mem → Res) : Res :=
  c57 x2 x3 s0 (x5 + (1 : Int32)) M
set_option maxRecDepth 100000 in
theorem wX4_placeAhead_98 {E : jE} {X : jC} (hX : jOk X uX4_placeAhead (gX E)) (fu : Nat) (k0 : Nat) (hk0 : tX k0 = 4) (x2 : Int32) (x3 : Int32) (x5 : Int32) (s0 : Int32) (M : Mem) (c57 : Int32 → Int32 → Int32 → Int32 → Mem → Res) (hc57 : ∀ (x2 : Int32) (x3 : Int32) (x4 : Int32) (x5 : Int32) (M : Mem), J X uX4_placeAhead (gX E) 57 [(0, .ref (gad (gX E) k0)), (2, .int x2), (3, .int x3), (4, .int x4), (5, .int x5)] [] M (c57 x2 x3 x4 x5 M)) : J X uX4_placeAhead (gX E) 98 [(0, .ref (gad (gX E) k0)), (2, .int x2), (3, .int x3), (5, .int x5)] [.int s0] M (pX4_placeAhead_98 fu k0 x2 x3 x5 s0 M c57) := by
  unfold pX4_placeAhead_98
  refine j_istore (pc := 98) (lv' := [(4, .int s0), (0, .ref (gad (gX E) k0)), (2, .int x2), (3, .int x3), (5, .int x5)]) hX dX4_placeAhead_98 (jb rfl) rfl ?_
  refine j_iinc (pc := 100) (v := (x5 + (1 : Int32))) (lv' := [(5, .int (x5 + (1 : Int32))), (4, .int s0), (0, .ref (gad (gX E) k0)), (2, .int x2), (3, .int x3)]) hX 4 dX4_placeAhead_100 rfl (by rw [ci_1]) (jb rfl) rfl ?_
  refine j_goto (pc := 103) hX 57 dX4_placeAhead_103 (by decide) ?_
  exact j_sub [2, 3, 4, 1, 0] rfl (hc57 x2 x3 s0 (x5 + (1 : Int32)) M)
def pX4_placeAhead_57b (fu : Nat) (k0 : Nat) (x2 : Int32) (x3 : Int32) (x4 : Int32) (x5 : Int32) (M : Mem) (c57 : Int32 → Int32 → Int32 → Int32 → Mem → Res) : Res :=
  if x2 ≤ x5 then (
    some (x4, M))
  else
  if (8 : Int32) ≤ x5 then (
    some (x4, M))
  else
  if x4 = (-4 : Int32) then (
    some (x4, M))
  else
  if x4 = x3 then (
    pX4_placeAhead_98 fu k0 x2 x3 x5 (-4 : Int32) M c57)
  else
  bI (pX1_hop fu 5 x4 x3 M) fun r6 M5 =>
  pX4_placeAhead_98 fu k0 x2 x3 x5 r6 M5 c57
set_option maxRecDepth 100000 in
theorem wX4_placeAhead_57b {E : jE} {X : jC} (hX : jOk X uX4_placeAhead (gX E)) (fu : Nat) (k0 : Nat) (hk0 : tX k0 = 4) (x2 : Int32) (x3 : Int32) (x4 : Int32) (x5 : Int32) (M : Mem) (c57 : Int32 → Int32 → Int32 → Int32 → Mem → Res) (hc57 : ∀ (x2 : Int32) (x3 : Int32) (x4 : Int32) (x5 : Int32) (M : Mem), J X uX4_placeAhead (gX E) 57 [(0, .ref (gad (gX E) k0)), (2, .int x2), (3, .int x3), (4, .int x4), (5, .int x5)] [] M (c57 x2 x3 x4 x5 M)) : J X uX4_placeAhead (gX E) 57 [(0, .ref (gad (gX E) k0)), (2, .int x2), (3, .int x3), (4, .int x4), (5, .int x5)] [] M (pX4_placeAhead_57b fu k0 x2 x3 x4 x5 M c57) := by
  unfold pX4_placeAhead_57b
  refine j_iload (pc := 57) hX 4 dX4_placeAhead_57 rfl ?_
  refine j_iload_n (pc := 59) hX 1 dX4_placeAhead_59 rfl rfl ?_
  refine j_icmp_ge (pc := 60) hX 106 dX4_placeAhead_60 (by decide) ?_ ?_
  · refine j_iload (pc := 106) hX 3 dX4_placeAhead_106 rfl ?_
    exact j_iret (pc := 108) hX rfl dX4_placeAhead_108
  · refine j_iload (pc := 63) hX 4 dX4_placeAhead_63 rfl ?_
    refine j_bipush (pc := 65) (v := (8 : Int32)) hX dX4_placeAhead_65 cb_8 ?_
    refine j_icmp_ge (pc := 67) hX 106 dX4_placeAhead_67 (by decide) ?_ ?_
    · refine j_iload (pc := 106) hX 3 dX4_placeAhead_106 rfl ?_
      exact j_iret (pc := 108) hX rfl dX4_placeAhead_108
    · refine j_iload (pc := 70) hX 3 dX4_placeAhead_70 rfl ?_
      refine j_bipush (pc := 72) (v := (-4 : Int32)) hX dX4_placeAhead_72 cb_m4 ?_
      refine j_icmp_eq (pc := 74) hX 106 dX4_placeAhead_74 (by decide) ?_ ?_
      · refine j_iload (pc := 106) hX 3 dX4_placeAhead_106 rfl ?_
        exact j_iret (pc := 108) hX rfl dX4_placeAhead_108
      · refine j_iload (pc := 77) hX 3 dX4_placeAhead_77 rfl ?_
        refine j_iload_n (pc := 79) hX 2 dX4_placeAhead_79 rfl rfl ?_
        refine j_icmp_ne (pc := 80) hX 88 dX4_placeAhead_80 (by decide) ?_ ?_
        · refine j_aload_n (pc := 88) hX 0 dX4_placeAhead_88 rfl rfl ?_
          refine j_getR (pc := 89) (t := 5) hX (hh hk0).1 hk0 (ci := 4) (C := RX4) (T := TX4) (N := 2) rfl (jb rfl) inX4 (j := 0) (jb rfl) (rf_h0 hk0) tw_166 dX4_placeAhead_89 ?_
          refine j_iload (pc := 92) hX 3 dX4_placeAhead_92 rfl ?_
          refine j_iload_n (pc := 94) hX 2 dX4_placeAhead_94 rfl rfl ?_
          refine j_callV (pc := 95) hX [.int x4, .int x3] (mX1_hop _ E hX.2.2.2.2.2.2.2.2.1 fu 5 rfl x4 x3 M) qX1_hop tw_611 (jb rfl) rfl (ci := 1) (T := TX1) (N := 13) rfl (jb rfl) rfl ⟨rfl, rfl⟩ ⟨(Nat.le_of_ble_eq_true rfl), (Nat.le_of_ble_eq_true rfl)⟩ (Nat.le_of_ble_eq_true rfl) dX4_placeAhead_95 (fun _ => rfl) rfl (fun r6 M5 => ?_)
          exact j_sub [0, 1, 2, 4] rfl (wX4_placeAhead_98 hX fu k0 hk0 x2 x3 x5 r6 M5 c57 hc57)
        · refine j_bipush (pc := 83) (v := (-4 : Int32)) hX dX4_placeAhead_83 cb_m4 ?_
          refine j_goto (pc := 85) hX 98 dX4_placeAhead_85 (by decide) ?_
          exact j_sub [0, 1, 2, 4] rfl (wX4_placeAhead_98 hX fu k0 hk0 x2 x3 x5 (-4 : Int32) M c57 hc57)
def pX4_placeAhead_57 (fu : Nat) (k0 : Nat)  : Nat → Int32 → Int32 → Int32 → Int32 → Mem → Res
  | 0, _, _, _, _, _ => none
  | n + 1, x2, x3, x4, x5, M => pX4_placeAhead_57b fu k0 x2 x3 x4 x5 M (pX4_placeAhead_57 fu k0  n)
theorem wX4_placeAhead_57 {E : jE} {X : jC} (hX : jOk X uX4_placeAhead (gX E)) (fu : Nat) (k0 : Nat) (hk0 : tX k0 = 4)   : ∀ (n : Nat) (x2 : Int32) (x3 : Int32) (x4 : Int32) (x5 : Int32) (M : Mem), J X uX4_placeAhead (gX E) 57 [(0, .ref (gad (gX E) k0)), (2, .int x2), (3, .int x3), (4, .int x4), (5, .int x5)] [] M (pX4_placeAhead_57 fu k0  n x2 x3 x4 x5 M) := by
  intro n
  induction n with
  | zero => intro x2 x3 x4 x5 M; exact j_none
  | succ n ih => intro x2 x3 x4 x5 M; exact wX4_placeAhead_57b hX fu k0 hk0 x2 x3 x4 x5 M (pX4_placeAhead_57 fu k0  n) ih
def pX4_placeAhead_54 (fu : Nat) (k0 : Nat) (x2 : Int32) (x3 : Int32) (x4 : Int32) (M : Mem)  : Res :=
  pX4_placeAhead_57 fu k0
    fu x2 x3 x4 (0 : Int32) M
set_option maxRecDepth 100000 in
theorem wX4_placeAhead_54 {E : jE} {X : jC} (hX : jOk X uX4_placeAhead (gX E)) (fu : Nat) (k0 : Nat) (hk0 : tX k0 = 4) (x2 : Int32) (x3 : Int32) (x4 : Int32) (M : Mem)   : J X uX4_placeAhead (gX E) 54 [(0, .ref (gad (gX E) k0)), (2, .int x2), (3, .int x3), (4, .int x4)] [] M (pX4_placeAhead_54 fu k0 x2 x3 x4 M ) := by
  unfold pX4_placeAhead_54
  refine j_iconst (pc := 54) (v := (0 : Int32)) hX dX4_placeAhead_54 ci_0 ?_
  refine j_istore (pc := 55) (lv' := [(5, .int (0 : Int32)), (0, .ref (gad (gX E) k0)), (2, .int x2), (3, .int x3), (4, .int x4)]) hX dX4_placeAhead_55 (jb rfl) rfl ?_
  refine j_sub [1, 2, 3, 4, 0] rfl (wX4_placeAhead_57 hX fu k0 hk0   fu x2 x3 x4 (0 : Int32) M)
def pX4_placeAhead_52 (fu : Nat) (k0 : Nat) (x2 : Int32) (x3 : Int32) (s0 : Int32) (M : Mem)  : Res :=
  pX4_placeAhead_54 fu k0 x2 x3 s0 M 
set_option maxRecDepth 100000 in
theorem wX4_placeAhead_52 {E : jE} {X : jC} (hX : jOk X uX4_placeAhead (gX E)) (fu : Nat) (k0 : Nat) (hk0 : tX k0 = 4) (x2 : Int32) (x3 : Int32) (s0 : Int32) (M : Mem)   : J X uX4_placeAhead (gX E) 52 [(0, .ref (gad (gX E) k0)), (2, .int x2), (3, .int x3)] [.int s0] M (pX4_placeAhead_52 fu k0 x2 x3 s0 M ) := by
  unfold pX4_placeAhead_52
  refine j_istore (pc := 52) (lv' := [(4, .int s0), (0, .ref (gad (gX E) k0)), (2, .int x2), (3, .int x3)]) hX dX4_placeAhead_52 (jb rfl) rfl ?_
  exact j_sub [1, 2, 3, 0] rfl (wX4_placeAhead_54 hX fu k0 hk0 x2 x3 s0 M  )
def pX4_placeAhead (fu : Nat) (k0 : Nat) (x1 : Int32) (x2 : Int32) (M : Mem) : Res :=
  bI (pX4_get fu k0 x1 (10 : Int32) M) fun r2 M1 =>
  bI (pX4_get fu k0 x1 (3 : Int32) M1) fun r4 M3 =>
  if r4 = (-4 : Int32) then (
    bI (pX4_get fu k0 x1 (2 : Int32) M3) fun r8 M7 =>
    if r8 = r2 then (
      pX4_placeAhead_52 fu k0 x2 r2 (-4 : Int32) M7 )
    else
    bI (pX4_get fu k0 x1 (2 : Int32) M7) fun r10 M9 =>
    bI (pX1_hop fu 5 r10 r2 M9) fun r12 M11 =>
    pX4_placeAhead_52 fu k0 x2 r2 r12 M11 )
  else
  pX4_placeAhead_54 fu k0 x2 r2 r4 M3 
set_option maxRecDepth 100000 in
theorem wX4_placeAhead {E : jE} {X : jC} (hX : jOk X uX4_placeAhead (gX E)) (fu : Nat) (k0 : Nat) (hk0 : tX k0 = 4) (x1 : Int32) (x2 : Int32) (M : Mem) : J X uX4_placeAhead (gX E) 0 [(0, .ref (gad (gX E) k0)), (1, .int x1), (2, .int x2)] [] M (pX4_placeAhead fu k0 x1 x2 M) := by
  unfold pX4_placeAhead
  refine j_aload_n (pc := 0) hX 0 dX4_placeAhead_0 rfl rfl ?_
  refine j_iload_n (pc := 1) hX 1 dX4_placeAhead_1 rfl rfl ?_
  refine j_bipush (pc := 2) (v := (10 : Int32)) hX dX4_placeAhead_2 cb_10 ?_
  refine j_callV (pc := 4) hX [.int x1, .int (10 : Int32)] (mX4_get _ E hX.2.2.2.2.2.2.2.2.1 fu k0 hk0 x1 (10 : Int32) M) qX4_get tw_496 (hh hk0).1 hk0 (ci := 4) (T := TX4) (N := 2) rfl (jb rfl) rfl ⟨rfl, rfl⟩ ⟨(Nat.le_of_ble_eq_true rfl), (Nat.le_of_ble_eq_true rfl)⟩ (Nat.le_of_ble_eq_true rfl) dX4_placeAhead_4 (fun _ => rfl) rfl (fun r2 M1 => ?_)
  refine j_istore_n (pc := 7) (lv' := [(3, .int r2), (0, .ref (gad (gX E) k0)), (1, .int x1), (2, .int x2)]) hX dX4_placeAhead_7 rfl (jb rfl) rfl ?_
  refine j_aload_n (pc := 8) hX 1 dX4_placeAhead_8 rfl rfl ?_
  refine j_iload_n (pc := 9) hX 2 dX4_placeAhead_9 rfl rfl ?_
  refine j_iconst (pc := 10) (v := (3 : Int32)) hX dX4_placeAhead_10 ci_3 ?_
  refine j_callV (pc := 11) hX [.int x1, .int (3 : Int32)] (mX4_get _ E hX.2.2.2.2.2.2.2.2.1 fu k0 hk0 x1 (3 : Int32) M1) qX4_get tw_496 (hh hk0).1 hk0 (ci := 4) (T := TX4) (N := 2) rfl (jb rfl) rfl ⟨rfl, rfl⟩ ⟨(Nat.le_of_ble_eq_true rfl), (Nat.le_of_ble_eq_true rfl)⟩ (Nat.le_of_ble_eq_true rfl) dX4_placeAhead_11 (fun _ => rfl) rfl (fun r4 M3 => ?_)
  refine j_istore (pc := 14) (lv' := [(4, .int r4), (3, .int r2), (0, .ref (gad (gX E) k0)), (1, .int x1), (2, .int x2)]) hX dX4_placeAhead_14 (jb rfl) rfl ?_
  refine j_iload (pc := 16) hX 0 dX4_placeAhead_16 rfl ?_
  refine j_bipush (pc := 18) (v := (-4 : Int32)) hX dX4_placeAhead_18 cb_m4 ?_
  refine j_icmp_ne (pc := 20) hX 54 dX4_placeAhead_20 (by decide) ?_ ?_
  · exact j_sub [2, 4, 1, 0] rfl (wX4_placeAhead_54 hX fu k0 hk0 x2 r2 r4 M3  )
  · refine j_aload_n (pc := 23) hX 2 dX4_placeAhead_23 rfl rfl ?_
    refine j_iload_n (pc := 24) hX 3 dX4_placeAhead_24 rfl rfl ?_
    refine j_iconst (pc := 25) (v := (2 : Int32)) hX dX4_placeAhead_25 ci_2 ?_
    refine j_callV (pc := 26) hX [.int x1, .int (2 : Int32)] (mX4_get _ E hX.2.2.2.2.2.2.2.2.1 fu k0 hk0 x1 (2 : Int32) M3) qX4_get tw_496 (hh hk0).1 hk0 (ci := 4) (T := TX4) (N := 2) rfl (jb rfl) rfl ⟨rfl, rfl⟩ ⟨(Nat.le_of_ble_eq_true rfl), (Nat.le_of_ble_eq_true rfl)⟩ (Nat.le_of_ble_eq_true rfl) dX4_placeAhead_26 (fun _ => rfl) rfl (fun r8 M7 => ?_)
    refine j_iload_n (pc := 29) hX 1 dX4_placeAhead_29 rfl rfl ?_
    refine j_icmp_ne (pc := 30) hX 38 dX4_placeAhead_30 (by decide) ?_ ?_
    · refine j_aload_n (pc := 38) hX 2 dX4_placeAhead_38 rfl rfl ?_
      refine j_getR (pc := 39) (t := 5) hX (hh hk0).1 hk0 (ci := 4) (C := RX4) (T := TX4) (N := 2) rfl (jb rfl) inX4 (j := 0) (jb rfl) (rf_h0 hk0) tw_166 dX4_placeAhead_39 ?_
      refine j_aload_n (pc := 42) hX 2 dX4_placeAhead_42 rfl rfl ?_
      refine j_iload_n (pc := 43) hX 3 dX4_placeAhead_43 rfl rfl ?_
      refine j_iconst (pc := 44) (v := (2 : Int32)) hX dX4_placeAhead_44 ci_2 ?_
      refine j_callV (pc := 45) hX [.int x1, .int (2 : Int32)] (mX4_get _ E hX.2.2.2.2.2.2.2.2.1 fu k0 hk0 x1 (2 : Int32) M7) qX4_get tw_496 (hh hk0).1 hk0 (ci := 4) (T := TX4) (N := 2) rfl (jb rfl) rfl ⟨rfl, rfl⟩ ⟨(Nat.le_of_ble_eq_true rfl), (Nat.le_of_ble_eq_true rfl)⟩ (Nat.le_of_ble_eq_true rfl) dX4_placeAhead_45 (fun _ => rfl) rfl (fun r10 M9 => ?_)
      refine j_iload_n (pc := 48) hX 1 dX4_placeAhead_48 rfl rfl ?_
      refine j_callV (pc := 49) hX [.int r10, .int r2] (mX1_hop _ E hX.2.2.2.2.2.2.2.2.1 fu 5 rfl r10 r2 M9) qX1_hop tw_611 (jb rfl) rfl (ci := 1) (T := TX1) (N := 13) rfl (jb rfl) rfl ⟨rfl, rfl⟩ ⟨(Nat.le_of_ble_eq_true rfl), (Nat.le_of_ble_eq_true rfl)⟩ (Nat.le_of_ble_eq_true rfl) dX4_placeAhead_49 (fun _ => rfl) rfl (fun r12 M11 => ?_)
      exact j_sub [2, 4, 1] rfl (wX4_placeAhead_52 hX fu k0 hk0 x2 r2 r12 M11  )
    · refine j_bipush (pc := 33) (v := (-4 : Int32)) hX dX4_placeAhead_33 cb_m4 ?_
      refine j_goto (pc := 35) hX 52 dX4_placeAhead_35 (by decide) ?_
      exact j_sub [2, 4, 1] rfl (wX4_placeAhead_52 hX fu k0 hk0 x2 r2 (-4 : Int32) M7  )
theorem mX4_placeAhead (l : Launch) (E : jE) (hI : jInj (gX E)) (fu : Nat) (k0 : Nat) (hk0 : tX k0 = 4) (x1 : Int32) (x2 : Int32) (M : Mem) : jMet l (gX E) yX4_placeAhead cX4_placeAhead 6 (some .int) rX4_placeAhead [.ref (gad (gX E) k0), .int x1, .int x2] M (pX4_placeAhead fu k0 x1 x2 M) :=
  j_entry hI (by decide +kernel) (Nat.le_of_ble_eq_true rfl) rfl (fun X _ hX => wX4_placeAhead hX fu k0 hk0 x1 x2 M)
theorem qX4_beastsIn : jYv yX4_beastsIn cX4_beastsIn 4 (some .int) 1 := ⟨tw_489, tw_490, tw_61, tw_491, ⟨by decide +kernel, by decide +kernel, by decide +kernel⟩⟩
abbrev rX4_beastsIn : Room := { frames := 2, cells := 0, slots := 0, locals := 45 }
def uX4_beastsIn : jM := (cX4_beastsIn, 4, RX4, (some .int), rX4_beastsIn)
def pX4_beastsIn_30 (fu : Nat) (k0 : Nat) (x1 : Int32) (x3 : Int32) (s0 : Int32) (s1 : Int32) (M : Mem) (c4 : Int32 → Int32 → Int32 → Mem → Res) : Res :=
  c4 x1 (s1 + s0) (x3 + (1 : Int32)) M
set_option maxRecDepth 100000 in
theorem wX4_beastsIn_30 {E : jE} {X : jC} (hX : jOk X uX4_beastsIn (gX E)) (fu : Nat) (k0 : Nat) (hk0 : tX k0 = 4) (x1 : Int32) (x3 : Int32) (s0 : Int32) (s1 : Int32) (M : Mem) (c4 : Int32 → Int32 → Int32 → Mem → Res) (hc4 : ∀ (x1 : Int32) (x2 : Int32) (x3 : Int32) (M : Mem), J X uX4_beastsIn (gX E) 4 [(0, .ref (gad (gX E) k0)), (1, .int x1), (2, .int x2), (3, .int x3)] [] M (c4 x1 x2 x3 M)) : J X uX4_beastsIn (gX E) 30 [(0, .ref (gad (gX E) k0)), (1, .int x1), (3, .int x3)] [.int s0, .int s1] M (pX4_beastsIn_30 fu k0 x1 x3 s0 s1 M c4) := by
  unfold pX4_beastsIn_30
  refine j_iadd (pc := 30) hX dX4_beastsIn_30 ?_
  refine j_istore_n (pc := 31) (lv' := [(2, .int (s1 + s0)), (0, .ref (gad (gX E) k0)), (1, .int x1), (3, .int x3)]) hX dX4_beastsIn_31 rfl (jb rfl) rfl ?_
  refine j_iinc (pc := 32) (v := (x3 + (1 : Int32))) (lv' := [(3, .int (x3 + (1 : Int32))), (2, .int (s1 + s0)), (0, .ref (gad (gX E) k0)), (1, .int x1)]) hX 3 dX4_beastsIn_32 rfl (by rw [ci_1]) (jb rfl) rfl ?_
  refine j_goto (pc := 35) hX 4 dX4_beastsIn_35 (by decide) ?_
  exact j_sub [2, 3, 1, 0] rfl (hc4 x1 (s1 + s0) (x3 + (1 : Int32)) M)
def pX4_beastsIn_4b (fu : Nat) (k0 : Nat) (x1 : Int32) (x2 : Int32) (x3 : Int32) (M : Mem) (c4 : Int32 → Int32 → Int32 → Mem → Res) : Res :=
  bI (pX1_beasts fu 5 M) fun r2 M1 =>
  if r2 ≤ x3 then (
    some (x2, M1))
  else
  bI (pX4_isIn fu k0 x3 x1 M1) fun r4 M3 =>
  if r4 = 0 then (
    pX4_beastsIn_30 fu k0 x1 x3 (0 : Int32) x2 M3 c4)
  else
  pX4_beastsIn_30 fu k0 x1 x3 (1 : Int32) x2 M3 c4
set_option maxRecDepth 100000 in
theorem wX4_beastsIn_4b {E : jE} {X : jC} (hX : jOk X uX4_beastsIn (gX E)) (fu : Nat) (k0 : Nat) (hk0 : tX k0 = 4) (x1 : Int32) (x2 : Int32) (x3 : Int32) (M : Mem) (c4 : Int32 → Int32 → Int32 → Mem → Res) (hc4 : ∀ (x1 : Int32) (x2 : Int32) (x3 : Int32) (M : Mem), J X uX4_beastsIn (gX E) 4 [(0, .ref (gad (gX E) k0)), (1, .int x1), (2, .int x2), (3, .int x3)] [] M (c4 x1 x2 x3 M)) : J X uX4_beastsIn (gX E) 4 [(0, .ref (gad (gX E) k0)), (1, .int x1), (2, .int x2), (3, .int x3)] [] M (pX4_beastsIn_4b fu k0 x1 x2 x3 M c4) := by
  unfold pX4_beastsIn_4b
  refine j_iload_n (pc := 4) hX 3 dX4_beastsIn_4 rfl rfl ?_
  refine j_aload_n (pc := 5) hX 0 dX4_beastsIn_5 rfl rfl ?_
  refine j_getR (pc := 6) (t := 5) hX (hh hk0).1 hk0 (ci := 4) (C := RX4) (T := TX4) (N := 2) rfl (jb rfl) inX4 (j := 0) (jb rfl) (rf_h0 hk0) tw_166 dX4_beastsIn_6 ?_
  refine j_callV (pc := 9) hX [] (mX1_beasts _ E hX.2.2.2.2.2.2.2.2.1 fu 5 rfl  M) qX1_beasts tw_387 (jb rfl) rfl (ci := 1) (T := TX1) (N := 13) rfl (jb rfl) rfl ⟨rfl, rfl⟩ ⟨(Nat.le_of_ble_eq_true rfl), (Nat.le_of_ble_eq_true rfl)⟩ (Nat.le_of_ble_eq_true rfl) dX4_beastsIn_9 (fun _ => rfl) rfl (fun r2 M1 => ?_)
  refine j_icmp_ge (pc := 12) hX 38 dX4_beastsIn_12 (by decide) ?_ ?_
  · refine j_iload_n (pc := 38) hX 2 dX4_beastsIn_38 rfl rfl ?_
    exact j_iret (pc := 39) hX rfl dX4_beastsIn_39
  · refine j_iload_n (pc := 15) hX 2 dX4_beastsIn_15 rfl rfl ?_
    refine j_aload_n (pc := 16) hX 0 dX4_beastsIn_16 rfl rfl ?_
    refine j_iload_n (pc := 17) hX 3 dX4_beastsIn_17 rfl rfl ?_
    refine j_iload_n (pc := 18) hX 1 dX4_beastsIn_18 rfl rfl ?_
    refine j_callV (pc := 19) hX [.int x3, .int x1] (mX4_isIn _ E hX.2.2.2.2.2.2.2.2.1 fu k0 hk0 x3 x1 M1) qX4_isIn tw_492 (hh hk0).1 hk0 (ci := 4) (T := TX4) (N := 2) rfl (jb rfl) rfl ⟨rfl, rfl⟩ ⟨(Nat.le_of_ble_eq_true rfl), (Nat.le_of_ble_eq_true rfl)⟩ (Nat.le_of_ble_eq_true rfl) dX4_beastsIn_19 (fun _ => rfl) rfl (fun r4 M3 => ?_)
    refine j_if_eq (pc := 22) hX 29 dX4_beastsIn_22 (by decide) ?_ ?_
    · refine j_iconst (pc := 29) (v := (0 : Int32)) hX dX4_beastsIn_29 ci_0 ?_
      exact j_sub [0, 1, 3] rfl (wX4_beastsIn_30 hX fu k0 hk0 x1 x3 (0 : Int32) x2 M3 c4 hc4)
    · refine j_iconst (pc := 25) (v := (1 : Int32)) hX dX4_beastsIn_25 ci_1 ?_
      refine j_goto (pc := 26) hX 30 dX4_beastsIn_26 (by decide) ?_
      exact j_sub [0, 1, 3] rfl (wX4_beastsIn_30 hX fu k0 hk0 x1 x3 (1 : Int32) x2 M3 c4 hc4)
def pX4_beastsIn_4 (fu : Nat) (k0 : Nat)  : Nat → Int32 → Int32 → Int32 → Mem → Res
  | 0, _, _, _, _ => none
  | n + 1, x1, x2, x3, M => pX4_beastsIn_4b fu k0 x1 x2 x3 M (pX4_beastsIn_4 fu k0  n)
theorem wX4_beastsIn_4 {E : jE} {X : jC} (hX : jOk X uX4_beastsIn (gX E)) (fu : Nat) (k0 : Nat) (hk0 : tX k0 = 4)   : ∀ (n : Nat) (x1 : Int32) (x2 : Int32) (x3 : Int32) (M : Mem), J X uX4_beastsIn (gX E) 4 [(0, .ref (gad (gX E) k0)), (1, .int x1), (2, .int x2), (3, .int x3)] [] M (pX4_beastsIn_4 fu k0  n x1 x2 x3 M) := by
  intro n
  induction n with
  | zero => intro x1 x2 x3 M; exact j_none
  | succ n ih => intro x1 x2 x3 M; exact wX4_beastsIn_4b hX fu k0 hk0 x1 x2 x3 M (pX4_beastsIn_4 fu k0  n) ih
def pX4_beastsIn (fu : Nat) (k0 : Nat) (x1 : Int32) (M : Mem) : Res :=
  pX4_beastsIn_4 fu k0
    fu x1 (0 : Int32) (0 : Int32) M
set_option maxRecDepth 100000 in
theorem wX4_beastsIn {E : jE} {X : jC} (hX : jOk X uX4_beastsIn (gX E)) (fu : Nat) (k0 : Nat) (hk0 : tX k0 = 4) (x1 : Int32) (M : Mem) : J X uX4_beastsIn (gX E) 0 [(0, .ref (gad (gX E) k0)), (1, .int x1)] [] M (pX4_beastsIn fu k0 x1 M) := by
  unfold pX4_beastsIn
  refine j_iconst (pc := 0) (v := (0 : Int32)) hX dX4_beastsIn_0 ci_0 ?_
  refine j_istore_n (pc := 1) (lv' := [(2, .int (0 : Int32)), (0, .ref (gad (gX E) k0)), (1, .int x1)]) hX dX4_beastsIn_1 rfl (jb rfl) rfl ?_
  refine j_iconst (pc := 2) (v := (0 : Int32)) hX dX4_beastsIn_2 ci_0 ?_
  refine j_istore_n (pc := 3) (lv' := [(3, .int (0 : Int32)), (2, .int (0 : Int32)), (0, .ref (gad (gX E) k0)), (1, .int x1)]) hX dX4_beastsIn_3 rfl (jb rfl) rfl ?_
  refine j_sub [2, 3, 1, 0] rfl (wX4_beastsIn_4 hX fu k0 hk0   fu x1 (0 : Int32) (0 : Int32) M)
theorem mX4_beastsIn (l : Launch) (E : jE) (hI : jInj (gX E)) (fu : Nat) (k0 : Nat) (hk0 : tX k0 = 4) (x1 : Int32) (M : Mem) : jMet l (gX E) yX4_beastsIn cX4_beastsIn 4 (some .int) rX4_beastsIn [.ref (gad (gX E) k0), .int x1] M (pX4_beastsIn fu k0 x1 M) :=
  j_entry hI (by decide +kernel) (Nat.le_of_ble_eq_true rfl) rfl (fun X _ hX => wX4_beastsIn hX fu k0 hk0 x1 M)
theorem qX4_amount : jYv yX4_amount cX4_amount 4 (some .int) 1 := ⟨tw_858, tw_859, tw_61, tw_860, ⟨by decide +kernel, by decide +kernel, by decide +kernel⟩⟩
abbrev rX4_amount : Room := { frames := 2, cells := 0, slots := 0, locals := 45 }
def uX4_amount : jM := (cX4_amount, 4, RX4, (some .int), rX4_amount)
def pX4_amount_30 (fu : Nat) (k0 : Nat) (x1 : Int32) (x3 : Int32) (s0 : Int32) (s1 : Int32) (M : Mem) (c4 : Int32 → Int32 → Int32 → Mem → Res) : Res :=
  c4 x1 (s1 + s0) (x3 + (1 : Int32)) M
set_option maxRecDepth 100000 in
theorem wX4_amount_30 {E : jE} {X : jC} (hX : jOk X uX4_amount (gX E)) (fu : Nat) (k0 : Nat) (hk0 : tX k0 = 4) (x1 : Int32) (x3 : Int32) (s0 : Int32) (s1 : Int32) (M : Mem) (c4 : Int32 → Int32 → Int32 → Mem → Res) (hc4 : ∀ (x1 : Int32) (x2 : Int32) (x3 : Int32) (M : Mem), J X uX4_amount (gX E) 4 [(0, .ref (gad (gX E) k0)), (1, .int x1), (2, .int x2), (3, .int x3)] [] M (c4 x1 x2 x3 M)) : J X uX4_amount (gX E) 30 [(0, .ref (gad (gX E) k0)), (1, .int x1), (3, .int x3)] [.int s0, .int s1] M (pX4_amount_30 fu k0 x1 x3 s0 s1 M c4) := by
  unfold pX4_amount_30
  refine j_iadd (pc := 30) hX dX4_amount_30 ?_
  refine j_istore_n (pc := 31) (lv' := [(2, .int (s1 + s0)), (0, .ref (gad (gX E) k0)), (1, .int x1), (3, .int x3)]) hX dX4_amount_31 rfl (jb rfl) rfl ?_
  refine j_iinc (pc := 32) (v := (x3 + (1 : Int32))) (lv' := [(3, .int (x3 + (1 : Int32))), (2, .int (s1 + s0)), (0, .ref (gad (gX E) k0)), (1, .int x1)]) hX 3 dX4_amount_32 rfl (by rw [ci_1]) (jb rfl) rfl ?_
  refine j_goto (pc := 35) hX 4 dX4_amount_35 (by decide) ?_
  exact j_sub [2, 3, 1, 0] rfl (hc4 x1 (s1 + s0) (x3 + (1 : Int32)) M)
def pX4_amount_4b (fu : Nat) (k0 : Nat) (x1 : Int32) (x2 : Int32) (x3 : Int32) (M : Mem) (c4 : Int32 → Int32 → Int32 → Mem → Res) : Res :=
  bI (pX1_beasts fu 5 M) fun r2 M1 =>
  if r2 ≤ x3 then (
    some (x2, M1))
  else
  bI (pX4_is fu k0 x3 x1 M1) fun r4 M3 =>
  if r4 = 0 then (
    pX4_amount_30 fu k0 x1 x3 (0 : Int32) x2 M3 c4)
  else
  pX4_amount_30 fu k0 x1 x3 (1 : Int32) x2 M3 c4
set_option maxRecDepth 100000 in
theorem wX4_amount_4b {E : jE} {X : jC} (hX : jOk X uX4_amount (gX E)) (fu : Nat) (k0 : Nat) (hk0 : tX k0 = 4) (x1 : Int32) (x2 : Int32) (x3 : Int32) (M : Mem) (c4 : Int32 → Int32 → Int32 → Mem → Res) (hc4 : ∀ (x1 : Int32) (x2 : Int32) (x3 : Int32) (M : Mem), J X uX4_amount (gX E) 4 [(0, .ref (gad (gX E) k0)), (1, .int x1), (2, .int x2), (3, .int x3)] [] M (c4 x1 x2 x3 M)) : J X uX4_amount (gX E) 4 [(0, .ref (gad (gX E) k0)), (1, .int x1), (2, .int x2), (3, .int x3)] [] M (pX4_amount_4b fu k0 x1 x2 x3 M c4) := by
  unfold pX4_amount_4b
  refine j_iload_n (pc := 4) hX 3 dX4_amount_4 rfl rfl ?_
  refine j_aload_n (pc := 5) hX 0 dX4_amount_5 rfl rfl ?_
  refine j_getR (pc := 6) (t := 5) hX (hh hk0).1 hk0 (ci := 4) (C := RX4) (T := TX4) (N := 2) rfl (jb rfl) inX4 (j := 0) (jb rfl) (rf_h0 hk0) tw_166 dX4_amount_6 ?_
  refine j_callV (pc := 9) hX [] (mX1_beasts _ E hX.2.2.2.2.2.2.2.2.1 fu 5 rfl  M) qX1_beasts tw_387 (jb rfl) rfl (ci := 1) (T := TX1) (N := 13) rfl (jb rfl) rfl ⟨rfl, rfl⟩ ⟨(Nat.le_of_ble_eq_true rfl), (Nat.le_of_ble_eq_true rfl)⟩ (Nat.le_of_ble_eq_true rfl) dX4_amount_9 (fun _ => rfl) rfl (fun r2 M1 => ?_)
  refine j_icmp_ge (pc := 12) hX 38 dX4_amount_12 (by decide) ?_ ?_
  · refine j_iload_n (pc := 38) hX 2 dX4_amount_38 rfl rfl ?_
    exact j_iret (pc := 39) hX rfl dX4_amount_39
  · refine j_iload_n (pc := 15) hX 2 dX4_amount_15 rfl rfl ?_
    refine j_aload_n (pc := 16) hX 0 dX4_amount_16 rfl rfl ?_
    refine j_iload_n (pc := 17) hX 3 dX4_amount_17 rfl rfl ?_
    refine j_iload_n (pc := 18) hX 1 dX4_amount_18 rfl rfl ?_
    refine j_callV (pc := 19) hX [.int x3, .int x1] (mX4_is _ E hX.2.2.2.2.2.2.2.2.1 fu k0 hk0 x3 x1 M1) qX4_is tw_546 (hh hk0).1 hk0 (ci := 4) (T := TX4) (N := 2) rfl (jb rfl) rfl ⟨rfl, rfl⟩ ⟨(Nat.le_of_ble_eq_true rfl), (Nat.le_of_ble_eq_true rfl)⟩ (Nat.le_of_ble_eq_true rfl) dX4_amount_19 (fun _ => rfl) rfl (fun r4 M3 => ?_)
    refine j_if_eq (pc := 22) hX 29 dX4_amount_22 (by decide) ?_ ?_
    · refine j_iconst (pc := 29) (v := (0 : Int32)) hX dX4_amount_29 ci_0 ?_
      exact j_sub [0, 1, 3] rfl (wX4_amount_30 hX fu k0 hk0 x1 x3 (0 : Int32) x2 M3 c4 hc4)
    · refine j_iconst (pc := 25) (v := (1 : Int32)) hX dX4_amount_25 ci_1 ?_
      refine j_goto (pc := 26) hX 30 dX4_amount_26 (by decide) ?_
      exact j_sub [0, 1, 3] rfl (wX4_amount_30 hX fu k0 hk0 x1 x3 (1 : Int32) x2 M3 c4 hc4)
def pX4_amount_4 (fu : Nat) (k0 : Nat)  : Nat → Int32 → Int32 → Int32 → Mem → Res
  | 0, _, _, _, _ => none
  | n + 1, x1, x2, x3, M => pX4_amount_4b fu k0 x1 x2 x3 M (pX4_amount_4 fu k0  n)
theorem wX4_amount_4 {E : jE} {X : jC} (hX : jOk X uX4_amount (gX E)) (fu : Nat) (k0 : Nat) (hk0 : tX k0 = 4)   : ∀ (n : Nat) (x1 : Int32) (x2 : Int32) (x3 : Int32) (M : Mem), J X uX4_amount (gX E) 4 [(0, .ref (gad (gX E) k0)), (1, .int x1), (2, .int x2), (3, .int x3)] [] M (pX4_amount_4 fu k0  n x1 x2 x3 M) := by
  intro n
  induction n with
  | zero => intro x1 x2 x3 M; exact j_none
  | succ n ih => intro x1 x2 x3 M; exact wX4_amount_4b hX fu k0 hk0 x1 x2 x3 M (pX4_amount_4 fu k0  n) ih
def pX4_amount (fu : Nat) (k0 : Nat) (x1 : Int32) (M : Mem) : Res :=
  pX4_amount_4 fu k0
    fu x1 (0 : Int32) (0 : Int32) M
set_option maxRecDepth 100000 in
theorem wX4_amount {E : jE} {X : jC} (hX : jOk X uX4_amount (gX E)) (fu : Nat) (k0 : Nat) (hk0 : tX k0 = 4) (x1 : Int32) (M : Mem) : J X uX4_amount (gX E) 0 [(0, .ref (gad (gX E) k0)), (1, .int x1)] [] M (pX4_amount fu k0 x1 M) := by
  unfold pX4_amount
  refine j_iconst (pc := 0) (v := (0 : Int32)) hX dX4_amount_0 ci_0 ?_
  refine j_istore_n (pc := 1) (lv' := [(2, .int (0 : Int32)), (0, .ref (gad (gX E) k0)), (1, .int x1)]) hX dX4_amount_1 rfl (jb rfl) rfl ?_
  refine j_iconst (pc := 2) (v := (0 : Int32)) hX dX4_amount_2 ci_0 ?_
  refine j_istore_n (pc := 3) (lv' := [(3, .int (0 : Int32)), (2, .int (0 : Int32)), (0, .ref (gad (gX E) k0)), (1, .int x1)]) hX dX4_amount_3 rfl (jb rfl) rfl ?_
  refine j_sub [2, 3, 1, 0] rfl (wX4_amount_4 hX fu k0 hk0   fu x1 (0 : Int32) (0 : Int32) M)
theorem mX4_amount (l : Launch) (E : jE) (hI : jInj (gX E)) (fu : Nat) (k0 : Nat) (hk0 : tX k0 = 4) (x1 : Int32) (M : Mem) : jMet l (gX E) yX4_amount cX4_amount 4 (some .int) rX4_amount [.ref (gad (gX E) k0), .int x1] M (pX4_amount fu k0 x1 M) :=
  j_entry hI (by decide +kernel) (Nat.le_of_ble_eq_true rfl) rfl (fun X _ hX => wX4_amount hX fu k0 hk0 x1 M)
theorem qX4_carrotsInAll : jYv yX4_carrotsInAll cX4_carrotsInAll 3 (some .int) 0 := ⟨tw_884, tw_885, tw_61, tw_886, ⟨by decide +kernel, by decide +kernel, by decide +kernel⟩⟩
abbrev rX4_carrotsInAll : Room := { frames := 2, cells := 0, slots := 0, locals := 42 }
def uX4_carrotsInAll : jM := (cX4_carrotsInAll, 3, RX4, (some .int), rX4_carrotsInAll)
def pX4_carrotsInAll_4b (fu : Nat) (k0 : Nat) (x1 : Int32) (x2 : Int32) (M : Mem) (c4 : Int32 → Int32 → Mem → Res) : Res :=
  bI (pX1_places fu 5 M) fun r2 M1 =>
  if r2 ≤ x2 then (
    some (x1, M1))
  else
  bI (pX4_carrotsIn fu k0 x2 M1) fun r4 M3 =>
  c4 (x1 + r4) (x2 + (1 : Int32)) M3
set_option maxRecDepth 100000 in
theorem wX4_carrotsInAll_4b {E : jE} {X : jC} (hX : jOk X uX4_carrotsInAll (gX E)) (fu : Nat) (k0 : Nat) (hk0 : tX k0 = 4) (x1 : Int32) (x2 : Int32) (M : Mem) (c4 : Int32 → Int32 → Mem → Res) (hc4 : ∀ (x1 : Int32) (x2 : Int32) (M : Mem), J X uX4_carrotsInAll (gX E) 4 [(0, .ref (gad (gX E) k0)), (1, .int x1), (2, .int x2)] [] M (c4 x1 x2 M)) : J X uX4_carrotsInAll (gX E) 4 [(0, .ref (gad (gX E) k0)), (1, .int x1), (2, .int x2)] [] M (pX4_carrotsInAll_4b fu k0 x1 x2 M c4) := by
  unfold pX4_carrotsInAll_4b
  refine j_iload_n (pc := 4) hX 2 dX4_carrotsInAll_4 rfl rfl ?_
  refine j_aload_n (pc := 5) hX 0 dX4_carrotsInAll_5 rfl rfl ?_
  refine j_getR (pc := 6) (t := 5) hX (hh hk0).1 hk0 (ci := 4) (C := RX4) (T := TX4) (N := 2) rfl (jb rfl) inX4 (j := 0) (jb rfl) (rf_h0 hk0) tw_166 dX4_carrotsInAll_6 ?_
  refine j_callV (pc := 9) hX [] (mX1_places _ E hX.2.2.2.2.2.2.2.2.1 fu 5 rfl  M) qX1_places tw_399 (jb rfl) rfl (ci := 1) (T := TX1) (N := 13) rfl (jb rfl) rfl ⟨rfl, rfl⟩ ⟨(Nat.le_of_ble_eq_true rfl), (Nat.le_of_ble_eq_true rfl)⟩ (Nat.le_of_ble_eq_true rfl) dX4_carrotsInAll_9 (fun _ => rfl) rfl (fun r2 M1 => ?_)
  refine j_icmp_ge (pc := 12) hX 29 dX4_carrotsInAll_12 (by decide) ?_ ?_
  · refine j_iload_n (pc := 29) hX 1 dX4_carrotsInAll_29 rfl rfl ?_
    exact j_iret (pc := 30) hX rfl dX4_carrotsInAll_30
  · refine j_iload_n (pc := 15) hX 1 dX4_carrotsInAll_15 rfl rfl ?_
    refine j_aload_n (pc := 16) hX 0 dX4_carrotsInAll_16 rfl rfl ?_
    refine j_iload_n (pc := 17) hX 2 dX4_carrotsInAll_17 rfl rfl ?_
    refine j_callV (pc := 18) hX [.int x2] (mX4_carrotsIn _ E hX.2.2.2.2.2.2.2.2.1 fu k0 hk0 x2 M1) qX4_carrotsIn tw_621 (hh hk0).1 hk0 (ci := 4) (T := TX4) (N := 2) rfl (jb rfl) rfl ⟨rfl, rfl⟩ ⟨(Nat.le_of_ble_eq_true rfl), (Nat.le_of_ble_eq_true rfl)⟩ (Nat.le_of_ble_eq_true rfl) dX4_carrotsInAll_18 (fun _ => rfl) rfl (fun r4 M3 => ?_)
    refine j_iadd (pc := 21) hX dX4_carrotsInAll_21 ?_
    refine j_istore_n (pc := 22) (lv' := [(1, .int (x1 + r4)), (0, .ref (gad (gX E) k0)), (2, .int x2)]) hX dX4_carrotsInAll_22 rfl (jb rfl) rfl ?_
    refine j_iinc (pc := 23) (v := (x2 + (1 : Int32))) (lv' := [(2, .int (x2 + (1 : Int32))), (1, .int (x1 + r4)), (0, .ref (gad (gX E) k0))]) hX 2 dX4_carrotsInAll_23 rfl (by rw [ci_1]) (jb rfl) rfl ?_
    refine j_goto (pc := 26) hX 4 dX4_carrotsInAll_26 (by decide) ?_
    exact j_sub [2, 1, 0] rfl (hc4 (x1 + r4) (x2 + (1 : Int32)) M3)
def pX4_carrotsInAll_4 (fu : Nat) (k0 : Nat)  : Nat → Int32 → Int32 → Mem → Res
  | 0, _, _, _ => none
  | n + 1, x1, x2, M => pX4_carrotsInAll_4b fu k0 x1 x2 M (pX4_carrotsInAll_4 fu k0  n)
theorem wX4_carrotsInAll_4 {E : jE} {X : jC} (hX : jOk X uX4_carrotsInAll (gX E)) (fu : Nat) (k0 : Nat) (hk0 : tX k0 = 4)   : ∀ (n : Nat) (x1 : Int32) (x2 : Int32) (M : Mem), J X uX4_carrotsInAll (gX E) 4 [(0, .ref (gad (gX E) k0)), (1, .int x1), (2, .int x2)] [] M (pX4_carrotsInAll_4 fu k0  n x1 x2 M) := by
  intro n
  induction n with
  | zero => intro x1 x2 M; exact j_none
  | succ n ih => intro x1 x2 M; exact wX4_carrotsInAll_4b hX fu k0 hk0 x1 x2 M (pX4_carrotsInAll_4 fu k0  n) ih
def pX4_carrotsInAll (fu : Nat) (k0 : Nat)  (M : Mem) : Res :=
  pX4_carrotsInAll_4 fu k0
    fu (0 : Int32) (0 : Int32) M
set_option maxRecDepth 100000 in
theorem wX4_carrotsInAll {E : jE} {X : jC} (hX : jOk X uX4_carrotsInAll (gX E)) (fu : Nat) (k0 : Nat) (hk0 : tX k0 = 4)  (M : Mem) : J X uX4_carrotsInAll (gX E) 0 [(0, .ref (gad (gX E) k0))] [] M (pX4_carrotsInAll fu k0  M) := by
  unfold pX4_carrotsInAll
  refine j_iconst (pc := 0) (v := (0 : Int32)) hX dX4_carrotsInAll_0 ci_0 ?_
  refine j_istore_n (pc := 1) (lv' := [(1, .int (0 : Int32)), (0, .ref (gad (gX E) k0))]) hX dX4_carrotsInAll_1 rfl (jb rfl) rfl ?_
  refine j_iconst (pc := 2) (v := (0 : Int32)) hX dX4_carrotsInAll_2 ci_0 ?_
  refine j_istore_n (pc := 3) (lv' := [(2, .int (0 : Int32)), (1, .int (0 : Int32)), (0, .ref (gad (gX E) k0))]) hX dX4_carrotsInAll_3 rfl (jb rfl) rfl ?_
  refine j_sub [2, 1, 0] rfl (wX4_carrotsInAll_4 hX fu k0 hk0   fu (0 : Int32) (0 : Int32) M)
theorem mX4_carrotsInAll (l : Launch) (E : jE) (hI : jInj (gX E)) (fu : Nat) (k0 : Nat) (hk0 : tX k0 = 4)  (M : Mem) : jMet l (gX E) yX4_carrotsInAll cX4_carrotsInAll 3 (some .int) rX4_carrotsInAll [.ref (gad (gX E) k0)] M (pX4_carrotsInAll fu k0  M) :=
  j_entry hI (by decide +kernel) (Nat.le_of_ble_eq_true rfl) rfl (fun X _ hX => wX4_carrotsInAll hX fu k0 hk0  M)
theorem qX4_readInSum : jYv yX4_readInSum cX4_readInSum 3 (some .int) 0 := ⟨tw_862, tw_863, tw_61, tw_864, ⟨by decide +kernel, by decide +kernel, by decide +kernel⟩⟩
abbrev rX4_readInSum : Room := { frames := 5, cells := 0, slots := 0, locals := 110 }
def uX4_readInSum : jM := (cX4_readInSum, 3, RX4, (some .int), rX4_readInSum)
def pX4_readInSum_34 (fu : Nat) (k0 : Nat) (x2 : Int32) (s0 : Int32) (s1 : Int32) (M : Mem) (c4 : Int32 → Int32 → Mem → Res) : Res :=
  c4 (s1 + s0) (x2 + (1 : Int32)) M
set_option maxRecDepth 100000 in
theorem wX4_readInSum_34 {E : jE} {X : jC} (hX : jOk X uX4_readInSum (gX E)) (fu : Nat) (k0 : Nat) (hk0 : tX k0 = 4) (x2 : Int32) (s0 : Int32) (s1 : Int32) (M : Mem) (c4 : Int32 → Int32 → Mem → Res) (hc4 : ∀ (x1 : Int32) (x2 : Int32) (M : Mem), J X uX4_readInSum (gX E) 4 [(0, .ref (gad (gX E) k0)), (1, .int x1), (2, .int x2)] [] M (c4 x1 x2 M)) : J X uX4_readInSum (gX E) 34 [(0, .ref (gad (gX E) k0)), (2, .int x2)] [.int s0, .int s1] M (pX4_readInSum_34 fu k0 x2 s0 s1 M c4) := by
  unfold pX4_readInSum_34
  refine j_iadd (pc := 34) hX dX4_readInSum_34 ?_
  refine j_istore_n (pc := 35) (lv' := [(1, .int (s1 + s0)), (0, .ref (gad (gX E) k0)), (2, .int x2)]) hX dX4_readInSum_35 rfl (jb rfl) rfl ?_
  refine j_iinc (pc := 36) (v := (x2 + (1 : Int32))) (lv' := [(2, .int (x2 + (1 : Int32))), (1, .int (s1 + s0)), (0, .ref (gad (gX E) k0))]) hX 2 dX4_readInSum_36 rfl (by rw [ci_1]) (jb rfl) rfl ?_
  refine j_goto (pc := 39) hX 4 dX4_readInSum_39 (by decide) ?_
  exact j_sub [2, 1, 0] rfl (hc4 (s1 + s0) (x2 + (1 : Int32)) M)
def pX4_readInSum_4b (fu : Nat) (k0 : Nat) (x1 : Int32) (x2 : Int32) (M : Mem) (c4 : Int32 → Int32 → Mem → Res) : Res :=
  bI (pX1_beasts fu 5 M) fun r2 M1 =>
  if r2 ≤ x2 then (
    some (x1, M1))
  else
  bI (pX4_is fu k0 x2 (2 : Int32) M1) fun r4 M3 =>
  if r4 = 0 then (
    pX4_readInSum_34 fu k0 x2 (0 : Int32) x1 M3 c4)
  else
  bI (pX4_readOf fu k0 x2 M3) fun r6 M5 =>
  pX4_readInSum_34 fu k0 x2 r6 x1 M5 c4
set_option maxRecDepth 100000 in
theorem wX4_readInSum_4b {E : jE} {X : jC} (hX : jOk X uX4_readInSum (gX E)) (fu : Nat) (k0 : Nat) (hk0 : tX k0 = 4) (x1 : Int32) (x2 : Int32) (M : Mem) (c4 : Int32 → Int32 → Mem → Res) (hc4 : ∀ (x1 : Int32) (x2 : Int32) (M : Mem), J X uX4_readInSum (gX E) 4 [(0, .ref (gad (gX E) k0)), (1, .int x1), (2, .int x2)] [] M (c4 x1 x2 M)) : J X uX4_readInSum (gX E) 4 [(0, .ref (gad (gX E) k0)), (1, .int x1), (2, .int x2)] [] M (pX4_readInSum_4b fu k0 x1 x2 M c4) := by
  unfold pX4_readInSum_4b
  refine j_iload_n (pc := 4) hX 2 dX4_readInSum_4 rfl rfl ?_
  refine j_aload_n (pc := 5) hX 0 dX4_readInSum_5 rfl rfl ?_
  refine j_getR (pc := 6) (t := 5) hX (hh hk0).1 hk0 (ci := 4) (C := RX4) (T := TX4) (N := 2) rfl (jb rfl) inX4 (j := 0) (jb rfl) (rf_h0 hk0) tw_166 dX4_readInSum_6 ?_
  refine j_callV (pc := 9) hX [] (mX1_beasts _ E hX.2.2.2.2.2.2.2.2.1 fu 5 rfl  M) qX1_beasts tw_387 (jb rfl) rfl (ci := 1) (T := TX1) (N := 13) rfl (jb rfl) rfl ⟨rfl, rfl⟩ ⟨(Nat.le_of_ble_eq_true rfl), (Nat.le_of_ble_eq_true rfl)⟩ (Nat.le_of_ble_eq_true rfl) dX4_readInSum_9 (fun _ => rfl) rfl (fun r2 M1 => ?_)
  refine j_icmp_ge (pc := 12) hX 42 dX4_readInSum_12 (by decide) ?_ ?_
  · refine j_iload_n (pc := 42) hX 1 dX4_readInSum_42 rfl rfl ?_
    exact j_iret (pc := 43) hX rfl dX4_readInSum_43
  · refine j_iload_n (pc := 15) hX 1 dX4_readInSum_15 rfl rfl ?_
    refine j_aload_n (pc := 16) hX 0 dX4_readInSum_16 rfl rfl ?_
    refine j_iload_n (pc := 17) hX 2 dX4_readInSum_17 rfl rfl ?_
    refine j_iconst (pc := 18) (v := (2 : Int32)) hX dX4_readInSum_18 ci_2 ?_
    refine j_callV (pc := 19) hX [.int x2, .int (2 : Int32)] (mX4_is _ E hX.2.2.2.2.2.2.2.2.1 fu k0 hk0 x2 (2 : Int32) M1) qX4_is tw_546 (hh hk0).1 hk0 (ci := 4) (T := TX4) (N := 2) rfl (jb rfl) rfl ⟨rfl, rfl⟩ ⟨(Nat.le_of_ble_eq_true rfl), (Nat.le_of_ble_eq_true rfl)⟩ (Nat.le_of_ble_eq_true rfl) dX4_readInSum_19 (fun _ => rfl) rfl (fun r4 M3 => ?_)
    refine j_if_eq (pc := 22) hX 33 dX4_readInSum_22 (by decide) ?_ ?_
    · refine j_iconst (pc := 33) (v := (0 : Int32)) hX dX4_readInSum_33 ci_0 ?_
      exact j_sub [0, 2] rfl (wX4_readInSum_34 hX fu k0 hk0 x2 (0 : Int32) x1 M3 c4 hc4)
    · refine j_aload_n (pc := 25) hX 0 dX4_readInSum_25 rfl rfl ?_
      refine j_iload_n (pc := 26) hX 2 dX4_readInSum_26 rfl rfl ?_
      refine j_callV (pc := 27) hX [.int x2] (mX4_readOf _ E hX.2.2.2.2.2.2.2.2.1 fu k0 hk0 x2 M3) qX4_readOf tw_865 (hh hk0).1 hk0 (ci := 4) (T := TX4) (N := 2) rfl (jb rfl) rfl ⟨rfl, rfl⟩ ⟨(Nat.le_of_ble_eq_true rfl), (Nat.le_of_ble_eq_true rfl)⟩ (Nat.le_of_ble_eq_true rfl) dX4_readInSum_27 (fun _ => rfl) rfl (fun r6 M5 => ?_)
      refine j_goto (pc := 30) hX 34 dX4_readInSum_30 (by decide) ?_
      exact j_sub [0, 2] rfl (wX4_readInSum_34 hX fu k0 hk0 x2 r6 x1 M5 c4 hc4)
def pX4_readInSum_4 (fu : Nat) (k0 : Nat)  : Nat → Int32 → Int32 → Mem → Res
  | 0, _, _, _ => none
  | n + 1, x1, x2, M => pX4_readInSum_4b fu k0 x1 x2 M (pX4_readInSum_4 fu k0  n)
theorem wX4_readInSum_4 {E : jE} {X : jC} (hX : jOk X uX4_readInSum (gX E)) (fu : Nat) (k0 : Nat) (hk0 : tX k0 = 4)   : ∀ (n : Nat) (x1 : Int32) (x2 : Int32) (M : Mem), J X uX4_readInSum (gX E) 4 [(0, .ref (gad (gX E) k0)), (1, .int x1), (2, .int x2)] [] M (pX4_readInSum_4 fu k0  n x1 x2 M) := by
  intro n
  induction n with
  | zero => intro x1 x2 M; exact j_none
  | succ n ih => intro x1 x2 M; exact wX4_readInSum_4b hX fu k0 hk0 x1 x2 M (pX4_readInSum_4 fu k0  n) ih
def pX4_readInSum (fu : Nat) (k0 : Nat)  (M : Mem) : Res :=
  pX4_readInSum_4 fu k0
    fu (0 : Int32) (0 : Int32) M
set_option maxRecDepth 100000 in
theorem wX4_readInSum {E : jE} {X : jC} (hX : jOk X uX4_readInSum (gX E)) (fu : Nat) (k0 : Nat) (hk0 : tX k0 = 4)  (M : Mem) : J X uX4_readInSum (gX E) 0 [(0, .ref (gad (gX E) k0))] [] M (pX4_readInSum fu k0  M) := by
  unfold pX4_readInSum
  refine j_iconst (pc := 0) (v := (0 : Int32)) hX dX4_readInSum_0 ci_0 ?_
  refine j_istore_n (pc := 1) (lv' := [(1, .int (0 : Int32)), (0, .ref (gad (gX E) k0))]) hX dX4_readInSum_1 rfl (jb rfl) rfl ?_
  refine j_iconst (pc := 2) (v := (0 : Int32)) hX dX4_readInSum_2 ci_0 ?_
  refine j_istore_n (pc := 3) (lv' := [(2, .int (0 : Int32)), (1, .int (0 : Int32)), (0, .ref (gad (gX E) k0))]) hX dX4_readInSum_3 rfl (jb rfl) rfl ?_
  refine j_sub [2, 1, 0] rfl (wX4_readInSum_4 hX fu k0 hk0   fu (0 : Int32) (0 : Int32) M)
theorem mX4_readInSum (l : Launch) (E : jE) (hI : jInj (gX E)) (fu : Nat) (k0 : Nat) (hk0 : tX k0 = 4)  (M : Mem) : jMet l (gX E) yX4_readInSum cX4_readInSum 3 (some .int) rX4_readInSum [.ref (gad (gX E) k0)] M (pX4_readInSum fu k0  M) :=
  j_entry hI (by decide +kernel) (Nat.le_of_ble_eq_true rfl) rfl (fun X _ hX => wX4_readInSum hX fu k0 hk0  M)
