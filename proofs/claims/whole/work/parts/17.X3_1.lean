theorem dX3_trySending_0 : decode cX3_trySending 0 = .ok (.aload_n 0, 1) := by decide +kernel
theorem dX3_trySending_1 : decode cX3_trySending 1 = .ok (.getfield 20, 3) := by decide +kernel
theorem dX3_trySending_4 : decode cX3_trySending 4 = .ok (.aload_n 1, 1) := by decide +kernel
theorem dX3_trySending_5 : decode cX3_trySending 5 = .ok (.invokevirtual 24, 3) := by decide +kernel
theorem dX3_trySending_8 : decode cX3_trySending 8 = .ok (.aload_n 0, 1) := by decide +kernel
theorem dX3_trySending_9 : decode cX3_trySending 9 = .ok (.getfield 20, 3) := by decide +kernel
theorem dX3_trySending_12 : decode cX3_trySending 12 = .ok (.iload_n 2, 1) := by decide +kernel
theorem dX3_trySending_13 : decode cX3_trySending 13 = .ok (.iload 4, 2) := by decide +kernel
theorem dX3_trySending_15 : decode cX3_trySending 15 = .ok (.invokevirtual 43, 3) := by decide +kernel
theorem dX3_trySending_18 : decode cX3_trySending 18 = .ok (.ifCond .ne 5, 3) := by decide +kernel
theorem dX3_trySending_21 : decode cX3_trySending 21 = .ok (.iconst 0, 1) := by decide +kernel
theorem dX3_trySending_22 : decode cX3_trySending 22 = .ok (.ireturn, 1) := by decide +kernel
theorem dX3_trySending_23 : decode cX3_trySending 23 = .ok (.aload_n 0, 1) := by decide +kernel
theorem dX3_trySending_24 : decode cX3_trySending 24 = .ok (.getfield 20, 3) := by decide +kernel
theorem dX3_trySending_27 : decode cX3_trySending 27 = .ok (.iload_n 2, 1) := by decide +kernel
theorem dX3_trySending_28 : decode cX3_trySending 28 = .ok (.iload_n 3, 1) := by decide +kernel
theorem dX3_trySending_29 : decode cX3_trySending 29 = .ok (.iload 4, 2) := by decide +kernel
theorem dX3_trySending_31 : decode cX3_trySending 31 = .ok (.invokevirtual 46, 3) := by decide +kernel
theorem dX3_trySending_34 : decode cX3_trySending 34 = .ok (.iconst 1, 1) := by decide +kernel
theorem dX3_trySending_35 : decode cX3_trySending 35 = .ok (.ireturn, 1) := by decide +kernel
theorem dX3_rightBeasts_0 : decode cX3_rightBeasts 0 = .ok (.iconst 0, 1) := by decide +kernel
theorem dX3_rightBeasts_1 : decode cX3_rightBeasts 1 = .ok (.istore 4, 2) := by decide +kernel
theorem dX3_rightBeasts_3 : decode cX3_rightBeasts 3 = .ok (.iconst 0, 1) := by decide +kernel
theorem dX3_rightBeasts_4 : decode cX3_rightBeasts 4 = .ok (.istore 5, 2) := by decide +kernel
theorem dX3_rightBeasts_6 : decode cX3_rightBeasts 6 = .ok (.iload 5, 2) := by decide +kernel
theorem dX3_rightBeasts_8 : decode cX3_rightBeasts 8 = .ok (.aload_n 0, 1) := by decide +kernel
theorem dX3_rightBeasts_9 : decode cX3_rightBeasts 9 = .ok (.getfield 9, 3) := by decide +kernel
theorem dX3_rightBeasts_12 : decode cX3_rightBeasts 12 = .ok (.invokevirtual 50, 3) := by decide +kernel
theorem dX3_rightBeasts_15 : decode cX3_rightBeasts 15 = .ok (.if_icmp .ge 54, 3) := by decide +kernel
theorem dX3_rightBeasts_18 : decode cX3_rightBeasts 18 = .ok (.aload_n 0, 1) := by decide +kernel
theorem dX3_rightBeasts_19 : decode cX3_rightBeasts 19 = .ok (.aload_n 1, 1) := by decide +kernel
theorem dX3_rightBeasts_20 : decode cX3_rightBeasts 20 = .ok (.iload 5, 2) := by decide +kernel
theorem dX3_rightBeasts_22 : decode cX3_rightBeasts 22 = .ok (.iload_n 3, 1) := by decide +kernel
theorem dX3_rightBeasts_23 : decode cX3_rightBeasts 23 = .ok (.iload_n 2, 1) := by decide +kernel
theorem dX3_rightBeasts_24 : decode cX3_rightBeasts 24 = .ok (.invokevirtual 56, 3) := by decide +kernel
theorem dX3_rightBeasts_27 : decode cX3_rightBeasts 27 = .ok (.ifCond .eq 36, 3) := by decide +kernel
theorem dX3_rightBeasts_30 : decode cX3_rightBeasts 30 = .ok (.aload_n 0, 1) := by decide +kernel
theorem dX3_rightBeasts_31 : decode cX3_rightBeasts 31 = .ok (.iload 5, 2) := by decide +kernel
theorem dX3_rightBeasts_33 : decode cX3_rightBeasts 33 = .ok (.invokevirtual 28, 3) := by decide +kernel
theorem dX3_rightBeasts_36 : decode cX3_rightBeasts 36 = .ok (.bipush (-4), 2) := by decide +kernel
theorem dX3_rightBeasts_38 : decode cX3_rightBeasts 38 = .ok (.if_icmp .eq 25, 3) := by decide +kernel
theorem dX3_rightBeasts_41 : decode cX3_rightBeasts 41 = .ok (.aload_n 0, 1) := by decide +kernel
theorem dX3_rightBeasts_42 : decode cX3_rightBeasts 42 = .ok (.getfield 20, 3) := by decide +kernel
theorem dX3_rightBeasts_45 : decode cX3_rightBeasts 45 = .ok (.iload 5, 2) := by decide +kernel
theorem dX3_rightBeasts_47 : decode cX3_rightBeasts 47 = .ok (.invokevirtual 32, 3) := by decide +kernel
theorem dX3_rightBeasts_50 : decode cX3_rightBeasts 50 = .ok (.iload_n 3, 1) := by decide +kernel
theorem dX3_rightBeasts_51 : decode cX3_rightBeasts 51 = .ok (.if_icmp .ne 12, 3) := by decide +kernel
theorem dX3_rightBeasts_54 : decode cX3_rightBeasts 54 = .ok (.iload 4, 2) := by decide +kernel
theorem dX3_rightBeasts_56 : decode cX3_rightBeasts 56 = .ok (.iconst 1, 1) := by decide +kernel
theorem dX3_rightBeasts_57 : decode cX3_rightBeasts 57 = .ok (.iload 5, 2) := by decide +kernel
theorem dX3_rightBeasts_59 : decode cX3_rightBeasts 59 = .ok (.ishl, 1) := by decide +kernel
theorem dX3_rightBeasts_60 : decode cX3_rightBeasts 60 = .ok (.ior, 1) := by decide +kernel
theorem dX3_rightBeasts_61 : decode cX3_rightBeasts 61 = .ok (.istore 4, 2) := by decide +kernel
theorem dX3_rightBeasts_63 : decode cX3_rightBeasts 63 = .ok (.iinc 5 1, 3) := by decide +kernel
theorem dX3_rightBeasts_66 : decode cX3_rightBeasts 66 = .ok (.goto (-60), 3) := by decide +kernel
theorem dX3_rightBeasts_69 : decode cX3_rightBeasts 69 = .ok (.iload 4, 2) := by decide +kernel
theorem dX3_rightBeasts_71 : decode cX3_rightBeasts 71 = .ok (.ireturn, 1) := by decide +kernel
theorem dX3_soonestBeast_0 : decode cX3_soonestBeast 0 = .ok (.bipush (-4), 2) := by decide +kernel
theorem dX3_soonestBeast_2 : decode cX3_soonestBeast 2 = .ok (.istore 4, 2) := by decide +kernel
theorem dX3_soonestBeast_4 : decode cX3_soonestBeast 4 = .ok (.bipush 100, 2) := by decide +kernel
theorem dX3_soonestBeast_6 : decode cX3_soonestBeast 6 = .ok (.istore 5, 2) := by decide +kernel
theorem dX3_soonestBeast_8 : decode cX3_soonestBeast 8 = .ok (.iconst 0, 1) := by decide +kernel
theorem dX3_soonestBeast_9 : decode cX3_soonestBeast 9 = .ok (.istore 6, 2) := by decide +kernel
theorem dX3_soonestBeast_11 : decode cX3_soonestBeast 11 = .ok (.iload 6, 2) := by decide +kernel
theorem dX3_soonestBeast_13 : decode cX3_soonestBeast 13 = .ok (.aload_n 0, 1) := by decide +kernel
theorem dX3_soonestBeast_14 : decode cX3_soonestBeast 14 = .ok (.getfield 9, 3) := by decide +kernel
theorem dX3_soonestBeast_17 : decode cX3_soonestBeast 17 = .ok (.invokevirtual 50, 3) := by decide +kernel
theorem dX3_soonestBeast_20 : decode cX3_soonestBeast 20 = .ok (.if_icmp .ge 69, 3) := by decide +kernel
theorem dX3_soonestBeast_23 : decode cX3_soonestBeast 23 = .ok (.aload_n 0, 1) := by decide +kernel
theorem dX3_soonestBeast_24 : decode cX3_soonestBeast 24 = .ok (.aload_n 1, 1) := by decide +kernel
theorem dX3_soonestBeast_25 : decode cX3_soonestBeast 25 = .ok (.iload 6, 2) := by decide +kernel
theorem dX3_soonestBeast_27 : decode cX3_soonestBeast 27 = .ok (.iload_n 3, 1) := by decide +kernel
theorem dX3_soonestBeast_28 : decode cX3_soonestBeast 28 = .ok (.iload_n 2, 1) := by decide +kernel
theorem dX3_soonestBeast_29 : decode cX3_soonestBeast 29 = .ok (.invokevirtual 56, 3) := by decide +kernel
theorem dX3_soonestBeast_32 : decode cX3_soonestBeast 32 = .ok (.ifCond .eq 12, 3) := by decide +kernel
theorem dX3_soonestBeast_35 : decode cX3_soonestBeast 35 = .ok (.aload_n 0, 1) := by decide +kernel
theorem dX3_soonestBeast_36 : decode cX3_soonestBeast 36 = .ok (.iload 6, 2) := by decide +kernel
theorem dX3_soonestBeast_38 : decode cX3_soonestBeast 38 = .ok (.invokevirtual 28, 3) := by decide +kernel
theorem dX3_soonestBeast_41 : decode cX3_soonestBeast 41 = .ok (.goto 5, 3) := by decide +kernel
theorem dX3_soonestBeast_44 : decode cX3_soonestBeast 44 = .ok (.bipush (-4), 2) := by decide +kernel
theorem dX3_soonestBeast_46 : decode cX3_soonestBeast 46 = .ok (.istore 7, 2) := by decide +kernel
theorem dX3_soonestBeast_48 : decode cX3_soonestBeast 48 = .ok (.iload 7, 2) := by decide +kernel
theorem dX3_soonestBeast_50 : decode cX3_soonestBeast 50 = .ok (.bipush (-4), 2) := by decide +kernel
theorem dX3_soonestBeast_52 : decode cX3_soonestBeast 52 = .ok (.if_icmp .eq 31, 3) := by decide +kernel
theorem dX3_soonestBeast_55 : decode cX3_soonestBeast 55 = .ok (.iload 7, 2) := by decide +kernel
theorem dX3_soonestBeast_57 : decode cX3_soonestBeast 57 = .ok (.iload 5, 2) := by decide +kernel
theorem dX3_soonestBeast_59 : decode cX3_soonestBeast 59 = .ok (.if_icmp .ge 24, 3) := by decide +kernel
theorem dX3_soonestBeast_62 : decode cX3_soonestBeast 62 = .ok (.aload_n 0, 1) := by decide +kernel
theorem dX3_soonestBeast_63 : decode cX3_soonestBeast 63 = .ok (.getfield 20, 3) := by decide +kernel
theorem dX3_soonestBeast_66 : decode cX3_soonestBeast 66 = .ok (.iload 6, 2) := by decide +kernel
theorem dX3_soonestBeast_68 : decode cX3_soonestBeast 68 = .ok (.invokevirtual 32, 3) := by decide +kernel
theorem dX3_soonestBeast_71 : decode cX3_soonestBeast 71 = .ok (.iload_n 3, 1) := by decide +kernel
theorem dX3_soonestBeast_72 : decode cX3_soonestBeast 72 = .ok (.if_icmp .ne 11, 3) := by decide +kernel
theorem dX3_soonestBeast_75 : decode cX3_soonestBeast 75 = .ok (.iload 6, 2) := by decide +kernel
theorem dX3_soonestBeast_77 : decode cX3_soonestBeast 77 = .ok (.istore 4, 2) := by decide +kernel
theorem dX3_soonestBeast_79 : decode cX3_soonestBeast 79 = .ok (.iload 7, 2) := by decide +kernel
theorem dX3_soonestBeast_81 : decode cX3_soonestBeast 81 = .ok (.istore 5, 2) := by decide +kernel
theorem dX3_soonestBeast_83 : decode cX3_soonestBeast 83 = .ok (.iinc 6 1, 3) := by decide +kernel
theorem dX3_soonestBeast_86 : decode cX3_soonestBeast 86 = .ok (.goto (-75), 3) := by decide +kernel
theorem dX3_soonestBeast_89 : decode cX3_soonestBeast 89 = .ok (.iload 4, 2) := by decide +kernel
theorem dX3_soonestBeast_91 : decode cX3_soonestBeast 91 = .ok (.ireturn, 1) := by decide +kernel
theorem dX3_verdictsReadAs_0 : decode cX3_verdictsReadAs 0 = .ok (.aload_n 0, 1) := by decide +kernel
theorem dX3_verdictsReadAs_1 : decode cX3_verdictsReadAs 1 = .ok (.aload_n 1, 1) := by decide +kernel
theorem dX3_verdictsReadAs_2 : decode cX3_verdictsReadAs 2 = .ok (.iload_n 2, 1) := by decide +kernel
theorem dX3_verdictsReadAs_3 : decode cX3_verdictsReadAs 3 = .ok (.iconst 0, 1) := by decide +kernel
theorem dX3_verdictsReadAs_4 : decode cX3_verdictsReadAs 4 = .ok (.iload_n 3, 1) := by decide +kernel
theorem dX3_verdictsReadAs_5 : decode cX3_verdictsReadAs 5 = .ok (.invokevirtual 56, 3) := by decide +kernel
theorem dX3_verdictsReadAs_8 : decode cX3_verdictsReadAs 8 = .ok (.ifCond .eq 13, 3) := by decide +kernel
theorem dX3_verdictsReadAs_11 : decode cX3_verdictsReadAs 11 = .ok (.aload_n 0, 1) := by decide +kernel
theorem dX3_verdictsReadAs_12 : decode cX3_verdictsReadAs 12 = .ok (.iload_n 2, 1) := by decide +kernel
theorem dX3_verdictsReadAs_13 : decode cX3_verdictsReadAs 13 = .ok (.invokevirtual 28, 3) := by decide +kernel
theorem dX3_verdictsReadAs_16 : decode cX3_verdictsReadAs 16 = .ok (.bipush (-4), 2) := by decide +kernel
theorem dX3_verdictsReadAs_18 : decode cX3_verdictsReadAs 18 = .ok (.if_icmp .ne 5, 3) := by decide +kernel
theorem dX3_verdictsReadAs_21 : decode cX3_verdictsReadAs 21 = .ok (.iconst 0, 1) := by decide +kernel
theorem dX3_verdictsReadAs_22 : decode cX3_verdictsReadAs 22 = .ok (.ireturn, 1) := by decide +kernel
theorem dX3_verdictsReadAs_23 : decode cX3_verdictsReadAs 23 = .ok (.iconst 0, 1) := by decide +kernel
theorem dX3_verdictsReadAs_24 : decode cX3_verdictsReadAs 24 = .ok (.istore 5, 2) := by decide +kernel
theorem dX3_verdictsReadAs_26 : decode cX3_verdictsReadAs 26 = .ok (.iconst 0, 1) := by decide +kernel
theorem dX3_verdictsReadAs_27 : decode cX3_verdictsReadAs 27 = .ok (.istore 6, 2) := by decide +kernel
theorem dX3_verdictsReadAs_29 : decode cX3_verdictsReadAs 29 = .ok (.iload 6, 2) := by decide +kernel
theorem dX3_verdictsReadAs_31 : decode cX3_verdictsReadAs 31 = .ok (.bipush 8, 2) := by decide +kernel
theorem dX3_verdictsReadAs_33 : decode cX3_verdictsReadAs 33 = .ok (.if_icmp .ge 37, 3) := by decide +kernel
theorem dX3_verdictsReadAs_36 : decode cX3_verdictsReadAs 36 = .ok (.iload 5, 2) := by decide +kernel
theorem dX3_verdictsReadAs_38 : decode cX3_verdictsReadAs 38 = .ok (.aload_n 0, 1) := by decide +kernel
theorem dX3_verdictsReadAs_39 : decode cX3_verdictsReadAs 39 = .ok (.getfield 20, 3) := by decide +kernel
theorem dX3_verdictsReadAs_42 : decode cX3_verdictsReadAs 42 = .ok (.iload_n 2, 1) := by decide +kernel
theorem dX3_verdictsReadAs_43 : decode cX3_verdictsReadAs 43 = .ok (.iload 6, 2) := by decide +kernel
theorem dX3_verdictsReadAs_45 : decode cX3_verdictsReadAs 45 = .ok (.invokevirtual 60, 3) := by decide +kernel
theorem dX3_verdictsReadAs_48 : decode cX3_verdictsReadAs 48 = .ok (.iload 4, 2) := by decide +kernel
theorem dX3_verdictsReadAs_50 : decode cX3_verdictsReadAs 50 = .ok (.if_icmp .ne 10, 3) := by decide +kernel
theorem dX3_verdictsReadAs_53 : decode cX3_verdictsReadAs 53 = .ok (.iconst 1, 1) := by decide +kernel
theorem dX3_verdictsReadAs_54 : decode cX3_verdictsReadAs 54 = .ok (.iload 6, 2) := by decide +kernel
theorem dX3_verdictsReadAs_56 : decode cX3_verdictsReadAs 56 = .ok (.ishl, 1) := by decide +kernel
theorem dX3_verdictsReadAs_57 : decode cX3_verdictsReadAs 57 = .ok (.goto 4, 3) := by decide +kernel
theorem dX3_verdictsReadAs_60 : decode cX3_verdictsReadAs 60 = .ok (.iconst 0, 1) := by decide +kernel
theorem dX3_verdictsReadAs_61 : decode cX3_verdictsReadAs 61 = .ok (.ior, 1) := by decide +kernel
theorem dX3_verdictsReadAs_62 : decode cX3_verdictsReadAs 62 = .ok (.istore 5, 2) := by decide +kernel
theorem dX3_verdictsReadAs_64 : decode cX3_verdictsReadAs 64 = .ok (.iinc 6 1, 3) := by decide +kernel
theorem dX3_verdictsReadAs_67 : decode cX3_verdictsReadAs 67 = .ok (.goto (-38), 3) := by decide +kernel
theorem dX3_verdictsReadAs_70 : decode cX3_verdictsReadAs 70 = .ok (.iload 5, 2) := by decide +kernel
theorem dX3_verdictsReadAs_72 : decode cX3_verdictsReadAs 72 = .ok (.ireturn, 1) := by decide +kernel
theorem dX3_luringPlace_0 : decode cX3_luringPlace 0 = .ok (.aload_n 0, 1) := by decide +kernel
theorem dX3_luringPlace_1 : decode cX3_luringPlace 1 = .ok (.getfield 20, 3) := by decide +kernel
theorem dX3_luringPlace_4 : decode cX3_luringPlace 4 = .ok (.aload_n 1, 1) := by decide +kernel
theorem dX3_luringPlace_5 : decode cX3_luringPlace 5 = .ok (.invokevirtual 24, 3) := by decide +kernel
theorem dX3_luringPlace_8 : decode cX3_luringPlace 8 = .ok (.aload_n 0, 1) := by decide +kernel
theorem dX3_luringPlace_9 : decode cX3_luringPlace 9 = .ok (.iload_n 2, 1) := by decide +kernel
theorem dX3_luringPlace_10 : decode cX3_luringPlace 10 = .ok (.invokevirtual 28, 3) := by decide +kernel
theorem dX3_luringPlace_13 : decode cX3_luringPlace 13 = .ok (.bipush (-4), 2) := by decide +kernel
theorem dX3_luringPlace_15 : decode cX3_luringPlace 15 = .ok (.if_icmp .ne 7, 3) := by decide +kernel
theorem dX3_luringPlace_18 : decode cX3_luringPlace 18 = .ok (.iconst 0, 1) := by decide +kernel
theorem dX3_luringPlace_19 : decode cX3_luringPlace 19 = .ok (.goto 11, 3) := by decide +kernel
theorem dX3_luringPlace_22 : decode cX3_luringPlace 22 = .ok (.aload_n 0, 1) := by decide +kernel
theorem dX3_luringPlace_23 : decode cX3_luringPlace 23 = .ok (.getfield 20, 3) := by decide +kernel
theorem dX3_luringPlace_26 : decode cX3_luringPlace 26 = .ok (.iload_n 2, 1) := by decide +kernel
theorem dX3_luringPlace_27 : decode cX3_luringPlace 27 = .ok (.invokevirtual 32, 3) := by decide +kernel
theorem dX3_luringPlace_30 : decode cX3_luringPlace 30 = .ok (.istore_n 3, 1) := by decide +kernel
theorem dX3_luringPlace_31 : decode cX3_luringPlace 31 = .ok (.bipush (-4), 2) := by decide +kernel
theorem dX3_luringPlace_33 : decode cX3_luringPlace 33 = .ok (.istore 4, 2) := by decide +kernel
theorem dX3_luringPlace_35 : decode cX3_luringPlace 35 = .ok (.iconst 0, 1) := by decide +kernel
theorem dX3_luringPlace_36 : decode cX3_luringPlace 36 = .ok (.istore 5, 2) := by decide +kernel
theorem dX3_luringPlace_38 : decode cX3_luringPlace 38 = .ok (.iload 5, 2) := by decide +kernel
theorem dX3_luringPlace_40 : decode cX3_luringPlace 40 = .ok (.aload_n 0, 1) := by decide +kernel
theorem dX3_luringPlace_41 : decode cX3_luringPlace 41 = .ok (.getfield 9, 3) := by decide +kernel
theorem dX3_luringPlace_44 : decode cX3_luringPlace 44 = .ok (.invokevirtual 63, 3) := by decide +kernel
theorem dX3_luringPlace_47 : decode cX3_luringPlace 47 = .ok (.if_icmp .ge 74, 3) := by decide +kernel
theorem dX3_luringPlace_50 : decode cX3_luringPlace 50 = .ok (.aload_n 0, 1) := by decide +kernel
theorem dX3_luringPlace_51 : decode cX3_luringPlace 51 = .ok (.getfield 20, 3) := by decide +kernel
theorem dX3_luringPlace_54 : decode cX3_luringPlace 54 = .ok (.aload_n 1, 1) := by decide +kernel
theorem dX3_luringPlace_55 : decode cX3_luringPlace 55 = .ok (.invokevirtual 24, 3) := by decide +kernel
theorem dX3_luringPlace_58 : decode cX3_luringPlace 58 = .ok (.aload_n 0, 1) := by decide +kernel
theorem dX3_luringPlace_59 : decode cX3_luringPlace 59 = .ok (.getfield 20, 3) := by decide +kernel
theorem dX3_luringPlace_62 : decode cX3_luringPlace 62 = .ok (.iload 5, 2) := by decide +kernel
theorem dX3_luringPlace_64 : decode cX3_luringPlace 64 = .ok (.aload_n 1, 1) := by decide +kernel
theorem dX3_luringPlace_65 : decode cX3_luringPlace 65 = .ok (.iload 5, 2) := by decide +kernel
theorem dX3_luringPlace_67 : decode cX3_luringPlace 67 = .ok (.invokevirtual 66, 3) := by decide +kernel
theorem dX3_luringPlace_70 : decode cX3_luringPlace 70 = .ok (.iconst 1, 1) := by decide +kernel
theorem dX3_luringPlace_71 : decode cX3_luringPlace 71 = .ok (.iadd, 1) := by decide +kernel
theorem dX3_luringPlace_72 : decode cX3_luringPlace 72 = .ok (.bipush 9, 2) := by decide +kernel
theorem dX3_luringPlace_74 : decode cX3_luringPlace 74 = .ok (.invokestatic 69, 3) := by decide +kernel
theorem dX3_luringPlace_77 : decode cX3_luringPlace 77 = .ok (.invokevirtual 74, 3) := by decide +kernel
theorem dX3_luringPlace_80 : decode cX3_luringPlace 80 = .ok (.aload_n 0, 1) := by decide +kernel
theorem dX3_luringPlace_81 : decode cX3_luringPlace 81 = .ok (.iload_n 2, 1) := by decide +kernel
theorem dX3_luringPlace_82 : decode cX3_luringPlace 82 = .ok (.invokevirtual 28, 3) := by decide +kernel
theorem dX3_luringPlace_85 : decode cX3_luringPlace 85 = .ok (.bipush (-4), 2) := by decide +kernel
theorem dX3_luringPlace_87 : decode cX3_luringPlace 87 = .ok (.if_icmp .eq 28, 3) := by decide +kernel
theorem dX3_luringPlace_90 : decode cX3_luringPlace 90 = .ok (.aload_n 0, 1) := by decide +kernel
theorem dX3_luringPlace_91 : decode cX3_luringPlace 91 = .ok (.getfield 20, 3) := by decide +kernel
theorem dX3_luringPlace_94 : decode cX3_luringPlace 94 = .ok (.iload_n 2, 1) := by decide +kernel
theorem dX3_luringPlace_95 : decode cX3_luringPlace 95 = .ok (.invokevirtual 32, 3) := by decide +kernel
theorem dX3_luringPlace_98 : decode cX3_luringPlace 98 = .ok (.iload_n 3, 1) := by decide +kernel
theorem dX3_luringPlace_99 : decode cX3_luringPlace 99 = .ok (.if_icmp .ge 16, 3) := by decide +kernel
theorem dX3_luringPlace_102 : decode cX3_luringPlace 102 = .ok (.aload_n 0, 1) := by decide +kernel
theorem dX3_luringPlace_103 : decode cX3_luringPlace 103 = .ok (.getfield 20, 3) := by decide +kernel
theorem dX3_luringPlace_106 : decode cX3_luringPlace 106 = .ok (.iload_n 2, 1) := by decide +kernel
theorem dX3_luringPlace_107 : decode cX3_luringPlace 107 = .ok (.invokevirtual 32, 3) := by decide +kernel
theorem dX3_luringPlace_110 : decode cX3_luringPlace 110 = .ok (.istore_n 3, 1) := by decide +kernel
theorem dX3_luringPlace_111 : decode cX3_luringPlace 111 = .ok (.iload 5, 2) := by decide +kernel
theorem dX3_luringPlace_113 : decode cX3_luringPlace 113 = .ok (.istore 4, 2) := by decide +kernel
theorem dX3_luringPlace_115 : decode cX3_luringPlace 115 = .ok (.iinc 5 1, 3) := by decide +kernel
theorem dX3_luringPlace_118 : decode cX3_luringPlace 118 = .ok (.goto (-80), 3) := by decide +kernel
theorem dX3_luringPlace_121 : decode cX3_luringPlace 121 = .ok (.iload 4, 2) := by decide +kernel
theorem dX3_luringPlace_123 : decode cX3_luringPlace 123 = .ok (.ireturn, 1) := by decide +kernel
theorem dX3_hoursTillMeeting_0 : decode cX3_hoursTillMeeting 0 = .ok (.aload_n 0, 1) := by decide +kernel
theorem dX3_hoursTillMeeting_1 : decode cX3_hoursTillMeeting 1 = .ok (.getfield 20, 3) := by decide +kernel
theorem dX3_hoursTillMeeting_4 : decode cX3_hoursTillMeeting 4 = .ok (.aload_n 1, 1) := by decide +kernel
theorem dX3_hoursTillMeeting_5 : decode cX3_hoursTillMeeting 5 = .ok (.invokevirtual 24, 3) := by decide +kernel
theorem dX3_hoursTillMeeting_8 : decode cX3_hoursTillMeeting 8 = .ok (.iconst 0, 1) := by decide +kernel
theorem dX3_hoursTillMeeting_9 : decode cX3_hoursTillMeeting 9 = .ok (.istore 4, 2) := by decide +kernel
theorem dX3_hoursTillMeeting_11 : decode cX3_hoursTillMeeting 11 = .ok (.iload 4, 2) := by decide +kernel
theorem dX3_hoursTillMeeting_13 : decode cX3_hoursTillMeeting 13 = .ok (.bipush 60, 2) := by decide +kernel
theorem dX3_hoursTillMeeting_15 : decode cX3_hoursTillMeeting 15 = .ok (.if_icmp .gt 58, 3) := by decide +kernel
theorem dX3_hoursTillMeeting_18 : decode cX3_hoursTillMeeting 18 = .ok (.aload_n 0, 1) := by decide +kernel
theorem dX3_hoursTillMeeting_19 : decode cX3_hoursTillMeeting 19 = .ok (.getfield 20, 3) := by decide +kernel
theorem dX3_hoursTillMeeting_22 : decode cX3_hoursTillMeeting 22 = .ok (.iload_n 2, 1) := by decide +kernel
theorem dX3_hoursTillMeeting_23 : decode cX3_hoursTillMeeting 23 = .ok (.iconst 2, 1) := by decide +kernel
theorem dX3_hoursTillMeeting_24 : decode cX3_hoursTillMeeting 24 = .ok (.invokevirtual 78, 3) := by decide +kernel
theorem dX3_hoursTillMeeting_27 : decode cX3_hoursTillMeeting 27 = .ok (.istore 5, 2) := by decide +kernel
theorem dX3_hoursTillMeeting_29 : decode cX3_hoursTillMeeting 29 = .ok (.aload_n 0, 1) := by decide +kernel
theorem dX3_hoursTillMeeting_30 : decode cX3_hoursTillMeeting 30 = .ok (.getfield 20, 3) := by decide +kernel
theorem dX3_hoursTillMeeting_33 : decode cX3_hoursTillMeeting 33 = .ok (.iload_n 2, 1) := by decide +kernel
theorem dX3_hoursTillMeeting_34 : decode cX3_hoursTillMeeting 34 = .ok (.iload 5, 2) := by decide +kernel
theorem dX3_hoursTillMeeting_36 : decode cX3_hoursTillMeeting 36 = .ok (.invokevirtual 81, 3) := by decide +kernel
theorem dX3_hoursTillMeeting_39 : decode cX3_hoursTillMeeting 39 = .ok (.ifCond .eq 19, 3) := by decide +kernel
theorem dX3_hoursTillMeeting_42 : decode cX3_hoursTillMeeting 42 = .ok (.aload_n 0, 1) := by decide +kernel
theorem dX3_hoursTillMeeting_43 : decode cX3_hoursTillMeeting 43 = .ok (.getfield 20, 3) := by decide +kernel
theorem dX3_hoursTillMeeting_46 : decode cX3_hoursTillMeeting 46 = .ok (.iload_n 3, 1) := by decide +kernel
theorem dX3_hoursTillMeeting_47 : decode cX3_hoursTillMeeting 47 = .ok (.iload 5, 2) := by decide +kernel
theorem dX3_hoursTillMeeting_49 : decode cX3_hoursTillMeeting 49 = .ok (.invokevirtual 81, 3) := by decide +kernel
theorem dX3_hoursTillMeeting_52 : decode cX3_hoursTillMeeting 52 = .ok (.ifCond .eq 6, 3) := by decide +kernel
theorem dX3_hoursTillMeeting_55 : decode cX3_hoursTillMeeting 55 = .ok (.iload 4, 2) := by decide +kernel
theorem dX3_hoursTillMeeting_57 : decode cX3_hoursTillMeeting 57 = .ok (.ireturn, 1) := by decide +kernel
theorem dX3_hoursTillMeeting_58 : decode cX3_hoursTillMeeting 58 = .ok (.aload_n 0, 1) := by decide +kernel
theorem dX3_hoursTillMeeting_59 : decode cX3_hoursTillMeeting 59 = .ok (.getfield 20, 3) := by decide +kernel
theorem dX3_hoursTillMeeting_62 : decode cX3_hoursTillMeeting 62 = .ok (.bipush (-4), 2) := by decide +kernel
theorem dX3_hoursTillMeeting_64 : decode cX3_hoursTillMeeting 64 = .ok (.invokevirtual 39, 3) := by decide +kernel
theorem dX3_hoursTillMeeting_67 : decode cX3_hoursTillMeeting 67 = .ok (.iinc 4 1, 3) := by decide +kernel
theorem dX3_hoursTillMeeting_70 : decode cX3_hoursTillMeeting 70 = .ok (.goto (-59), 3) := by decide +kernel
theorem dX3_hoursTillMeeting_73 : decode cX3_hoursTillMeeting 73 = .ok (.bipush (-4), 2) := by decide +kernel
theorem dX3_hoursTillMeeting_75 : decode cX3_hoursTillMeeting 75 = .ok (.ireturn, 1) := by decide +kernel
theorem dX3_drawOf_0 : decode cX3_drawOf 0 = .ok (.ldc2_w 90, 3) := by decide +kernel
theorem dX3_drawOf_3 : decode cX3_drawOf 3 = .ok (.iload_n 0, 1) := by decide +kernel
theorem dX3_drawOf_4 : decode cX3_drawOf 4 = .ok (.i2l, 1) := by decide +kernel
theorem dX3_drawOf_5 : decode cX3_drawOf 5 = .ok (.lmul, 1) := by decide +kernel
theorem dX3_drawOf_6 : decode cX3_drawOf 6 = .ok (.ldc2_w 92, 3) := by decide +kernel
theorem dX3_drawOf_9 : decode cX3_drawOf 9 = .ok (.iload_n 1, 1) := by decide +kernel
theorem dX3_drawOf_10 : decode cX3_drawOf 10 = .ok (.i2l, 1) := by decide +kernel
theorem dX3_drawOf_11 : decode cX3_drawOf 11 = .ok (.lmul, 1) := by decide +kernel
theorem dX3_drawOf_12 : decode cX3_drawOf 12 = .ok (.ladd, 1) := by decide +kernel
theorem dX3_drawOf_13 : decode cX3_drawOf 13 = .ok (.lconst 1, 1) := by decide +kernel
theorem dX3_drawOf_14 : decode cX3_drawOf 14 = .ok (.ladd, 1) := by decide +kernel
theorem dX3_drawOf_15 : decode cX3_drawOf 15 = .ok (.lstore_n 2, 1) := by decide +kernel
theorem dX3_drawOf_16 : decode cX3_drawOf 16 = .ok (.lload_n 2, 1) := by decide +kernel
theorem dX3_drawOf_17 : decode cX3_drawOf 17 = .ok (.lload_n 2, 1) := by decide +kernel
theorem dX3_drawOf_18 : decode cX3_drawOf 18 = .ok (.lmul, 1) := by decide +kernel
theorem dX3_drawOf_19 : decode cX3_drawOf 19 = .ok (.ldc2_w 94, 3) := by decide +kernel
theorem dX3_drawOf_22 : decode cX3_drawOf 22 = .ok (.lrem, 1) := by decide +kernel
theorem dX3_drawOf_23 : decode cX3_drawOf 23 = .ok (.l2i, 1) := by decide +kernel
theorem dX3_drawOf_24 : decode cX3_drawOf 24 = .ok (.ireturn, 1) := by decide +kernel
theorem dX3_wrap_0 : decode cX3_wrap 0 = .ok (.iload_n 1, 1) := by decide +kernel
theorem dX3_wrap_1 : decode cX3_wrap 1 = .ok (.ifCond .le 9, 3) := by decide +kernel
theorem dX3_wrap_4 : decode cX3_wrap 4 = .ok (.iload_n 0, 1) := by decide +kernel
theorem dX3_wrap_5 : decode cX3_wrap 5 = .ok (.iload_n 1, 1) := by decide +kernel
theorem dX3_wrap_6 : decode cX3_wrap 6 = .ok (.irem, 1) := by decide +kernel
theorem dX3_wrap_7 : decode cX3_wrap 7 = .ok (.goto 4, 3) := by decide +kernel
theorem dX3_wrap_10 : decode cX3_wrap 10 = .ok (.iconst 0, 1) := by decide +kernel
theorem dX3_wrap_11 : decode cX3_wrap 11 = .ok (.ireturn, 1) := by decide +kernel
theorem dX3_act_0 : decode cX3_act 0 = .ok (.iload_n 1, 1) := by decide +kernel
theorem dX3_act_1 : decode cX3_act 1 = .ok (.bipush 8, 2) := by decide +kernel
theorem dX3_act_3 : decode cX3_act 3 = .ok (.idiv, 1) := by decide +kernel
theorem dX3_act_4 : decode cX3_act 4 = .ok (.aload_n 0, 1) := by decide +kernel
theorem dX3_act_5 : decode cX3_act 5 = .ok (.getfield 9, 3) := by decide +kernel
theorem dX3_act_8 : decode cX3_act 8 = .ok (.invokevirtual 50, 3) := by decide +kernel
theorem dX3_act_11 : decode cX3_act 11 = .ok (.invokestatic 96, 3) := by decide +kernel
theorem dX3_act_14 : decode cX3_act 14 = .ok (.istore_n 2, 1) := by decide +kernel
theorem dX3_act_15 : decode cX3_act 15 = .ok (.iload_n 1, 1) := by decide +kernel
theorem dX3_act_16 : decode cX3_act 16 = .ok (.sipush 512, 3) := by decide +kernel
theorem dX3_act_19 : decode cX3_act 19 = .ok (.idiv, 1) := by decide +kernel
theorem dX3_act_20 : decode cX3_act 20 = .ok (.aload_n 0, 1) := by decide +kernel
theorem dX3_act_21 : decode cX3_act 21 = .ok (.getfield 9, 3) := by decide +kernel
theorem dX3_act_24 : decode cX3_act 24 = .ok (.invokevirtual 99, 3) := by decide +kernel
theorem dX3_act_27 : decode cX3_act 27 = .ok (.invokestatic 96, 3) := by decide +kernel
theorem dX3_act_30 : decode cX3_act 30 = .ok (.istore_n 3, 1) := by decide +kernel
theorem dX3_act_31 : decode cX3_act 31 = .ok (.iload_n 1, 1) := by decide +kernel
theorem dX3_act_32 : decode cX3_act 32 = .ok (.bipush 8, 2) := by decide +kernel
theorem dX3_act_34 : decode cX3_act 34 = .ok (.irem, 1) := by decide +kernel
theorem dX3_act_35 : decode cX3_act 35 = .ok (.istore 4, 2) := by decide +kernel
theorem dX3_act_37 : decode cX3_act 37 = .ok (.iload 4, 2) := by decide +kernel
theorem dX3_act_39 : decode cX3_act 39 = .ok (.iconst 2, 1) := by decide +kernel
theorem dX3_act_40 : decode cX3_act 40 = .ok (.if_icmp .gt 34, 3) := by decide +kernel
theorem dX3_act_43 : decode cX3_act 43 = .ok (.aload_n 0, 1) := by decide +kernel
theorem dX3_act_44 : decode cX3_act 44 = .ok (.getfield 20, 3) := by decide +kernel
theorem dX3_act_47 : decode cX3_act 47 = .ok (.iload_n 2, 1) := by decide +kernel
theorem dX3_act_48 : decode cX3_act 48 = .ok (.iload_n 3, 1) := by decide +kernel
theorem dX3_act_49 : decode cX3_act 49 = .ok (.invokevirtual 43, 3) := by decide +kernel
theorem dX3_act_52 : decode cX3_act 52 = .ok (.ifCond .eq 22, 3) := by decide +kernel
theorem dX3_act_55 : decode cX3_act 55 = .ok (.aload_n 0, 1) := by decide +kernel
theorem dX3_act_56 : decode cX3_act 56 = .ok (.getfield 20, 3) := by decide +kernel
theorem dX3_act_59 : decode cX3_act 59 = .ok (.iload_n 2, 1) := by decide +kernel
theorem dX3_act_60 : decode cX3_act 60 = .ok (.iload_n 1, 1) := by decide +kernel
theorem dX3_act_61 : decode cX3_act 61 = .ok (.bipush 64, 2) := by decide +kernel
theorem dX3_act_63 : decode cX3_act 63 = .ok (.idiv, 1) := by decide +kernel
theorem dX3_act_64 : decode cX3_act 64 = .ok (.bipush 8, 2) := by decide +kernel
theorem dX3_act_66 : decode cX3_act 66 = .ok (.irem, 1) := by decide +kernel
theorem dX3_act_67 : decode cX3_act 67 = .ok (.iload_n 3, 1) := by decide +kernel
theorem dX3_act_68 : decode cX3_act 68 = .ok (.invokevirtual 46, 3) := by decide +kernel
theorem dX3_act_71 : decode cX3_act 71 = .ok (.goto 66, 3) := by decide +kernel
theorem dX3_act_74 : decode cX3_act 74 = .ok (.iload 4, 2) := by decide +kernel
theorem dX3_act_76 : decode cX3_act 76 = .ok (.iconst 3, 1) := by decide +kernel
theorem dX3_act_77 : decode cX3_act 77 = .ok (.if_icmp .ne 26, 3) := by decide +kernel
theorem dX3_act_80 : decode cX3_act 80 = .ok (.aload_n 0, 1) := by decide +kernel
theorem dX3_act_81 : decode cX3_act 81 = .ok (.getfield 20, 3) := by decide +kernel
theorem dX3_act_84 : decode cX3_act 84 = .ok (.iload_n 2, 1) := by decide +kernel
theorem dX3_act_85 : decode cX3_act 85 = .ok (.iconst 2, 1) := by decide +kernel
theorem dX3_act_86 : decode cX3_act 86 = .ok (.invokevirtual 35, 3) := by decide +kernel
theorem dX3_act_89 : decode cX3_act 89 = .ok (.ifCond .eq 14, 3) := by decide +kernel
theorem dX3_act_92 : decode cX3_act 92 = .ok (.aload_n 0, 1) := by decide +kernel
theorem dX3_act_93 : decode cX3_act 93 = .ok (.getfield 20, 3) := by decide +kernel
theorem dX3_act_96 : decode cX3_act 96 = .ok (.iload_n 2, 1) := by decide +kernel
theorem dX3_act_97 : decode cX3_act 97 = .ok (.invokevirtual 102, 3) := by decide +kernel
theorem dX3_act_100 : decode cX3_act 100 = .ok (.goto 37, 3) := by decide +kernel
theorem dX3_act_103 : decode cX3_act 103 = .ok (.iload 4, 2) := by decide +kernel
theorem dX3_act_105 : decode cX3_act 105 = .ok (.iconst 4, 1) := by decide +kernel
theorem dX3_act_106 : decode cX3_act 106 = .ok (.if_icmp .ne 31, 3) := by decide +kernel
theorem dX3_act_109 : decode cX3_act 109 = .ok (.aload_n 0, 1) := by decide +kernel
theorem dX3_act_110 : decode cX3_act 110 = .ok (.getfield 20, 3) := by decide +kernel
theorem dX3_act_113 : decode cX3_act 113 = .ok (.iload_n 1, 1) := by decide +kernel
theorem dX3_act_114 : decode cX3_act 114 = .ok (.bipush 8, 2) := by decide +kernel
theorem dX3_act_116 : decode cX3_act 116 = .ok (.idiv, 1) := by decide +kernel
theorem dX3_act_117 : decode cX3_act 117 = .ok (.aload_n 0, 1) := by decide +kernel
theorem dX3_act_118 : decode cX3_act 118 = .ok (.getfield 9, 3) := by decide +kernel
theorem dX3_act_121 : decode cX3_act 121 = .ok (.invokevirtual 63, 3) := by decide +kernel
theorem dX3_act_124 : decode cX3_act 124 = .ok (.invokestatic 96, 3) := by decide +kernel
theorem dX3_act_127 : decode cX3_act 127 = .ok (.iload_n 1, 1) := by decide +kernel
theorem dX3_act_128 : decode cX3_act 128 = .ok (.bipush 64, 2) := by decide +kernel
theorem dX3_act_130 : decode cX3_act 130 = .ok (.idiv, 1) := by decide +kernel
theorem dX3_act_131 : decode cX3_act 131 = .ok (.bipush 10, 2) := by decide +kernel
theorem dX3_act_133 : decode cX3_act 133 = .ok (.irem, 1) := by decide +kernel
theorem dX3_act_134 : decode cX3_act 134 = .ok (.invokevirtual 74, 3) := by decide +kernel
theorem dX3_act_137 : decode cX3_act 137 = .ok (.return_, 1) := by decide +kernel
theorem dX3_afterYear_0 : decode cX3_afterYear 0 = .ok (.aload_n 0, 1) := by decide +kernel
theorem dX3_afterYear_1 : decode cX3_afterYear 1 = .ok (.getfield 20, 3) := by decide +kernel
theorem dX3_afterYear_4 : decode cX3_afterYear 4 = .ok (.aload_n 1, 1) := by decide +kernel
theorem dX3_afterYear_5 : decode cX3_afterYear 5 = .ok (.invokevirtual 24, 3) := by decide +kernel
theorem dX3_afterYear_8 : decode cX3_afterYear 8 = .ok (.iconst 0, 1) := by decide +kernel
theorem dX3_afterYear_9 : decode cX3_afterYear 9 = .ok (.istore 4, 2) := by decide +kernel
theorem dX3_afterYear_11 : decode cX3_afterYear 11 = .ok (.iload 4, 2) := by decide +kernel
theorem dX3_afterYear_13 : decode cX3_afterYear 13 = .ok (.iload_n 3, 1) := by decide +kernel
theorem dX3_afterYear_14 : decode cX3_afterYear 14 = .ok (.if_icmp .ge 28, 3) := by decide +kernel
theorem dX3_afterYear_17 : decode cX3_afterYear 17 = .ok (.aload_n 0, 1) := by decide +kernel
theorem dX3_afterYear_18 : decode cX3_afterYear 18 = .ok (.iload_n 2, 1) := by decide +kernel
theorem dX3_afterYear_19 : decode cX3_afterYear 19 = .ok (.iload 4, 2) := by decide +kernel
theorem dX3_afterYear_21 : decode cX3_afterYear 21 = .ok (.invokestatic 84, 3) := by decide +kernel
theorem dX3_afterYear_24 : decode cX3_afterYear 24 = .ok (.invokevirtual 87, 3) := by decide +kernel
theorem dX3_afterYear_27 : decode cX3_afterYear 27 = .ok (.aload_n 0, 1) := by decide +kernel
theorem dX3_afterYear_28 : decode cX3_afterYear 28 = .ok (.getfield 20, 3) := by decide +kernel
theorem dX3_afterYear_31 : decode cX3_afterYear 31 = .ok (.bipush (-4), 2) := by decide +kernel
theorem dX3_afterYear_33 : decode cX3_afterYear 33 = .ok (.invokevirtual 39, 3) := by decide +kernel
theorem dX3_afterYear_36 : decode cX3_afterYear 36 = .ok (.iinc 4 1, 3) := by decide +kernel
theorem dX3_afterYear_39 : decode cX3_afterYear 39 = .ok (.goto (-28), 3) := by decide +kernel
theorem dX3_afterYear_42 : decode cX3_afterYear 42 = .ok (.aload_n 0, 1) := by decide +kernel
theorem dX3_afterYear_43 : decode cX3_afterYear 43 = .ok (.getfield 20, 3) := by decide +kernel
theorem dX3_afterYear_46 : decode cX3_afterYear 46 = .ok (.areturn, 1) := by decide +kernel
theorem qX3_trySending : jYv yX3_trySending cX3_trySending 5 (some .boolean) 4 := ⟨tw_699, tw_10, tw_63, tw_700, ⟨by decide +kernel, by decide +kernel, by decide +kernel⟩⟩
abbrev rX3_trySending : Room := { frames := 4, cells := 0, slots := 0, locals := 101 }
def uX3_trySending : jM := (cX3_trySending, 5, RX3, (some .boolean), rX3_trySending)
def pX3_trySending (fu : Nat) (k0 : Nat) (x2 : Int32) (x3 : Int32) (x4 : Int32) (M : Mem) : Res :=
  bV (pX4_copy fu 54 k0 M) fun M1 =>
  bI (pX4_canBeSent fu 54 x2 x4 M1) fun r3 M2 =>
  if r3 = 0 then (
    rtz (0 : Int32) M2)
  else
  bV (pX4_dispatch fu 54 x2 x3 x4 M2) fun M4 =>
  rtz (1 : Int32) M4
set_option maxRecDepth 100000 in
theorem wX3_trySending {E : jE} {X : jC} (hX : jOk X uX3_trySending (gX E)) (fu : Nat) (k0 : Nat) (hk0 : tX k0 = 4) (x2 : Int32) (x3 : Int32) (x4 : Int32) (M : Mem) : J X uX3_trySending (gX E) 0 [(0, .ref (gad (gX E) 53)), (1, .ref (gad (gX E) k0)), (2, .int x2), (3, .int x3), (4, .int x4)] [] M (pX3_trySending fu k0 x2 x3 x4 M) := by
  unfold pX3_trySending
  refine j_aload_n (pc := 0) hX 0 dX3_trySending_0 rfl rfl ?_
  refine j_getR (pc := 1) (t := 54) hX (jb rfl) rfl (ci := 3) (C := RX3) (T := TX3) (N := 2) rfl (jb rfl) inX3 (j := 1) (jb rfl) rfl tw_201 dX3_trySending_1 ?_
  refine j_aload_n (pc := 4) hX 1 dX3_trySending_4 rfl rfl ?_
  refine j_callVv (pc := 5) hX [.ref (gad (gX E) k0)] (mX4_copy _ E hX.2.2.2.2.2.2.2.2.1 fu 54 k0 rfl hk0  M) qX4_copy tw_672 (jb rfl) rfl (ci := 4) (T := TX4) (N := 2) rfl (jb rfl) rfl ⟨rfl, rfl⟩ ⟨(Nat.le_of_ble_eq_true rfl), (Nat.le_of_ble_eq_true rfl)⟩ (Nat.le_of_ble_eq_true rfl) dX3_trySending_5 rfl (fun M1 => ?_)
  refine j_aload_n (pc := 8) hX 0 dX3_trySending_8 rfl rfl ?_
  refine j_getR (pc := 9) (t := 54) hX (jb rfl) rfl (ci := 3) (C := RX3) (T := TX3) (N := 2) rfl (jb rfl) inX3 (j := 1) (jb rfl) rfl tw_201 dX3_trySending_9 ?_
  refine j_iload_n (pc := 12) hX 2 dX3_trySending_12 rfl rfl ?_
  refine j_iload (pc := 13) hX 4 dX3_trySending_13 rfl ?_
  refine j_callV (pc := 15) hX [.int x2, .int x4] (mX4_canBeSent _ E hX.2.2.2.2.2.2.2.2.1 fu 54 rfl x2 x4 M1) qX4_canBeSent tw_701 (jb rfl) rfl (ci := 4) (T := TX4) (N := 2) rfl (jb rfl) rfl ⟨rfl, rfl⟩ ⟨(Nat.le_of_ble_eq_true rfl), (Nat.le_of_ble_eq_true rfl)⟩ (Nat.le_of_ble_eq_true rfl) dX3_trySending_15 (fun _ => rfl) rfl (fun r3 M2 => ?_)
  refine j_if_ne (pc := 18) hX 23 dX3_trySending_18 (by decide) ?_ ?_
  · refine j_aload_n (pc := 23) hX 0 dX3_trySending_23 rfl rfl ?_
    refine j_getR (pc := 24) (t := 54) hX (jb rfl) rfl (ci := 3) (C := RX3) (T := TX3) (N := 2) rfl (jb rfl) inX3 (j := 1) (jb rfl) rfl tw_201 dX3_trySending_24 ?_
    refine j_iload_n (pc := 27) hX 2 dX3_trySending_27 rfl rfl ?_
    refine j_iload_n (pc := 28) hX 3 dX3_trySending_28 rfl rfl ?_
    refine j_iload (pc := 29) hX 4 dX3_trySending_29 rfl ?_
    refine j_callVv (pc := 31) hX [.int x2, .int x3, .int x4] (mX4_dispatch _ E hX.2.2.2.2.2.2.2.2.1 fu 54 rfl x2 x3 x4 M2) qX4_dispatch tw_702 (jb rfl) rfl (ci := 4) (T := TX4) (N := 2) rfl (jb rfl) rfl ⟨rfl, rfl⟩ ⟨(Nat.le_of_ble_eq_true rfl), (Nat.le_of_ble_eq_true rfl)⟩ (Nat.le_of_ble_eq_true rfl) dX3_trySending_31 rfl (fun M4 => ?_)
    refine j_iconst (pc := 34) (v := (1 : Int32)) hX dX3_trySending_34 ci_1 ?_
    exact j_zret (pc := 35) hX rfl dX3_trySending_35
  · refine j_iconst (pc := 21) (v := (0 : Int32)) hX dX3_trySending_21 ci_0 ?_
    exact j_zret (pc := 22) hX rfl dX3_trySending_22
theorem mX3_trySending (l : Launch) (E : jE) (hI : jInj (gX E)) (fu : Nat) (k0 : Nat) (hk0 : tX k0 = 4) (x2 : Int32) (x3 : Int32) (x4 : Int32) (M : Mem) : jMet l (gX E) yX3_trySending cX3_trySending 5 (some .boolean) rX3_trySending [.ref (gad (gX E) 53), .ref (gad (gX E) k0), .int x2, .int x3, .int x4] M (pX3_trySending fu k0 x2 x3 x4 M) :=
  j_entry hI (by decide +kernel) (Nat.le_of_ble_eq_true rfl) rfl (fun X _ hX => wX3_trySending hX fu k0 hk0 x2 x3 x4 M)
theorem qX3_rightBeasts : jYv yX3_rightBeasts cX3_rightBeasts 6 (some .int) 3 := ⟨tw_693, tw_694, tw_63, tw_695, ⟨by decide +kernel, by decide +kernel, by decide +kernel⟩⟩
abbrev rX3_rightBeasts : Room := { frames := 6, cells := 0, slots := 0, locals := 139 }
def uX3_rightBeasts : jM := (cX3_rightBeasts, 6, RX3, (some .int), rX3_rightBeasts)
def pX3_rightBeasts_63 (fu : Nat) (k0 : Nat) (x2 : Int32) (x3 : Int32) (x4 : Int32) (x5 : Int32) (M : Mem) (c6 : Int32 → Int32 → Int32 → Int32 → Mem → Res) : Res :=
  c6 x2 x3 x4 (x5 + (1 : Int32)) M
set_option maxRecDepth 100000 in
theorem wX3_rightBeasts_63 {E : jE} {X : jC} (hX : jOk X uX3_rightBeasts (gX E)) (fu : Nat) (k0 : Nat) (hk0 : tX k0 = 4) (x2 : Int32) (x3 : Int32) (x4 : Int32) (x5 : Int32) (M : Mem) (c6 : Int32 → Int32 → Int32 → Int32 → Mem → Res) (hc6 : ∀ (x2 : Int32) (x3 : Int32) (x4 : Int32) (x5 : Int32) (M : Mem), J X uX3_rightBeasts (gX E) 6 [(0, .ref (gad (gX E) 53)), (1, .ref (gad (gX E) k0)), (2, .int x2), (3, .int x3), (4, .int x4), (5, .int x5)] [] M (c6 x2 x3 x4 x5 M)) : J X uX3_rightBeasts (gX E) 63 [(0, .ref (gad (gX E) 53)), (1, .ref (gad (gX E) k0)), (2, .int x2), (3, .int x3), (4, .int x4), (5, .int x5)] [] M (pX3_rightBeasts_63 fu k0 x2 x3 x4 x5 M c6) := by
  unfold pX3_rightBeasts_63
  refine j_iinc (pc := 63) (v := (x5 + (1 : Int32))) (lv' := [(5, .int (x5 + (1 : Int32))), (0, .ref (gad (gX E) 53)), (1, .ref (gad (gX E) k0)), (2, .int x2), (3, .int x3), (4, .int x4)]) hX 5 dX3_rightBeasts_63 rfl (by rw [ci_1]) (jb rfl) rfl ?_
  refine j_goto (pc := 66) hX 6 dX3_rightBeasts_66 (by decide) ?_
  exact j_sub [1, 2, 3, 4, 5, 0] rfl (hc6 x2 x3 x4 (x5 + (1 : Int32)) M)
def pX3_rightBeasts_6b (fu : Nat) (k0 : Nat) (x2 : Int32) (x3 : Int32) (x4 : Int32) (x5 : Int32) (M : Mem) (c6 : Int32 → Int32 → Int32 → Int32 → Mem → Res) : Res :=
  bI (pX1_beasts fu 5 M) fun r2 M1 =>
  if r2 ≤ x5 then (
    some (x4, M1))
  else
  bI (pX3_trySending fu k0 x5 x3 x2 M1) fun r4 M3 =>
  if r4 = 0 then (
    pX3_rightBeasts_63 fu k0 x2 x3 x4 x5 M3 c6)
  else
  bI (pX3_awaitBeast fu x5 M3) fun r6 M5 =>
  if r6 = (-4 : Int32) then (
    pX3_rightBeasts_63 fu k0 x2 x3 x4 x5 M5 c6)
  else
  bI (pX4_readOf fu 54 x5 M5) fun r8 M7 =>
  if r8 = x3 then (
    pX3_rightBeasts_63 fu k0 x2 x3 (x4 ||| ((1 : Int32) <<< (x5 &&& 31))) x5 M7 c6)
  else
  pX3_rightBeasts_63 fu k0 x2 x3 x4 x5 M7 c6
set_option maxRecDepth 100000 in
theorem wX3_rightBeasts_6b {E : jE} {X : jC} (hX : jOk X uX3_rightBeasts (gX E)) (fu : Nat) (k0 : Nat) (hk0 : tX k0 = 4) (x2 : Int32) (x3 : Int32) (x4 : Int32) (x5 : Int32) (M : Mem) (c6 : Int32 → Int32 → Int32 → Int32 → Mem → Res) (hc6 : ∀ (x2 : Int32) (x3 : Int32) (x4 : Int32) (x5 : Int32) (M : Mem), J X uX3_rightBeasts (gX E) 6 [(0, .ref (gad (gX E) 53)), (1, .ref (gad (gX E) k0)), (2, .int x2), (3, .int x3), (4, .int x4), (5, .int x5)] [] M (c6 x2 x3 x4 x5 M)) : J X uX3_rightBeasts (gX E) 6 [(0, .ref (gad (gX E) 53)), (1, .ref (gad (gX E) k0)), (2, .int x2), (3, .int x3), (4, .int x4), (5, .int x5)] [] M (pX3_rightBeasts_6b fu k0 x2 x3 x4 x5 M c6) := by
  unfold pX3_rightBeasts_6b
  refine j_iload (pc := 6) hX 5 dX3_rightBeasts_6 rfl ?_
  refine j_aload_n (pc := 8) hX 0 dX3_rightBeasts_8 rfl rfl ?_
  refine j_getR (pc := 9) (t := 5) hX (jb rfl) rfl (ci := 3) (C := RX3) (T := TX3) (N := 2) rfl (jb rfl) inX3 (j := 0) (jb rfl) rfl tw_200 dX3_rightBeasts_9 ?_
  refine j_callV (pc := 12) hX [] (mX1_beasts _ E hX.2.2.2.2.2.2.2.2.1 fu 5 rfl  M) qX1_beasts tw_696 (jb rfl) rfl (ci := 1) (T := TX1) (N := 13) rfl (jb rfl) rfl ⟨rfl, rfl⟩ ⟨(Nat.le_of_ble_eq_true rfl), (Nat.le_of_ble_eq_true rfl)⟩ (Nat.le_of_ble_eq_true rfl) dX3_rightBeasts_12 (fun _ => rfl) rfl (fun r2 M1 => ?_)
  refine j_icmp_ge (pc := 15) hX 69 dX3_rightBeasts_15 (by decide) ?_ ?_
  · refine j_iload (pc := 69) hX 4 dX3_rightBeasts_69 rfl ?_
    exact j_iret (pc := 71) hX rfl dX3_rightBeasts_71
  · refine j_aload_n (pc := 18) hX 0 dX3_rightBeasts_18 rfl rfl ?_
    refine j_aload_n (pc := 19) hX 1 dX3_rightBeasts_19 rfl rfl ?_
    refine j_iload (pc := 20) hX 5 dX3_rightBeasts_20 rfl ?_
    refine j_iload_n (pc := 22) hX 3 dX3_rightBeasts_22 rfl rfl ?_
    refine j_iload_n (pc := 23) hX 2 dX3_rightBeasts_23 rfl rfl ?_
    refine j_callV (pc := 24) hX [.ref (gad (gX E) k0), .int x5, .int x3, .int x2] (mX3_trySending _ E hX.2.2.2.2.2.2.2.2.1 fu k0 hk0 x5 x3 x2 M1) qX3_trySending tw_697 (jb rfl) rfl (ci := 3) (T := TX3) (N := 2) rfl (jb rfl) rfl ⟨rfl, rfl⟩ ⟨(Nat.le_of_ble_eq_true rfl), (Nat.le_of_ble_eq_true rfl)⟩ (Nat.le_of_ble_eq_true rfl) dX3_rightBeasts_24 (fun _ => rfl) rfl (fun r4 M3 => ?_)
    refine j_if_eq (pc := 27) hX 63 dX3_rightBeasts_27 (by decide) ?_ ?_
    · exact j_sub [0, 1, 2, 3, 4, 5] rfl (wX3_rightBeasts_63 hX fu k0 hk0 x2 x3 x4 x5 M3 c6 hc6)
    · refine j_aload_n (pc := 30) hX 0 dX3_rightBeasts_30 rfl rfl ?_
      refine j_iload (pc := 31) hX 5 dX3_rightBeasts_31 rfl ?_
      refine j_callV (pc := 33) hX [.int x5] (mX3_awaitBeast _ E hX.2.2.2.2.2.2.2.2.1 fu   x5 M3) qX3_awaitBeast tw_673 (jb rfl) rfl (ci := 3) (T := TX3) (N := 2) rfl (jb rfl) rfl ⟨rfl, rfl⟩ ⟨(Nat.le_of_ble_eq_true rfl), (Nat.le_of_ble_eq_true rfl)⟩ (Nat.le_of_ble_eq_true rfl) dX3_rightBeasts_33 (fun _ => rfl) rfl (fun r6 M5 => ?_)
      refine j_bipush (pc := 36) (v := (-4 : Int32)) hX dX3_rightBeasts_36 cb_m4 ?_
      refine j_icmp_eq (pc := 38) hX 63 dX3_rightBeasts_38 (by decide) ?_ ?_
      · exact j_sub [0, 1, 2, 3, 4, 5] rfl (wX3_rightBeasts_63 hX fu k0 hk0 x2 x3 x4 x5 M5 c6 hc6)
      · refine j_aload_n (pc := 41) hX 0 dX3_rightBeasts_41 rfl rfl ?_
        refine j_getR (pc := 42) (t := 54) hX (jb rfl) rfl (ci := 3) (C := RX3) (T := TX3) (N := 2) rfl (jb rfl) inX3 (j := 1) (jb rfl) rfl tw_201 dX3_rightBeasts_42 ?_
        refine j_iload (pc := 45) hX 5 dX3_rightBeasts_45 rfl ?_
        refine j_callV (pc := 47) hX [.int x5] (mX4_readOf _ E hX.2.2.2.2.2.2.2.2.1 fu 54 rfl x5 M5) qX4_readOf tw_687 (jb rfl) rfl (ci := 4) (T := TX4) (N := 2) rfl (jb rfl) rfl ⟨rfl, rfl⟩ ⟨(Nat.le_of_ble_eq_true rfl), (Nat.le_of_ble_eq_true rfl)⟩ (Nat.le_of_ble_eq_true rfl) dX3_rightBeasts_47 (fun _ => rfl) rfl (fun r8 M7 => ?_)
        refine j_iload_n (pc := 50) hX 3 dX3_rightBeasts_50 rfl rfl ?_
        refine j_icmp_ne (pc := 51) hX 63 dX3_rightBeasts_51 (by decide) ?_ ?_
        · exact j_sub [0, 1, 2, 3, 4, 5] rfl (wX3_rightBeasts_63 hX fu k0 hk0 x2 x3 x4 x5 M7 c6 hc6)
        · refine j_iload (pc := 54) hX 4 dX3_rightBeasts_54 rfl ?_
          refine j_iconst (pc := 56) (v := (1 : Int32)) hX dX3_rightBeasts_56 ci_1 ?_
          refine j_iload (pc := 57) hX 5 dX3_rightBeasts_57 rfl ?_
          refine j_ishl (pc := 59) hX dX3_rightBeasts_59 ?_
          refine j_ior (pc := 60) hX dX3_rightBeasts_60 ?_
          refine j_istore (pc := 61) (lv' := [(4, .int (x4 ||| ((1 : Int32) <<< (x5 &&& 31)))), (0, .ref (gad (gX E) 53)), (1, .ref (gad (gX E) k0)), (2, .int x2), (3, .int x3), (5, .int x5)]) hX dX3_rightBeasts_61 (jb rfl) rfl ?_
          exact j_sub [1, 2, 3, 4, 0, 5] rfl (wX3_rightBeasts_63 hX fu k0 hk0 x2 x3 (x4 ||| ((1 : Int32) <<< (x5 &&& 31))) x5 M7 c6 hc6)
def pX3_rightBeasts_6 (fu : Nat) (k0 : Nat)  : Nat → Int32 → Int32 → Int32 → Int32 → Mem → Res
  | 0, _, _, _, _, _ => none
  | n + 1, x2, x3, x4, x5, M => pX3_rightBeasts_6b fu k0 x2 x3 x4 x5 M (pX3_rightBeasts_6 fu k0  n)
theorem wX3_rightBeasts_6 {E : jE} {X : jC} (hX : jOk X uX3_rightBeasts (gX E)) (fu : Nat) (k0 : Nat) (hk0 : tX k0 = 4)   : ∀ (n : Nat) (x2 : Int32) (x3 : Int32) (x4 : Int32) (x5 : Int32) (M : Mem), J X uX3_rightBeasts (gX E) 6 [(0, .ref (gad (gX E) 53)), (1, .ref (gad (gX E) k0)), (2, .int x2), (3, .int x3), (4, .int x4), (5, .int x5)] [] M (pX3_rightBeasts_6 fu k0  n x2 x3 x4 x5 M) := by
  intro n
  induction n with
  | zero => intro x2 x3 x4 x5 M; exact j_none
  | succ n ih => intro x2 x3 x4 x5 M; exact wX3_rightBeasts_6b hX fu k0 hk0 x2 x3 x4 x5 M (pX3_rightBeasts_6 fu k0  n) ih
def pX3_rightBeasts (fu : Nat) (k0 : Nat) (x2 : Int32) (x3 : Int32) (M : Mem) : Res :=
  pX3_rightBeasts_6 fu k0
    fu x2 x3 (0 : Int32) (0 : Int32) M
set_option maxRecDepth 100000 in
theorem wX3_rightBeasts {E : jE} {X : jC} (hX : jOk X uX3_rightBeasts (gX E)) (fu : Nat) (k0 : Nat) (hk0 : tX k0 = 4) (x2 : Int32) (x3 : Int32) (M : Mem) : J X uX3_rightBeasts (gX E) 0 [(0, .ref (gad (gX E) 53)), (1, .ref (gad (gX E) k0)), (2, .int x2), (3, .int x3)] [] M (pX3_rightBeasts fu k0 x2 x3 M) := by
  unfold pX3_rightBeasts
  refine j_iconst (pc := 0) (v := (0 : Int32)) hX dX3_rightBeasts_0 ci_0 ?_
  refine j_istore (pc := 1) (lv' := [(4, .int (0 : Int32)), (0, .ref (gad (gX E) 53)), (1, .ref (gad (gX E) k0)), (2, .int x2), (3, .int x3)]) hX dX3_rightBeasts_1 (jb rfl) rfl ?_
  refine j_iconst (pc := 3) (v := (0 : Int32)) hX dX3_rightBeasts_3 ci_0 ?_
  refine j_istore (pc := 4) (lv' := [(5, .int (0 : Int32)), (4, .int (0 : Int32)), (0, .ref (gad (gX E) 53)), (1, .ref (gad (gX E) k0)), (2, .int x2), (3, .int x3)]) hX dX3_rightBeasts_4 (jb rfl) rfl ?_
  refine j_sub [2, 3, 4, 5, 1, 0] rfl (wX3_rightBeasts_6 hX fu k0 hk0   fu x2 x3 (0 : Int32) (0 : Int32) M)
theorem mX3_rightBeasts (l : Launch) (E : jE) (hI : jInj (gX E)) (fu : Nat) (k0 : Nat) (hk0 : tX k0 = 4) (x2 : Int32) (x3 : Int32) (M : Mem) : jMet l (gX E) yX3_rightBeasts cX3_rightBeasts 6 (some .int) rX3_rightBeasts [.ref (gad (gX E) 53), .ref (gad (gX E) k0), .int x2, .int x3] M (pX3_rightBeasts fu k0 x2 x3 M) :=
  j_entry hI (by decide +kernel) (Nat.le_of_ble_eq_true rfl) rfl (fun X _ hX => wX3_rightBeasts hX fu k0 hk0 x2 x3 M)
theorem qX3_soonestBeast : jYv yX3_soonestBeast cX3_soonestBeast 8 (some .int) 3 := ⟨tw_708, tw_709, tw_63, tw_710, ⟨by decide +kernel, by decide +kernel, by decide +kernel⟩⟩
abbrev rX3_soonestBeast : Room := { frames := 6, cells := 0, slots := 0, locals := 139 }
def uX3_soonestBeast : jM := (cX3_soonestBeast, 8, RX3, (some .int), rX3_soonestBeast)
def pX3_soonestBeast_83 (fu : Nat) (k0 : Nat) (x2 : Int32) (x3 : Int32) (x4 : Int32) (x5 : Int32) (x6 : Int32) (M : Mem) (c11 : Int32 → Int32 → Int32 → Int32 → Int32 → Mem → Res) : Res :=
  c11 x2 x3 x4 x5 (x6 + (1 : Int32)) M
set_option maxRecDepth 100000 in
theorem wX3_soonestBeast_83 {E : jE} {X : jC} (hX : jOk X uX3_soonestBeast (gX E)) (fu : Nat) (k0 : Nat) (hk0 : tX k0 = 4) (x2 : Int32) (x3 : Int32) (x4 : Int32) (x5 : Int32) (x6 : Int32) (M : Mem) (c11 : Int32 → Int32 → Int32 → Int32 → Int32 → Mem → Res) (hc11 : ∀ (x2 : Int32) (x3 : Int32) (x4 : Int32) (x5 : Int32) (x6 : Int32) (M : Mem), J X uX3_soonestBeast (gX E) 11 [(0, .ref (gad (gX E) 53)), (1, .ref (gad (gX E) k0)), (2, .int x2), (3, .int x3), (4, .int x4), (5, .int x5), (6, .int x6)] [] M (c11 x2 x3 x4 x5 x6 M)) : J X uX3_soonestBeast (gX E) 83 [(0, .ref (gad (gX E) 53)), (1, .ref (gad (gX E) k0)), (2, .int x2), (3, .int x3), (4, .int x4), (5, .int x5), (6, .int x6)] [] M (pX3_soonestBeast_83 fu k0 x2 x3 x4 x5 x6 M c11) := by
  unfold pX3_soonestBeast_83
  refine j_iinc (pc := 83) (v := (x6 + (1 : Int32))) (lv' := [(6, .int (x6 + (1 : Int32))), (0, .ref (gad (gX E) 53)), (1, .ref (gad (gX E) k0)), (2, .int x2), (3, .int x3), (4, .int x4), (5, .int x5)]) hX 6 dX3_soonestBeast_83 rfl (by rw [ci_1]) (jb rfl) rfl ?_
  refine j_goto (pc := 86) hX 11 dX3_soonestBeast_86 (by decide) ?_
  exact j_sub [1, 2, 3, 4, 5, 6, 0] rfl (hc11 x2 x3 x4 x5 (x6 + (1 : Int32)) M)
def pX3_soonestBeast_46 (fu : Nat) (k0 : Nat) (x2 : Int32) (x3 : Int32) (x4 : Int32) (x5 : Int32) (x6 : Int32) (s0 : Int32) (M : Mem) (c11 : Int32 → Int32 → Int32 → Int32 → Int32 → Mem → Res) : Res :=
  if s0 = (-4 : Int32) then (
    pX3_soonestBeast_83 fu k0 x2 x3 x4 x5 x6 M c11)
  else
  if x5 ≤ s0 then (
    pX3_soonestBeast_83 fu k0 x2 x3 x4 x5 x6 M c11)
  else
  bI (pX4_readOf fu 54 x6 M) fun r6 M5 =>
  if r6 = x3 then (
    pX3_soonestBeast_83 fu k0 x2 x3 x6 s0 x6 M5 c11)
  else
  pX3_soonestBeast_83 fu k0 x2 x3 x4 x5 x6 M5 c11
set_option maxRecDepth 100000 in
theorem wX3_soonestBeast_46 {E : jE} {X : jC} (hX : jOk X uX3_soonestBeast (gX E)) (fu : Nat) (k0 : Nat) (hk0 : tX k0 = 4) (x2 : Int32) (x3 : Int32) (x4 : Int32) (x5 : Int32) (x6 : Int32) (s0 : Int32) (M : Mem) (c11 : Int32 → Int32 → Int32 → Int32 → Int32 → Mem → Res) (hc11 : ∀ (x2 : Int32) (x3 : Int32) (x4 : Int32) (x5 : Int32) (x6 : Int32) (M : Mem), J X uX3_soonestBeast (gX E) 11 [(0, .ref (gad (gX E) 53)), (1, .ref (gad (gX E) k0)), (2, .int x2), (3, .int x3), (4, .int x4), (5, .int x5), (6, .int x6)] [] M (c11 x2 x3 x4 x5 x6 M)) : J X uX3_soonestBeast (gX E) 46 [(0, .ref (gad (gX E) 53)), (1, .ref (gad (gX E) k0)), (2, .int x2), (3, .int x3), (4, .int x4), (5, .int x5), (6, .int x6)] [.int s0] M (pX3_soonestBeast_46 fu k0 x2 x3 x4 x5 x6 s0 M c11) := by
  unfold pX3_soonestBeast_46
  refine j_istore (pc := 46) (lv' := [(7, .int s0), (0, .ref (gad (gX E) 53)), (1, .ref (gad (gX E) k0)), (2, .int x2), (3, .int x3), (4, .int x4), (5, .int x5), (6, .int x6)]) hX dX3_soonestBeast_46 (jb rfl) rfl ?_
  refine j_iload (pc := 48) hX 0 dX3_soonestBeast_48 rfl ?_
  refine j_bipush (pc := 50) (v := (-4 : Int32)) hX dX3_soonestBeast_50 cb_m4 ?_
  refine j_icmp_eq (pc := 52) hX 83 dX3_soonestBeast_52 (by decide) ?_ ?_
  · exact j_sub [1, 2, 3, 4, 5, 6, 7] rfl (wX3_soonestBeast_83 hX fu k0 hk0 x2 x3 x4 x5 x6 M c11 hc11)
  · refine j_iload (pc := 55) hX 0 dX3_soonestBeast_55 rfl ?_
    refine j_iload (pc := 57) hX 6 dX3_soonestBeast_57 rfl ?_
    refine j_icmp_ge (pc := 59) hX 83 dX3_soonestBeast_59 (by decide) ?_ ?_
    · exact j_sub [1, 2, 3, 4, 5, 6, 7] rfl (wX3_soonestBeast_83 hX fu k0 hk0 x2 x3 x4 x5 x6 M c11 hc11)
    · refine j_aload_n (pc := 62) hX 1 dX3_soonestBeast_62 rfl rfl ?_
      refine j_getR (pc := 63) (t := 54) hX (jb rfl) rfl (ci := 3) (C := RX3) (T := TX3) (N := 2) rfl (jb rfl) inX3 (j := 1) (jb rfl) rfl tw_201 dX3_soonestBeast_63 ?_
      refine j_iload (pc := 66) hX 7 dX3_soonestBeast_66 rfl ?_
      refine j_callV (pc := 68) hX [.int x6] (mX4_readOf _ E hX.2.2.2.2.2.2.2.2.1 fu 54 rfl x6 M) qX4_readOf tw_687 (jb rfl) rfl (ci := 4) (T := TX4) (N := 2) rfl (jb rfl) rfl ⟨rfl, rfl⟩ ⟨(Nat.le_of_ble_eq_true rfl), (Nat.le_of_ble_eq_true rfl)⟩ (Nat.le_of_ble_eq_true rfl) dX3_soonestBeast_68 (fun _ => rfl) rfl (fun r6 M5 => ?_)
      refine j_iload_n (pc := 71) hX 4 dX3_soonestBeast_71 rfl rfl ?_
      refine j_icmp_ne (pc := 72) hX 83 dX3_soonestBeast_72 (by decide) ?_ ?_
      · exact j_sub [1, 2, 3, 4, 5, 6, 7] rfl (wX3_soonestBeast_83 hX fu k0 hk0 x2 x3 x4 x5 x6 M5 c11 hc11)
      · refine j_iload (pc := 75) hX 7 dX3_soonestBeast_75 rfl ?_
        refine j_istore (pc := 77) (lv' := [(4, .int x6), (7, .int s0), (0, .ref (gad (gX E) 53)), (1, .ref (gad (gX E) k0)), (2, .int x2), (3, .int x3), (5, .int x5), (6, .int x6)]) hX dX3_soonestBeast_77 (jb rfl) rfl ?_
        refine j_iload (pc := 79) hX 1 dX3_soonestBeast_79 rfl ?_
        refine j_istore (pc := 81) (lv' := [(5, .int s0), (4, .int x6), (7, .int s0), (0, .ref (gad (gX E) 53)), (1, .ref (gad (gX E) k0)), (2, .int x2), (3, .int x3), (6, .int x6)]) hX dX3_soonestBeast_81 (jb rfl) rfl ?_
        exact j_sub [3, 4, 5, 6, 1, 0, 7] rfl (wX3_soonestBeast_83 hX fu k0 hk0 x2 x3 x6 s0 x6 M5 c11 hc11)
def pX3_soonestBeast_11b (fu : Nat) (k0 : Nat) (x2 : Int32) (x3 : Int32) (x4 : Int32) (x5 : Int32) (x6 : Int32) (M : Mem) (c11 : Int32 → Int32 → Int32 → Int32 → Int32 → Mem → Res) : Res :=
  bI (pX1_beasts fu 5 M) fun r2 M1 =>
  if r2 ≤ x6 then (
    some (x4, M1))
  else
  bI (pX3_trySending fu k0 x6 x3 x2 M1) fun r4 M3 =>
  if r4 = 0 then (
    pX3_soonestBeast_46 fu k0 x2 x3 x4 x5 x6 (-4 : Int32) M3 c11)
  else
  bI (pX3_awaitBeast fu x6 M3) fun r8 M7 =>
  pX3_soonestBeast_46 fu k0 x2 x3 x4 x5 x6 r8 M7 c11
set_option maxRecDepth 100000 in
theorem wX3_soonestBeast_11b {E : jE} {X : jC} (hX : jOk X uX3_soonestBeast (gX E)) (fu : Nat) (k0 : Nat) (hk0 : tX k0 = 4) (x2 : Int32) (x3 : Int32) (x4 : Int32) (x5 : Int32) (x6 : Int32) (M : Mem) (c11 : Int32 → Int32 → Int32 → Int32 → Int32 → Mem → Res) (hc11 : ∀ (x2 : Int32) (x3 : Int32) (x4 : Int32) (x5 : Int32) (x6 : Int32) (M : Mem), J X uX3_soonestBeast (gX E) 11 [(0, .ref (gad (gX E) 53)), (1, .ref (gad (gX E) k0)), (2, .int x2), (3, .int x3), (4, .int x4), (5, .int x5), (6, .int x6)] [] M (c11 x2 x3 x4 x5 x6 M)) : J X uX3_soonestBeast (gX E) 11 [(0, .ref (gad (gX E) 53)), (1, .ref (gad (gX E) k0)), (2, .int x2), (3, .int x3), (4, .int x4), (5, .int x5), (6, .int x6)] [] M (pX3_soonestBeast_11b fu k0 x2 x3 x4 x5 x6 M c11) := by
  unfold pX3_soonestBeast_11b
  refine j_iload (pc := 11) hX 6 dX3_soonestBeast_11 rfl ?_
  refine j_aload_n (pc := 13) hX 0 dX3_soonestBeast_13 rfl rfl ?_
  refine j_getR (pc := 14) (t := 5) hX (jb rfl) rfl (ci := 3) (C := RX3) (T := TX3) (N := 2) rfl (jb rfl) inX3 (j := 0) (jb rfl) rfl tw_200 dX3_soonestBeast_14 ?_
  refine j_callV (pc := 17) hX [] (mX1_beasts _ E hX.2.2.2.2.2.2.2.2.1 fu 5 rfl  M) qX1_beasts tw_696 (jb rfl) rfl (ci := 1) (T := TX1) (N := 13) rfl (jb rfl) rfl ⟨rfl, rfl⟩ ⟨(Nat.le_of_ble_eq_true rfl), (Nat.le_of_ble_eq_true rfl)⟩ (Nat.le_of_ble_eq_true rfl) dX3_soonestBeast_17 (fun _ => rfl) rfl (fun r2 M1 => ?_)
  refine j_icmp_ge (pc := 20) hX 89 dX3_soonestBeast_20 (by decide) ?_ ?_
  · refine j_iload (pc := 89) hX 4 dX3_soonestBeast_89 rfl ?_
    exact j_iret (pc := 91) hX rfl dX3_soonestBeast_91
  · refine j_aload_n (pc := 23) hX 0 dX3_soonestBeast_23 rfl rfl ?_
    refine j_aload_n (pc := 24) hX 1 dX3_soonestBeast_24 rfl rfl ?_
    refine j_iload (pc := 25) hX 6 dX3_soonestBeast_25 rfl ?_
    refine j_iload_n (pc := 27) hX 3 dX3_soonestBeast_27 rfl rfl ?_
    refine j_iload_n (pc := 28) hX 2 dX3_soonestBeast_28 rfl rfl ?_
    refine j_callV (pc := 29) hX [.ref (gad (gX E) k0), .int x6, .int x3, .int x2] (mX3_trySending _ E hX.2.2.2.2.2.2.2.2.1 fu k0 hk0 x6 x3 x2 M1) qX3_trySending tw_697 (jb rfl) rfl (ci := 3) (T := TX3) (N := 2) rfl (jb rfl) rfl ⟨rfl, rfl⟩ ⟨(Nat.le_of_ble_eq_true rfl), (Nat.le_of_ble_eq_true rfl)⟩ (Nat.le_of_ble_eq_true rfl) dX3_soonestBeast_29 (fun _ => rfl) rfl (fun r4 M3 => ?_)
    refine j_if_eq (pc := 32) hX 44 dX3_soonestBeast_32 (by decide) ?_ ?_
    · refine j_bipush (pc := 44) (v := (-4 : Int32)) hX dX3_soonestBeast_44 cb_m4 ?_
      exact j_sub [0, 1, 2, 3, 4, 5, 6] rfl (wX3_soonestBeast_46 hX fu k0 hk0 x2 x3 x4 x5 x6 (-4 : Int32) M3 c11 hc11)
    · refine j_aload_n (pc := 35) hX 0 dX3_soonestBeast_35 rfl rfl ?_
      refine j_iload (pc := 36) hX 6 dX3_soonestBeast_36 rfl ?_
      refine j_callV (pc := 38) hX [.int x6] (mX3_awaitBeast _ E hX.2.2.2.2.2.2.2.2.1 fu   x6 M3) qX3_awaitBeast tw_673 (jb rfl) rfl (ci := 3) (T := TX3) (N := 2) rfl (jb rfl) rfl ⟨rfl, rfl⟩ ⟨(Nat.le_of_ble_eq_true rfl), (Nat.le_of_ble_eq_true rfl)⟩ (Nat.le_of_ble_eq_true rfl) dX3_soonestBeast_38 (fun _ => rfl) rfl (fun r8 M7 => ?_)
      refine j_goto (pc := 41) hX 46 dX3_soonestBeast_41 (by decide) ?_
      exact j_sub [0, 1, 2, 3, 4, 5, 6] rfl (wX3_soonestBeast_46 hX fu k0 hk0 x2 x3 x4 x5 x6 r8 M7 c11 hc11)
def pX3_soonestBeast_11 (fu : Nat) (k0 : Nat)  : Nat → Int32 → Int32 → Int32 → Int32 → Int32 → Mem → Res
  | 0, _, _, _, _, _, _ => none
  | n + 1, x2, x3, x4, x5, x6, M => pX3_soonestBeast_11b fu k0 x2 x3 x4 x5 x6 M (pX3_soonestBeast_11 fu k0  n)
theorem wX3_soonestBeast_11 {E : jE} {X : jC} (hX : jOk X uX3_soonestBeast (gX E)) (fu : Nat) (k0 : Nat) (hk0 : tX k0 = 4)   : ∀ (n : Nat) (x2 : Int32) (x3 : Int32) (x4 : Int32) (x5 : Int32) (x6 : Int32) (M : Mem), J X uX3_soonestBeast (gX E) 11 [(0, .ref (gad (gX E) 53)), (1, .ref (gad (gX E) k0)), (2, .int x2), (3, .int x3), (4, .int x4), (5, .int x5), (6, .int x6)] [] M (pX3_soonestBeast_11 fu k0  n x2 x3 x4 x5 x6 M) := by
  intro n
  induction n with
  | zero => intro x2 x3 x4 x5 x6 M; exact j_none
  | succ n ih => intro x2 x3 x4 x5 x6 M; exact wX3_soonestBeast_11b hX fu k0 hk0 x2 x3 x4 x5 x6 M (pX3_soonestBeast_11 fu k0  n) ih
def pX3_soonestBeast (fu : Nat) (k0 : Nat) (x2 : Int32) (x3 : Int32) (M : Mem) : Res :=
  pX3_soonestBeast_11 fu k0
    fu x2 x3 (-4 : Int32) (100 : Int32) (0 : Int32) M
set_option maxRecDepth 100000 in
theorem wX3_soonestBeast {E : jE} {X : jC} (hX : jOk X uX3_soonestBeast (gX E)) (fu : Nat) (k0 : Nat) (hk0 : tX k0 = 4) (x2 : Int32) (x3 : Int32) (M : Mem) : J X uX3_soonestBeast (gX E) 0 [(0, .ref (gad (gX E) 53)), (1, .ref (gad (gX E) k0)), (2, .int x2), (3, .int x3)] [] M (pX3_soonestBeast fu k0 x2 x3 M) := by
  unfold pX3_soonestBeast
  refine j_bipush (pc := 0) (v := (-4 : Int32)) hX dX3_soonestBeast_0 cb_m4 ?_
  refine j_istore (pc := 2) (lv' := [(4, .int (-4 : Int32)), (0, .ref (gad (gX E) 53)), (1, .ref (gad (gX E) k0)), (2, .int x2), (3, .int x3)]) hX dX3_soonestBeast_2 (jb rfl) rfl ?_
  refine j_bipush (pc := 4) (v := (100 : Int32)) hX dX3_soonestBeast_4 cb_100 ?_
  refine j_istore (pc := 6) (lv' := [(5, .int (100 : Int32)), (4, .int (-4 : Int32)), (0, .ref (gad (gX E) 53)), (1, .ref (gad (gX E) k0)), (2, .int x2), (3, .int x3)]) hX dX3_soonestBeast_6 (jb rfl) rfl ?_
  refine j_iconst (pc := 8) (v := (0 : Int32)) hX dX3_soonestBeast_8 ci_0 ?_
  refine j_istore (pc := 9) (lv' := [(6, .int (0 : Int32)), (5, .int (100 : Int32)), (4, .int (-4 : Int32)), (0, .ref (gad (gX E) 53)), (1, .ref (gad (gX E) k0)), (2, .int x2), (3, .int x3)]) hX dX3_soonestBeast_9 (jb rfl) rfl ?_
  refine j_sub [3, 4, 5, 6, 2, 1, 0] rfl (wX3_soonestBeast_11 hX fu k0 hk0   fu x2 x3 (-4 : Int32) (100 : Int32) (0 : Int32) M)
theorem mX3_soonestBeast (l : Launch) (E : jE) (hI : jInj (gX E)) (fu : Nat) (k0 : Nat) (hk0 : tX k0 = 4) (x2 : Int32) (x3 : Int32) (M : Mem) : jMet l (gX E) yX3_soonestBeast cX3_soonestBeast 8 (some .int) rX3_soonestBeast [.ref (gad (gX E) 53), .ref (gad (gX E) k0), .int x2, .int x3] M (pX3_soonestBeast fu k0 x2 x3 M) :=
  j_entry hI (by decide +kernel) (Nat.le_of_ble_eq_true rfl) rfl (fun X _ hX => wX3_soonestBeast hX fu k0 hk0 x2 x3 M)
theorem qX3_verdictsReadAs : jYv yX3_verdictsReadAs cX3_verdictsReadAs 7 (some .int) 4 := ⟨tw_716, tw_717, tw_63, tw_718, ⟨by decide +kernel, by decide +kernel, by decide +kernel⟩⟩
abbrev rX3_verdictsReadAs : Room := { frames := 6, cells := 0, slots := 0, locals := 139 }
def uX3_verdictsReadAs : jM := (cX3_verdictsReadAs, 7, RX3, (some .int), rX3_verdictsReadAs)
def pX3_verdictsReadAs_61 (fu : Nat) (k0 : Nat) (x2 : Int32) (x4 : Int32) (x6 : Int32) (s0 : Int32) (s1 : Int32) (M : Mem) (c29 : Int32 → Int32 → Int32 → Int32 → Mem → Res) : Res :=
  c29 x2 x4 (s1 ||| s0) (x6 + (1 : Int32)) M
set_option maxRecDepth 100000 in
theorem wX3_verdictsReadAs_61 {E : jE} {X : jC} (hX : jOk X uX3_verdictsReadAs (gX E)) (fu : Nat) (k0 : Nat) (hk0 : tX k0 = 4) (x2 : Int32) (x4 : Int32) (x6 : Int32) (s0 : Int32) (s1 : Int32) (M : Mem) (c29 : Int32 → Int32 → Int32 → Int32 → Mem → Res) (hc29 : ∀ (x2 : Int32) (x4 : Int32) (x5 : Int32) (x6 : Int32) (M : Mem), J X uX3_verdictsReadAs (gX E) 29 [(0, .ref (gad (gX E) 53)), (2, .int x2), (4, .int x4), (5, .int x5), (6, .int x6)] [] M (c29 x2 x4 x5 x6 M)) : J X uX3_verdictsReadAs (gX E) 61 [(0, .ref (gad (gX E) 53)), (2, .int x2), (4, .int x4), (6, .int x6)] [.int s0, .int s1] M (pX3_verdictsReadAs_61 fu k0 x2 x4 x6 s0 s1 M c29) := by
  unfold pX3_verdictsReadAs_61
  refine j_ior (pc := 61) hX dX3_verdictsReadAs_61 ?_
  refine j_istore (pc := 62) (lv' := [(5, .int (s1 ||| s0)), (0, .ref (gad (gX E) 53)), (2, .int x2), (4, .int x4), (6, .int x6)]) hX dX3_verdictsReadAs_62 (jb rfl) rfl ?_
  refine j_iinc (pc := 64) (v := (x6 + (1 : Int32))) (lv' := [(6, .int (x6 + (1 : Int32))), (5, .int (s1 ||| s0)), (0, .ref (gad (gX E) 53)), (2, .int x2), (4, .int x4)]) hX 4 dX3_verdictsReadAs_64 rfl (by rw [ci_1]) (jb rfl) rfl ?_
  refine j_goto (pc := 67) hX 29 dX3_verdictsReadAs_67 (by decide) ?_
  exact j_sub [2, 3, 4, 1, 0] rfl (hc29 x2 x4 (s1 ||| s0) (x6 + (1 : Int32)) M)
def pX3_verdictsReadAs_29b (fu : Nat) (k0 : Nat) (x2 : Int32) (x4 : Int32) (x5 : Int32) (x6 : Int32) (M : Mem) (c29 : Int32 → Int32 → Int32 → Int32 → Mem → Res) : Res :=
  if (8 : Int32) ≤ x6 then (
    some (x5, M))
  else
  bI (pX4_readOf_ fu 54 x2 x6 M) fun r6 M5 =>
  if r6 = x4 then (
    pX3_verdictsReadAs_61 fu k0 x2 x4 x6 ((1 : Int32) <<< (x6 &&& 31)) x5 M5 c29)
  else
  pX3_verdictsReadAs_61 fu k0 x2 x4 x6 (0 : Int32) x5 M5 c29
set_option maxRecDepth 100000 in
theorem wX3_verdictsReadAs_29b {E : jE} {X : jC} (hX : jOk X uX3_verdictsReadAs (gX E)) (fu : Nat) (k0 : Nat) (hk0 : tX k0 = 4) (x2 : Int32) (x4 : Int32) (x5 : Int32) (x6 : Int32) (M : Mem) (c29 : Int32 → Int32 → Int32 → Int32 → Mem → Res) (hc29 : ∀ (x2 : Int32) (x4 : Int32) (x5 : Int32) (x6 : Int32) (M : Mem), J X uX3_verdictsReadAs (gX E) 29 [(0, .ref (gad (gX E) 53)), (2, .int x2), (4, .int x4), (5, .int x5), (6, .int x6)] [] M (c29 x2 x4 x5 x6 M)) : J X uX3_verdictsReadAs (gX E) 29 [(0, .ref (gad (gX E) 53)), (2, .int x2), (4, .int x4), (5, .int x5), (6, .int x6)] [] M (pX3_verdictsReadAs_29b fu k0 x2 x4 x5 x6 M c29) := by
  unfold pX3_verdictsReadAs_29b
  refine j_iload (pc := 29) hX 4 dX3_verdictsReadAs_29 rfl ?_
  refine j_bipush (pc := 31) (v := (8 : Int32)) hX dX3_verdictsReadAs_31 cb_8 ?_
  refine j_icmp_ge (pc := 33) hX 70 dX3_verdictsReadAs_33 (by decide) ?_ ?_
  · refine j_iload (pc := 70) hX 3 dX3_verdictsReadAs_70 rfl ?_
    exact j_iret (pc := 72) hX rfl dX3_verdictsReadAs_72
  · refine j_iload (pc := 36) hX 3 dX3_verdictsReadAs_36 rfl ?_
    refine j_aload_n (pc := 38) hX 0 dX3_verdictsReadAs_38 rfl rfl ?_
    refine j_getR (pc := 39) (t := 54) hX (jb rfl) rfl (ci := 3) (C := RX3) (T := TX3) (N := 2) rfl (jb rfl) inX3 (j := 1) (jb rfl) rfl tw_201 dX3_verdictsReadAs_39 ?_
    refine j_iload_n (pc := 42) hX 1 dX3_verdictsReadAs_42 rfl rfl ?_
    refine j_iload (pc := 43) hX 4 dX3_verdictsReadAs_43 rfl ?_
    refine j_callV (pc := 45) hX [.int x2, .int x6] (mX4_readOf_ _ E hX.2.2.2.2.2.2.2.2.1 fu 54 rfl x2 x6 M) qX4_readOf_ tw_719 (jb rfl) rfl (ci := 4) (T := TX4) (N := 2) rfl (jb rfl) rfl ⟨rfl, rfl⟩ ⟨(Nat.le_of_ble_eq_true rfl), (Nat.le_of_ble_eq_true rfl)⟩ (Nat.le_of_ble_eq_true rfl) dX3_verdictsReadAs_45 (fun _ => rfl) rfl (fun r6 M5 => ?_)
    refine j_iload (pc := 48) hX 2 dX3_verdictsReadAs_48 rfl ?_
    refine j_icmp_ne (pc := 50) hX 60 dX3_verdictsReadAs_50 (by decide) ?_ ?_
    · refine j_iconst (pc := 60) (v := (0 : Int32)) hX dX3_verdictsReadAs_60 ci_0 ?_
      exact j_sub [0, 1, 2, 4] rfl (wX3_verdictsReadAs_61 hX fu k0 hk0 x2 x4 x6 (0 : Int32) x5 M5 c29 hc29)
    · refine j_iconst (pc := 53) (v := (1 : Int32)) hX dX3_verdictsReadAs_53 ci_1 ?_
      refine j_iload (pc := 54) hX 4 dX3_verdictsReadAs_54 rfl ?_
      refine j_ishl (pc := 56) hX dX3_verdictsReadAs_56 ?_
      refine j_goto (pc := 57) hX 61 dX3_verdictsReadAs_57 (by decide) ?_
      exact j_sub [0, 1, 2, 4] rfl (wX3_verdictsReadAs_61 hX fu k0 hk0 x2 x4 x6 ((1 : Int32) <<< (x6 &&& 31)) x5 M5 c29 hc29)
def pX3_verdictsReadAs_29 (fu : Nat) (k0 : Nat)  : Nat → Int32 → Int32 → Int32 → Int32 → Mem → Res
  | 0, _, _, _, _, _ => none
  | n + 1, x2, x4, x5, x6, M => pX3_verdictsReadAs_29b fu k0 x2 x4 x5 x6 M (pX3_verdictsReadAs_29 fu k0  n)
theorem wX3_verdictsReadAs_29 {E : jE} {X : jC} (hX : jOk X uX3_verdictsReadAs (gX E)) (fu : Nat) (k0 : Nat) (hk0 : tX k0 = 4)   : ∀ (n : Nat) (x2 : Int32) (x4 : Int32) (x5 : Int32) (x6 : Int32) (M : Mem), J X uX3_verdictsReadAs (gX E) 29 [(0, .ref (gad (gX E) 53)), (2, .int x2), (4, .int x4), (5, .int x5), (6, .int x6)] [] M (pX3_verdictsReadAs_29 fu k0  n x2 x4 x5 x6 M) := by
  intro n
  induction n with
  | zero => intro x2 x4 x5 x6 M; exact j_none
  | succ n ih => intro x2 x4 x5 x6 M; exact wX3_verdictsReadAs_29b hX fu k0 hk0 x2 x4 x5 x6 M (pX3_verdictsReadAs_29 fu k0  n) ih
def pX3_verdictsReadAs (fu : Nat) (k0 : Nat) (x2 : Int32) (x3 : Int32) (x4 : Int32) (M : Mem) : Res :=
  bI (pX3_trySending fu k0 x2 (0 : Int32) x3 M) fun r2 M1 =>
  if r2 = 0 then (
    some ((0 : Int32), M1))
  else
  bI (pX3_awaitBeast fu x2 M1) fun r4 M3 =>
  if r4 = (-4 : Int32) then (
    some ((0 : Int32), M3))
  else
  pX3_verdictsReadAs_29 fu k0
    fu x2 x4 (0 : Int32) (0 : Int32) M3
set_option maxRecDepth 100000 in
theorem wX3_verdictsReadAs {E : jE} {X : jC} (hX : jOk X uX3_verdictsReadAs (gX E)) (fu : Nat) (k0 : Nat) (hk0 : tX k0 = 4) (x2 : Int32) (x3 : Int32) (x4 : Int32) (M : Mem) : J X uX3_verdictsReadAs (gX E) 0 [(0, .ref (gad (gX E) 53)), (1, .ref (gad (gX E) k0)), (2, .int x2), (3, .int x3), (4, .int x4)] [] M (pX3_verdictsReadAs fu k0 x2 x3 x4 M) := by
  unfold pX3_verdictsReadAs
  refine j_aload_n (pc := 0) hX 0 dX3_verdictsReadAs_0 rfl rfl ?_
  refine j_aload_n (pc := 1) hX 1 dX3_verdictsReadAs_1 rfl rfl ?_
  refine j_iload_n (pc := 2) hX 2 dX3_verdictsReadAs_2 rfl rfl ?_
  refine j_iconst (pc := 3) (v := (0 : Int32)) hX dX3_verdictsReadAs_3 ci_0 ?_
  refine j_iload_n (pc := 4) hX 3 dX3_verdictsReadAs_4 rfl rfl ?_
  refine j_callV (pc := 5) hX [.ref (gad (gX E) k0), .int x2, .int (0 : Int32), .int x3] (mX3_trySending _ E hX.2.2.2.2.2.2.2.2.1 fu k0 hk0 x2 (0 : Int32) x3 M) qX3_trySending tw_697 (jb rfl) rfl (ci := 3) (T := TX3) (N := 2) rfl (jb rfl) rfl ⟨rfl, rfl⟩ ⟨(Nat.le_of_ble_eq_true rfl), (Nat.le_of_ble_eq_true rfl)⟩ (Nat.le_of_ble_eq_true rfl) dX3_verdictsReadAs_5 (fun _ => rfl) rfl (fun r2 M1 => ?_)
  refine j_if_eq (pc := 8) hX 21 dX3_verdictsReadAs_8 (by decide) ?_ ?_
  · refine j_iconst (pc := 21) (v := (0 : Int32)) hX dX3_verdictsReadAs_21 ci_0 ?_
    exact j_iret (pc := 22) hX rfl dX3_verdictsReadAs_22
  · refine j_aload_n (pc := 11) hX 0 dX3_verdictsReadAs_11 rfl rfl ?_
    refine j_iload_n (pc := 12) hX 2 dX3_verdictsReadAs_12 rfl rfl ?_
    refine j_callV (pc := 13) hX [.int x2] (mX3_awaitBeast _ E hX.2.2.2.2.2.2.2.2.1 fu   x2 M1) qX3_awaitBeast tw_673 (jb rfl) rfl (ci := 3) (T := TX3) (N := 2) rfl (jb rfl) rfl ⟨rfl, rfl⟩ ⟨(Nat.le_of_ble_eq_true rfl), (Nat.le_of_ble_eq_true rfl)⟩ (Nat.le_of_ble_eq_true rfl) dX3_verdictsReadAs_13 (fun _ => rfl) rfl (fun r4 M3 => ?_)
    refine j_bipush (pc := 16) (v := (-4 : Int32)) hX dX3_verdictsReadAs_16 cb_m4 ?_
    refine j_icmp_ne (pc := 18) hX 23 dX3_verdictsReadAs_18 (by decide) ?_ ?_
    · refine j_iconst (pc := 23) (v := (0 : Int32)) hX dX3_verdictsReadAs_23 ci_0 ?_
      refine j_istore (pc := 24) (lv' := [(5, .int (0 : Int32)), (0, .ref (gad (gX E) 53)), (1, .ref (gad (gX E) k0)), (2, .int x2), (3, .int x3), (4, .int x4)]) hX dX3_verdictsReadAs_24 (jb rfl) rfl ?_
      refine j_iconst (pc := 26) (v := (0 : Int32)) hX dX3_verdictsReadAs_26 ci_0 ?_
      refine j_istore (pc := 27) (lv' := [(6, .int (0 : Int32)), (5, .int (0 : Int32)), (0, .ref (gad (gX E) 53)), (1, .ref (gad (gX E) k0)), (2, .int x2), (3, .int x3), (4, .int x4)]) hX dX3_verdictsReadAs_27 (jb rfl) rfl ?_
      refine j_sub [2, 4, 6, 1, 0] rfl (wX3_verdictsReadAs_29 hX fu k0 hk0   fu x2 x4 (0 : Int32) (0 : Int32) M3)
    · refine j_iconst (pc := 21) (v := (0 : Int32)) hX dX3_verdictsReadAs_21 ci_0 ?_
      exact j_iret (pc := 22) hX rfl dX3_verdictsReadAs_22
theorem mX3_verdictsReadAs (l : Launch) (E : jE) (hI : jInj (gX E)) (fu : Nat) (k0 : Nat) (hk0 : tX k0 = 4) (x2 : Int32) (x3 : Int32) (x4 : Int32) (M : Mem) : jMet l (gX E) yX3_verdictsReadAs cX3_verdictsReadAs 7 (some .int) rX3_verdictsReadAs [.ref (gad (gX E) 53), .ref (gad (gX E) k0), .int x2, .int x3, .int x4] M (pX3_verdictsReadAs fu k0 x2 x3 x4 M) :=
  j_entry hI (by decide +kernel) (Nat.le_of_ble_eq_true rfl) rfl (fun X _ hX => wX3_verdictsReadAs hX fu k0 hk0 x2 x3 x4 M)
theorem qX3_luringPlace : jYv yX3_luringPlace cX3_luringPlace 6 (some .int) 2 := ⟨tw_767, tw_768, tw_63, tw_769, ⟨by decide +kernel, by decide +kernel, by decide +kernel⟩⟩
abbrev rX3_luringPlace : Room := { frames := 6, cells := 0, slots := 0, locals := 139 }
def uX3_luringPlace : jM := (cX3_luringPlace, 6, RX3, (some .int), rX3_luringPlace)
def pX3_luringPlace_115 (fu : Nat) (k0 : Nat) (x2 : Int32) (x3 : Int32) (x4 : Int32) (x5 : Int32) (M : Mem) (c38 : Int32 → Int32 → Int32 → Int32 → Mem → Res) : Res :=
  c38 x2 x3 x4 (x5 + (1 : Int32)) M
set_option maxRecDepth 100000 in
theorem wX3_luringPlace_115 {E : jE} {X : jC} (hX : jOk X uX3_luringPlace (gX E)) (fu : Nat) (k0 : Nat) (hk0 : tX k0 = 4) (x2 : Int32) (x3 : Int32) (x4 : Int32) (x5 : Int32) (M : Mem) (c38 : Int32 → Int32 → Int32 → Int32 → Mem → Res) (hc38 : ∀ (x2 : Int32) (x3 : Int32) (x4 : Int32) (x5 : Int32) (M : Mem), J X uX3_luringPlace (gX E) 38 [(0, .ref (gad (gX E) 53)), (1, .ref (gad (gX E) k0)), (2, .int x2), (3, .int x3), (4, .int x4), (5, .int x5)] [] M (c38 x2 x3 x4 x5 M)) : J X uX3_luringPlace (gX E) 115 [(0, .ref (gad (gX E) 53)), (1, .ref (gad (gX E) k0)), (2, .int x2), (3, .int x3), (4, .int x4), (5, .int x5)] [] M (pX3_luringPlace_115 fu k0 x2 x3 x4 x5 M c38) := by
  unfold pX3_luringPlace_115
  refine j_iinc (pc := 115) (v := (x5 + (1 : Int32))) (lv' := [(5, .int (x5 + (1 : Int32))), (0, .ref (gad (gX E) 53)), (1, .ref (gad (gX E) k0)), (2, .int x2), (3, .int x3), (4, .int x4)]) hX 5 dX3_luringPlace_115 rfl (by rw [ci_1]) (jb rfl) rfl ?_
  refine j_goto (pc := 118) hX 38 dX3_luringPlace_118 (by decide) ?_
  exact j_sub [1, 2, 3, 4, 5, 0] rfl (hc38 x2 x3 x4 (x5 + (1 : Int32)) M)
def pX3_luringPlace_38b (fu : Nat) (k0 : Nat) (x2 : Int32) (x3 : Int32) (x4 : Int32) (x5 : Int32) (M : Mem) (c38 : Int32 → Int32 → Int32 → Int32 → Mem → Res) : Res :=
  bI (pX1_places fu 5 M) fun r7 M6 =>
  if r7 ≤ x5 then (
    some (x4, M6))
  else
  bV (pX4_copy fu 54 k0 M6) fun M8 =>
  bI (pX4_carrotsIn fu k0 x5 M8) fun r10 M9 =>
  bV (pX4_putCarrots fu 54 x5 (imin (r10 + (1 : Int32)) (9 : Int32)) M9) fun M11 =>
  bI (pX3_awaitBeast fu x2 M11) fun r13 M12 =>
  if r13 = (-4 : Int32) then (
    pX3_luringPlace_115 fu k0 x2 x3 x4 x5 M12 c38)
  else
  bI (pX4_readOf fu 54 x2 M12) fun r15 M14 =>
  if x3 ≤ r15 then (
    pX3_luringPlace_115 fu k0 x2 x3 x4 x5 M14 c38)
  else
  bI (pX4_readOf fu 54 x2 M14) fun r17 M16 =>
  pX3_luringPlace_115 fu k0 x2 r17 x5 x5 M16 c38
set_option maxRecDepth 100000 in
theorem wX3_luringPlace_38b {E : jE} {X : jC} (hX : jOk X uX3_luringPlace (gX E)) (fu : Nat) (k0 : Nat) (hk0 : tX k0 = 4) (x2 : Int32) (x3 : Int32) (x4 : Int32) (x5 : Int32) (M : Mem) (c38 : Int32 → Int32 → Int32 → Int32 → Mem → Res) (hc38 : ∀ (x2 : Int32) (x3 : Int32) (x4 : Int32) (x5 : Int32) (M : Mem), J X uX3_luringPlace (gX E) 38 [(0, .ref (gad (gX E) 53)), (1, .ref (gad (gX E) k0)), (2, .int x2), (3, .int x3), (4, .int x4), (5, .int x5)] [] M (c38 x2 x3 x4 x5 M)) : J X uX3_luringPlace (gX E) 38 [(0, .ref (gad (gX E) 53)), (1, .ref (gad (gX E) k0)), (2, .int x2), (3, .int x3), (4, .int x4), (5, .int x5)] [] M (pX3_luringPlace_38b fu k0 x2 x3 x4 x5 M c38) := by
  unfold pX3_luringPlace_38b
  refine j_iload (pc := 38) hX 5 dX3_luringPlace_38 rfl ?_
  refine j_aload_n (pc := 40) hX 0 dX3_luringPlace_40 rfl rfl ?_
  refine j_getR (pc := 41) (t := 5) hX (jb rfl) rfl (ci := 3) (C := RX3) (T := TX3) (N := 2) rfl (jb rfl) inX3 (j := 0) (jb rfl) rfl tw_200 dX3_luringPlace_41 ?_
  refine j_callV (pc := 44) hX [] (mX1_places _ E hX.2.2.2.2.2.2.2.2.1 fu 5 rfl  M) qX1_places tw_770 (jb rfl) rfl (ci := 1) (T := TX1) (N := 13) rfl (jb rfl) rfl ⟨rfl, rfl⟩ ⟨(Nat.le_of_ble_eq_true rfl), (Nat.le_of_ble_eq_true rfl)⟩ (Nat.le_of_ble_eq_true rfl) dX3_luringPlace_44 (fun _ => rfl) rfl (fun r7 M6 => ?_)
  refine j_icmp_ge (pc := 47) hX 121 dX3_luringPlace_47 (by decide) ?_ ?_
  · refine j_iload (pc := 121) hX 4 dX3_luringPlace_121 rfl ?_
    exact j_iret (pc := 123) hX rfl dX3_luringPlace_123
  · refine j_aload_n (pc := 50) hX 0 dX3_luringPlace_50 rfl rfl ?_
    refine j_getR (pc := 51) (t := 54) hX (jb rfl) rfl (ci := 3) (C := RX3) (T := TX3) (N := 2) rfl (jb rfl) inX3 (j := 1) (jb rfl) rfl tw_201 dX3_luringPlace_51 ?_
    refine j_aload_n (pc := 54) hX 1 dX3_luringPlace_54 rfl rfl ?_
    refine j_callVv (pc := 55) hX [.ref (gad (gX E) k0)] (mX4_copy _ E hX.2.2.2.2.2.2.2.2.1 fu 54 k0 rfl hk0  M6) qX4_copy tw_672 (jb rfl) rfl (ci := 4) (T := TX4) (N := 2) rfl (jb rfl) rfl ⟨rfl, rfl⟩ ⟨(Nat.le_of_ble_eq_true rfl), (Nat.le_of_ble_eq_true rfl)⟩ (Nat.le_of_ble_eq_true rfl) dX3_luringPlace_55 rfl (fun M8 => ?_)
    refine j_aload_n (pc := 58) hX 0 dX3_luringPlace_58 rfl rfl ?_
    refine j_getR (pc := 59) (t := 54) hX (jb rfl) rfl (ci := 3) (C := RX3) (T := TX3) (N := 2) rfl (jb rfl) inX3 (j := 1) (jb rfl) rfl tw_201 dX3_luringPlace_59 ?_
    refine j_iload (pc := 62) hX 5 dX3_luringPlace_62 rfl ?_
    refine j_aload_n (pc := 64) hX 1 dX3_luringPlace_64 rfl rfl ?_
    refine j_iload (pc := 65) hX 5 dX3_luringPlace_65 rfl ?_
    refine j_callV (pc := 67) hX [.int x5] (mX4_carrotsIn _ E hX.2.2.2.2.2.2.2.2.1 fu k0 hk0 x5 M8) qX4_carrotsIn tw_771 (hh hk0).1 hk0 (ci := 4) (T := TX4) (N := 2) rfl (jb rfl) rfl ⟨rfl, rfl⟩ ⟨(Nat.le_of_ble_eq_true rfl), (Nat.le_of_ble_eq_true rfl)⟩ (Nat.le_of_ble_eq_true rfl) dX3_luringPlace_67 (fun _ => rfl) rfl (fun r10 M9 => ?_)
    refine j_iconst (pc := 70) (v := (1 : Int32)) hX dX3_luringPlace_70 ci_1 ?_
    refine j_iadd (pc := 71) hX dX3_luringPlace_71 ?_
    refine j_bipush (pc := 72) (v := (9 : Int32)) hX dX3_luringPlace_72 cb_9 ?_
    refine j_min (pc := 74) hX tw_772 tw_376 tw_71 tw_377 (Nat.le_of_ble_eq_true rfl) (Nat.le_of_ble_eq_true rfl) dX3_luringPlace_74 ?_
    refine j_callVv (pc := 77) hX [.int x5, .int (imin (r10 + (1 : Int32)) (9 : Int32))] (mX4_putCarrots _ E hX.2.2.2.2.2.2.2.2.1 fu 54 rfl x5 (imin (r10 + (1 : Int32)) (9 : Int32)) M9) qX4_putCarrots tw_773 (jb rfl) rfl (ci := 4) (T := TX4) (N := 2) rfl (jb rfl) rfl ⟨rfl, rfl⟩ ⟨(Nat.le_of_ble_eq_true rfl), (Nat.le_of_ble_eq_true rfl)⟩ (Nat.le_of_ble_eq_true rfl) dX3_luringPlace_77 rfl (fun M11 => ?_)
    refine j_aload_n (pc := 80) hX 0 dX3_luringPlace_80 rfl rfl ?_
    refine j_iload_n (pc := 81) hX 2 dX3_luringPlace_81 rfl rfl ?_
    refine j_callV (pc := 82) hX [.int x2] (mX3_awaitBeast _ E hX.2.2.2.2.2.2.2.2.1 fu   x2 M11) qX3_awaitBeast tw_673 (jb rfl) rfl (ci := 3) (T := TX3) (N := 2) rfl (jb rfl) rfl ⟨rfl, rfl⟩ ⟨(Nat.le_of_ble_eq_true rfl), (Nat.le_of_ble_eq_true rfl)⟩ (Nat.le_of_ble_eq_true rfl) dX3_luringPlace_82 (fun _ => rfl) rfl (fun r13 M12 => ?_)
    refine j_bipush (pc := 85) (v := (-4 : Int32)) hX dX3_luringPlace_85 cb_m4 ?_
    refine j_icmp_eq (pc := 87) hX 115 dX3_luringPlace_87 (by decide) ?_ ?_
    · exact j_sub [0, 1, 2, 3, 4, 5] rfl (wX3_luringPlace_115 hX fu k0 hk0 x2 x3 x4 x5 M12 c38 hc38)
    · refine j_aload_n (pc := 90) hX 0 dX3_luringPlace_90 rfl rfl ?_
      refine j_getR (pc := 91) (t := 54) hX (jb rfl) rfl (ci := 3) (C := RX3) (T := TX3) (N := 2) rfl (jb rfl) inX3 (j := 1) (jb rfl) rfl tw_201 dX3_luringPlace_91 ?_
      refine j_iload_n (pc := 94) hX 2 dX3_luringPlace_94 rfl rfl ?_
      refine j_callV (pc := 95) hX [.int x2] (mX4_readOf _ E hX.2.2.2.2.2.2.2.2.1 fu 54 rfl x2 M12) qX4_readOf tw_687 (jb rfl) rfl (ci := 4) (T := TX4) (N := 2) rfl (jb rfl) rfl ⟨rfl, rfl⟩ ⟨(Nat.le_of_ble_eq_true rfl), (Nat.le_of_ble_eq_true rfl)⟩ (Nat.le_of_ble_eq_true rfl) dX3_luringPlace_95 (fun _ => rfl) rfl (fun r15 M14 => ?_)
      refine j_iload_n (pc := 98) hX 3 dX3_luringPlace_98 rfl rfl ?_
      refine j_icmp_ge (pc := 99) hX 115 dX3_luringPlace_99 (by decide) ?_ ?_
      · exact j_sub [0, 1, 2, 3, 4, 5] rfl (wX3_luringPlace_115 hX fu k0 hk0 x2 x3 x4 x5 M14 c38 hc38)
      · refine j_aload_n (pc := 102) hX 0 dX3_luringPlace_102 rfl rfl ?_
        refine j_getR (pc := 103) (t := 54) hX (jb rfl) rfl (ci := 3) (C := RX3) (T := TX3) (N := 2) rfl (jb rfl) inX3 (j := 1) (jb rfl) rfl tw_201 dX3_luringPlace_103 ?_
        refine j_iload_n (pc := 106) hX 2 dX3_luringPlace_106 rfl rfl ?_
        refine j_callV (pc := 107) hX [.int x2] (mX4_readOf _ E hX.2.2.2.2.2.2.2.2.1 fu 54 rfl x2 M14) qX4_readOf tw_687 (jb rfl) rfl (ci := 4) (T := TX4) (N := 2) rfl (jb rfl) rfl ⟨rfl, rfl⟩ ⟨(Nat.le_of_ble_eq_true rfl), (Nat.le_of_ble_eq_true rfl)⟩ (Nat.le_of_ble_eq_true rfl) dX3_luringPlace_107 (fun _ => rfl) rfl (fun r17 M16 => ?_)
        refine j_istore_n (pc := 110) (lv' := [(3, .int r17), (0, .ref (gad (gX E) 53)), (1, .ref (gad (gX E) k0)), (2, .int x2), (4, .int x4), (5, .int x5)]) hX dX3_luringPlace_110 rfl (jb rfl) rfl ?_
        refine j_iload (pc := 111) hX 5 dX3_luringPlace_111 rfl ?_
        refine j_istore (pc := 113) (lv' := [(4, .int x5), (3, .int r17), (0, .ref (gad (gX E) 53)), (1, .ref (gad (gX E) k0)), (2, .int x2), (5, .int x5)]) hX dX3_luringPlace_113 (jb rfl) rfl ?_
        exact j_sub [2, 3, 4, 1, 0, 5] rfl (wX3_luringPlace_115 hX fu k0 hk0 x2 r17 x5 x5 M16 c38 hc38)
def pX3_luringPlace_38 (fu : Nat) (k0 : Nat)  : Nat → Int32 → Int32 → Int32 → Int32 → Mem → Res
  | 0, _, _, _, _, _ => none
  | n + 1, x2, x3, x4, x5, M => pX3_luringPlace_38b fu k0 x2 x3 x4 x5 M (pX3_luringPlace_38 fu k0  n)
theorem wX3_luringPlace_38 {E : jE} {X : jC} (hX : jOk X uX3_luringPlace (gX E)) (fu : Nat) (k0 : Nat) (hk0 : tX k0 = 4)   : ∀ (n : Nat) (x2 : Int32) (x3 : Int32) (x4 : Int32) (x5 : Int32) (M : Mem), J X uX3_luringPlace (gX E) 38 [(0, .ref (gad (gX E) 53)), (1, .ref (gad (gX E) k0)), (2, .int x2), (3, .int x3), (4, .int x4), (5, .int x5)] [] M (pX3_luringPlace_38 fu k0  n x2 x3 x4 x5 M) := by
  intro n
  induction n with
  | zero => intro x2 x3 x4 x5 M; exact j_none
  | succ n ih => intro x2 x3 x4 x5 M; exact wX3_luringPlace_38b hX fu k0 hk0 x2 x3 x4 x5 M (pX3_luringPlace_38 fu k0  n) ih
def pX3_luringPlace_30 (fu : Nat) (k0 : Nat) (x2 : Int32) (s0 : Int32) (M : Mem)  : Res :=
  pX3_luringPlace_38 fu k0
    fu x2 s0 (-4 : Int32) (0 : Int32) M
set_option maxRecDepth 100000 in
theorem wX3_luringPlace_30 {E : jE} {X : jC} (hX : jOk X uX3_luringPlace (gX E)) (fu : Nat) (k0 : Nat) (hk0 : tX k0 = 4) (x2 : Int32) (s0 : Int32) (M : Mem)   : J X uX3_luringPlace (gX E) 30 [(0, .ref (gad (gX E) 53)), (1, .ref (gad (gX E) k0)), (2, .int x2)] [.int s0] M (pX3_luringPlace_30 fu k0 x2 s0 M ) := by
  unfold pX3_luringPlace_30
  refine j_istore_n (pc := 30) (lv' := [(3, .int s0), (0, .ref (gad (gX E) 53)), (1, .ref (gad (gX E) k0)), (2, .int x2)]) hX dX3_luringPlace_30 rfl (jb rfl) rfl ?_
  refine j_bipush (pc := 31) (v := (-4 : Int32)) hX dX3_luringPlace_31 cb_m4 ?_
  refine j_istore (pc := 33) (lv' := [(4, .int (-4 : Int32)), (3, .int s0), (0, .ref (gad (gX E) 53)), (1, .ref (gad (gX E) k0)), (2, .int x2)]) hX dX3_luringPlace_33 (jb rfl) rfl ?_
  refine j_iconst (pc := 35) (v := (0 : Int32)) hX dX3_luringPlace_35 ci_0 ?_
  refine j_istore (pc := 36) (lv' := [(5, .int (0 : Int32)), (4, .int (-4 : Int32)), (3, .int s0), (0, .ref (gad (gX E) 53)), (1, .ref (gad (gX E) k0)), (2, .int x2)]) hX dX3_luringPlace_36 (jb rfl) rfl ?_
  refine j_sub [3, 4, 5, 2, 1, 0] rfl (wX3_luringPlace_38 hX fu k0 hk0   fu x2 s0 (-4 : Int32) (0 : Int32) M)
def pX3_luringPlace (fu : Nat) (k0 : Nat) (x2 : Int32) (M : Mem) : Res :=
  bV (pX4_copy fu 54 k0 M) fun M1 =>
  bI (pX3_awaitBeast fu x2 M1) fun r3 M2 =>
  if r3 = (-4 : Int32) then (
    pX3_luringPlace_30 fu k0 x2 (0 : Int32) M2 )
  else
  bI (pX4_readOf fu 54 x2 M2) fun r5 M4 =>
  pX3_luringPlace_30 fu k0 x2 r5 M4 
set_option maxRecDepth 100000 in
theorem wX3_luringPlace {E : jE} {X : jC} (hX : jOk X uX3_luringPlace (gX E)) (fu : Nat) (k0 : Nat) (hk0 : tX k0 = 4) (x2 : Int32) (M : Mem) : J X uX3_luringPlace (gX E) 0 [(0, .ref (gad (gX E) 53)), (1, .ref (gad (gX E) k0)), (2, .int x2)] [] M (pX3_luringPlace fu k0 x2 M) := by
  unfold pX3_luringPlace
  refine j_aload_n (pc := 0) hX 0 dX3_luringPlace_0 rfl rfl ?_
  refine j_getR (pc := 1) (t := 54) hX (jb rfl) rfl (ci := 3) (C := RX3) (T := TX3) (N := 2) rfl (jb rfl) inX3 (j := 1) (jb rfl) rfl tw_201 dX3_luringPlace_1 ?_
  refine j_aload_n (pc := 4) hX 1 dX3_luringPlace_4 rfl rfl ?_
  refine j_callVv (pc := 5) hX [.ref (gad (gX E) k0)] (mX4_copy _ E hX.2.2.2.2.2.2.2.2.1 fu 54 k0 rfl hk0  M) qX4_copy tw_672 (jb rfl) rfl (ci := 4) (T := TX4) (N := 2) rfl (jb rfl) rfl ⟨rfl, rfl⟩ ⟨(Nat.le_of_ble_eq_true rfl), (Nat.le_of_ble_eq_true rfl)⟩ (Nat.le_of_ble_eq_true rfl) dX3_luringPlace_5 rfl (fun M1 => ?_)
  refine j_aload_n (pc := 8) hX 0 dX3_luringPlace_8 rfl rfl ?_
  refine j_iload_n (pc := 9) hX 2 dX3_luringPlace_9 rfl rfl ?_
  refine j_callV (pc := 10) hX [.int x2] (mX3_awaitBeast _ E hX.2.2.2.2.2.2.2.2.1 fu   x2 M1) qX3_awaitBeast tw_673 (jb rfl) rfl (ci := 3) (T := TX3) (N := 2) rfl (jb rfl) rfl ⟨rfl, rfl⟩ ⟨(Nat.le_of_ble_eq_true rfl), (Nat.le_of_ble_eq_true rfl)⟩ (Nat.le_of_ble_eq_true rfl) dX3_luringPlace_10 (fun _ => rfl) rfl (fun r3 M2 => ?_)
  refine j_bipush (pc := 13) (v := (-4 : Int32)) hX dX3_luringPlace_13 cb_m4 ?_
  refine j_icmp_ne (pc := 15) hX 22 dX3_luringPlace_15 (by decide) ?_ ?_
  · refine j_aload_n (pc := 22) hX 0 dX3_luringPlace_22 rfl rfl ?_
    refine j_getR (pc := 23) (t := 54) hX (jb rfl) rfl (ci := 3) (C := RX3) (T := TX3) (N := 2) rfl (jb rfl) inX3 (j := 1) (jb rfl) rfl tw_201 dX3_luringPlace_23 ?_
    refine j_iload_n (pc := 26) hX 2 dX3_luringPlace_26 rfl rfl ?_
    refine j_callV (pc := 27) hX [.int x2] (mX4_readOf _ E hX.2.2.2.2.2.2.2.2.1 fu 54 rfl x2 M2) qX4_readOf tw_687 (jb rfl) rfl (ci := 4) (T := TX4) (N := 2) rfl (jb rfl) rfl ⟨rfl, rfl⟩ ⟨(Nat.le_of_ble_eq_true rfl), (Nat.le_of_ble_eq_true rfl)⟩ (Nat.le_of_ble_eq_true rfl) dX3_luringPlace_27 (fun _ => rfl) rfl (fun r5 M4 => ?_)
    exact j_sub [0, 1, 2] rfl (wX3_luringPlace_30 hX fu k0 hk0 x2 r5 M4  )
  · refine j_iconst (pc := 18) (v := (0 : Int32)) hX dX3_luringPlace_18 ci_0 ?_
    refine j_goto (pc := 19) hX 30 dX3_luringPlace_19 (by decide) ?_
    exact j_sub [0, 1, 2] rfl (wX3_luringPlace_30 hX fu k0 hk0 x2 (0 : Int32) M2  )
theorem mX3_luringPlace (l : Launch) (E : jE) (hI : jInj (gX E)) (fu : Nat) (k0 : Nat) (hk0 : tX k0 = 4) (x2 : Int32) (M : Mem) : jMet l (gX E) yX3_luringPlace cX3_luringPlace 6 (some .int) rX3_luringPlace [.ref (gad (gX E) 53), .ref (gad (gX E) k0), .int x2] M (pX3_luringPlace fu k0 x2 M) :=
  j_entry hI (by decide +kernel) (Nat.le_of_ble_eq_true rfl) rfl (fun X _ hX => wX3_luringPlace hX fu k0 hk0 x2 M)
theorem qX3_hoursTillMeeting : jYv yX3_hoursTillMeeting cX3_hoursTillMeeting 6 (some .int) 3 := ⟨tw_788, tw_789, tw_63, tw_790, ⟨by decide +kernel, by decide +kernel, by decide +kernel⟩⟩
abbrev rX3_hoursTillMeeting : Room := { frames := 5, cells := 0, slots := 0, locals := 117 }
def uX3_hoursTillMeeting : jM := (cX3_hoursTillMeeting, 6, RX3, (some .int), rX3_hoursTillMeeting)
def pX3_hoursTillMeeting_58 (fu : Nat) (k0 : Nat) (x2 : Int32) (x3 : Int32) (x4 : Int32) (M : Mem) (c11 : Int32 → Int32 → Int32 → Mem → Res) : Res :=
  bV (pX4_goOn fu 54 (-4 : Int32) M) fun M6 =>
  c11 x2 x3 (x4 + (1 : Int32)) M6
set_option maxRecDepth 100000 in
theorem wX3_hoursTillMeeting_58 {E : jE} {X : jC} (hX : jOk X uX3_hoursTillMeeting (gX E)) (fu : Nat) (k0 : Nat) (hk0 : tX k0 = 4) (x2 : Int32) (x3 : Int32) (x4 : Int32) (M : Mem) (c11 : Int32 → Int32 → Int32 → Mem → Res) (hc11 : ∀ (x2 : Int32) (x3 : Int32) (x4 : Int32) (M : Mem), J X uX3_hoursTillMeeting (gX E) 11 [(0, .ref (gad (gX E) 53)), (2, .int x2), (3, .int x3), (4, .int x4)] [] M (c11 x2 x3 x4 M)) : J X uX3_hoursTillMeeting (gX E) 58 [(0, .ref (gad (gX E) 53)), (2, .int x2), (3, .int x3), (4, .int x4)] [] M (pX3_hoursTillMeeting_58 fu k0 x2 x3 x4 M c11) := by
  unfold pX3_hoursTillMeeting_58
  refine j_aload_n (pc := 58) hX 0 dX3_hoursTillMeeting_58 rfl rfl ?_
  refine j_getR (pc := 59) (t := 54) hX (jb rfl) rfl (ci := 3) (C := RX3) (T := TX3) (N := 2) rfl (jb rfl) inX3 (j := 1) (jb rfl) rfl tw_201 dX3_hoursTillMeeting_59 ?_
  refine j_bipush (pc := 62) (v := (-4 : Int32)) hX dX3_hoursTillMeeting_62 cb_m4 ?_
  refine j_callVv (pc := 64) hX [.int (-4 : Int32)] (mX4_goOn _ E hX.2.2.2.2.2.2.2.2.1 fu 54 rfl (-4 : Int32) M) qX4_goOn tw_678 (jb rfl) rfl (ci := 4) (T := TX4) (N := 2) rfl (jb rfl) rfl ⟨rfl, rfl⟩ ⟨(Nat.le_of_ble_eq_true rfl), (Nat.le_of_ble_eq_true rfl)⟩ (Nat.le_of_ble_eq_true rfl) dX3_hoursTillMeeting_64 rfl (fun M6 => ?_)
  refine j_iinc (pc := 67) (v := (x4 + (1 : Int32))) (lv' := [(4, .int (x4 + (1 : Int32))), (0, .ref (gad (gX E) 53)), (2, .int x2), (3, .int x3)]) hX 3 dX3_hoursTillMeeting_67 rfl (by rw [ci_1]) (jb rfl) rfl ?_
  refine j_goto (pc := 70) hX 11 dX3_hoursTillMeeting_70 (by decide) ?_
  exact j_sub [1, 2, 3, 0] rfl (hc11 x2 x3 (x4 + (1 : Int32)) M6)
def pX3_hoursTillMeeting_11b (fu : Nat) (k0 : Nat) (x2 : Int32) (x3 : Int32) (x4 : Int32) (M : Mem) (c11 : Int32 → Int32 → Int32 → Mem → Res) : Res :=
  if (60 : Int32) < x4 then (
    some ((-4 : Int32), M))
  else
  bI (pX4_get fu 54 x2 (2 : Int32) M) fun r3 M2 =>
  bI (pX4_isIn fu 54 x2 r3 M2) fun r5 M4 =>
  if r5 = 0 then (
    pX3_hoursTillMeeting_58 fu k0 x2 x3 x4 M4 c11)
  else
  bI (pX4_isIn fu 54 x3 r3 M4) fun r8 M7 =>
  if r8 = 0 then (
    pX3_hoursTillMeeting_58 fu k0 x2 x3 x4 M7 c11)
  else
  some (x4, M7)
set_option maxRecDepth 100000 in
theorem wX3_hoursTillMeeting_11b {E : jE} {X : jC} (hX : jOk X uX3_hoursTillMeeting (gX E)) (fu : Nat) (k0 : Nat) (hk0 : tX k0 = 4) (x2 : Int32) (x3 : Int32) (x4 : Int32) (M : Mem) (c11 : Int32 → Int32 → Int32 → Mem → Res) (hc11 : ∀ (x2 : Int32) (x3 : Int32) (x4 : Int32) (M : Mem), J X uX3_hoursTillMeeting (gX E) 11 [(0, .ref (gad (gX E) 53)), (2, .int x2), (3, .int x3), (4, .int x4)] [] M (c11 x2 x3 x4 M)) : J X uX3_hoursTillMeeting (gX E) 11 [(0, .ref (gad (gX E) 53)), (2, .int x2), (3, .int x3), (4, .int x4)] [] M (pX3_hoursTillMeeting_11b fu k0 x2 x3 x4 M c11) := by
  unfold pX3_hoursTillMeeting_11b
  refine j_iload (pc := 11) hX 3 dX3_hoursTillMeeting_11 rfl ?_
  refine j_bipush (pc := 13) (v := (60 : Int32)) hX dX3_hoursTillMeeting_13 cb_60 ?_
  refine j_icmp_gt (pc := 15) hX 73 dX3_hoursTillMeeting_15 (by decide) ?_ ?_
  · refine j_bipush (pc := 73) (v := (-4 : Int32)) hX dX3_hoursTillMeeting_73 cb_m4 ?_
    exact j_iret (pc := 75) hX rfl dX3_hoursTillMeeting_75
  · refine j_aload_n (pc := 18) hX 0 dX3_hoursTillMeeting_18 rfl rfl ?_
    refine j_getR (pc := 19) (t := 54) hX (jb rfl) rfl (ci := 3) (C := RX3) (T := TX3) (N := 2) rfl (jb rfl) inX3 (j := 1) (jb rfl) rfl tw_201 dX3_hoursTillMeeting_19 ?_
    refine j_iload_n (pc := 22) hX 1 dX3_hoursTillMeeting_22 rfl rfl ?_
    refine j_iconst (pc := 23) (v := (2 : Int32)) hX dX3_hoursTillMeeting_23 ci_2 ?_
    refine j_callV (pc := 24) hX [.int x2, .int (2 : Int32)] (mX4_get _ E hX.2.2.2.2.2.2.2.2.1 fu 54 rfl x2 (2 : Int32) M) qX4_get tw_791 (jb rfl) rfl (ci := 4) (T := TX4) (N := 2) rfl (jb rfl) rfl ⟨rfl, rfl⟩ ⟨(Nat.le_of_ble_eq_true rfl), (Nat.le_of_ble_eq_true rfl)⟩ (Nat.le_of_ble_eq_true rfl) dX3_hoursTillMeeting_24 (fun _ => rfl) rfl (fun r3 M2 => ?_)
    refine j_istore (pc := 27) (lv' := [(5, .int r3), (0, .ref (gad (gX E) 53)), (2, .int x2), (3, .int x3), (4, .int x4)]) hX dX3_hoursTillMeeting_27 (jb rfl) rfl ?_
    refine j_aload_n (pc := 29) hX 1 dX3_hoursTillMeeting_29 rfl rfl ?_
    refine j_getR (pc := 30) (t := 54) hX (jb rfl) rfl (ci := 3) (C := RX3) (T := TX3) (N := 2) rfl (jb rfl) inX3 (j := 1) (jb rfl) rfl tw_201 dX3_hoursTillMeeting_30 ?_
    refine j_iload_n (pc := 33) hX 2 dX3_hoursTillMeeting_33 rfl rfl ?_
    refine j_iload (pc := 34) hX 0 dX3_hoursTillMeeting_34 rfl ?_
    refine j_callV (pc := 36) hX [.int x2, .int r3] (mX4_isIn _ E hX.2.2.2.2.2.2.2.2.1 fu 54 rfl x2 r3 M2) qX4_isIn tw_792 (jb rfl) rfl (ci := 4) (T := TX4) (N := 2) rfl (jb rfl) rfl ⟨rfl, rfl⟩ ⟨(Nat.le_of_ble_eq_true rfl), (Nat.le_of_ble_eq_true rfl)⟩ (Nat.le_of_ble_eq_true rfl) dX3_hoursTillMeeting_36 (fun _ => rfl) rfl (fun r5 M4 => ?_)
    refine j_if_eq (pc := 39) hX 58 dX3_hoursTillMeeting_39 (by decide) ?_ ?_
    · exact j_sub [1, 2, 3, 4] rfl (wX3_hoursTillMeeting_58 hX fu k0 hk0 x2 x3 x4 M4 c11 hc11)
    · refine j_aload_n (pc := 42) hX 1 dX3_hoursTillMeeting_42 rfl rfl ?_
      refine j_getR (pc := 43) (t := 54) hX (jb rfl) rfl (ci := 3) (C := RX3) (T := TX3) (N := 2) rfl (jb rfl) inX3 (j := 1) (jb rfl) rfl tw_201 dX3_hoursTillMeeting_43 ?_
      refine j_iload_n (pc := 46) hX 3 dX3_hoursTillMeeting_46 rfl rfl ?_
      refine j_iload (pc := 47) hX 0 dX3_hoursTillMeeting_47 rfl ?_
      refine j_callV (pc := 49) hX [.int x3, .int r3] (mX4_isIn _ E hX.2.2.2.2.2.2.2.2.1 fu 54 rfl x3 r3 M4) qX4_isIn tw_792 (jb rfl) rfl (ci := 4) (T := TX4) (N := 2) rfl (jb rfl) rfl ⟨rfl, rfl⟩ ⟨(Nat.le_of_ble_eq_true rfl), (Nat.le_of_ble_eq_true rfl)⟩ (Nat.le_of_ble_eq_true rfl) dX3_hoursTillMeeting_49 (fun _ => rfl) rfl (fun r8 M7 => ?_)
      refine j_if_eq (pc := 52) hX 58 dX3_hoursTillMeeting_52 (by decide) ?_ ?_
      · exact j_sub [1, 2, 3, 4] rfl (wX3_hoursTillMeeting_58 hX fu k0 hk0 x2 x3 x4 M7 c11 hc11)
      · refine j_iload (pc := 55) hX 4 dX3_hoursTillMeeting_55 rfl ?_
        exact j_iret (pc := 57) hX rfl dX3_hoursTillMeeting_57
def pX3_hoursTillMeeting_11 (fu : Nat) (k0 : Nat)  : Nat → Int32 → Int32 → Int32 → Mem → Res
  | 0, _, _, _, _ => none
  | n + 1, x2, x3, x4, M => pX3_hoursTillMeeting_11b fu k0 x2 x3 x4 M (pX3_hoursTillMeeting_11 fu k0  n)
theorem wX3_hoursTillMeeting_11 {E : jE} {X : jC} (hX : jOk X uX3_hoursTillMeeting (gX E)) (fu : Nat) (k0 : Nat) (hk0 : tX k0 = 4)   : ∀ (n : Nat) (x2 : Int32) (x3 : Int32) (x4 : Int32) (M : Mem), J X uX3_hoursTillMeeting (gX E) 11 [(0, .ref (gad (gX E) 53)), (2, .int x2), (3, .int x3), (4, .int x4)] [] M (pX3_hoursTillMeeting_11 fu k0  n x2 x3 x4 M) := by
  intro n
  induction n with
  | zero => intro x2 x3 x4 M; exact j_none
  | succ n ih => intro x2 x3 x4 M; exact wX3_hoursTillMeeting_11b hX fu k0 hk0 x2 x3 x4 M (pX3_hoursTillMeeting_11 fu k0  n) ih
def pX3_hoursTillMeeting (fu : Nat) (k0 : Nat) (x2 : Int32) (x3 : Int32) (M : Mem) : Res :=
  bV (pX4_copy fu 54 k0 M) fun M1 =>
  pX3_hoursTillMeeting_11 fu k0
    fu x2 x3 (0 : Int32) M1
set_option maxRecDepth 100000 in
theorem wX3_hoursTillMeeting {E : jE} {X : jC} (hX : jOk X uX3_hoursTillMeeting (gX E)) (fu : Nat) (k0 : Nat) (hk0 : tX k0 = 4) (x2 : Int32) (x3 : Int32) (M : Mem) : J X uX3_hoursTillMeeting (gX E) 0 [(0, .ref (gad (gX E) 53)), (1, .ref (gad (gX E) k0)), (2, .int x2), (3, .int x3)] [] M (pX3_hoursTillMeeting fu k0 x2 x3 M) := by
  unfold pX3_hoursTillMeeting
  refine j_aload_n (pc := 0) hX 0 dX3_hoursTillMeeting_0 rfl rfl ?_
  refine j_getR (pc := 1) (t := 54) hX (jb rfl) rfl (ci := 3) (C := RX3) (T := TX3) (N := 2) rfl (jb rfl) inX3 (j := 1) (jb rfl) rfl tw_201 dX3_hoursTillMeeting_1 ?_
  refine j_aload_n (pc := 4) hX 1 dX3_hoursTillMeeting_4 rfl rfl ?_
  refine j_callVv (pc := 5) hX [.ref (gad (gX E) k0)] (mX4_copy _ E hX.2.2.2.2.2.2.2.2.1 fu 54 k0 rfl hk0  M) qX4_copy tw_672 (jb rfl) rfl (ci := 4) (T := TX4) (N := 2) rfl (jb rfl) rfl ⟨rfl, rfl⟩ ⟨(Nat.le_of_ble_eq_true rfl), (Nat.le_of_ble_eq_true rfl)⟩ (Nat.le_of_ble_eq_true rfl) dX3_hoursTillMeeting_5 rfl (fun M1 => ?_)
  refine j_iconst (pc := 8) (v := (0 : Int32)) hX dX3_hoursTillMeeting_8 ci_0 ?_
  refine j_istore (pc := 9) (lv' := [(4, .int (0 : Int32)), (0, .ref (gad (gX E) 53)), (1, .ref (gad (gX E) k0)), (2, .int x2), (3, .int x3)]) hX dX3_hoursTillMeeting_9 (jb rfl) rfl ?_
  refine j_sub [1, 3, 4, 0] rfl (wX3_hoursTillMeeting_11 hX fu k0 hk0   fu x2 x3 (0 : Int32) M1)
theorem mX3_hoursTillMeeting (l : Launch) (E : jE) (hI : jInj (gX E)) (fu : Nat) (k0 : Nat) (hk0 : tX k0 = 4) (x2 : Int32) (x3 : Int32) (M : Mem) : jMet l (gX E) yX3_hoursTillMeeting cX3_hoursTillMeeting 6 (some .int) rX3_hoursTillMeeting [.ref (gad (gX E) 53), .ref (gad (gX E) k0), .int x2, .int x3] M (pX3_hoursTillMeeting fu k0 x2 x3 M) :=
  j_entry hI (by decide +kernel) (Nat.le_of_ble_eq_true rfl) rfl (fun X _ hX => wX3_hoursTillMeeting hX fu k0 hk0 x2 x3 M)
theorem qX3_drawOf : jYs yX3_drawOf cX3_drawOf 4 (some .int) 2 := ⟨tw_843, tw_63, tw_844, ⟨by decide +kernel, by decide +kernel, by decide +kernel⟩⟩
abbrev rX3_drawOf : Room := { frames := 0, cells := 0, slots := 0, locals := 0 }
def uX3_drawOf : jM := (cX3_drawOf, 4, RX3, (some .int), rX3_drawOf)
def pX3_drawOf (fu : Nat) (x0 : Int32) (x1 : Int32) (M : Mem) : Res :=
  some (((lrm (((((7919 : Int64) * (x0).toInt64) + ((6151 : Int64) * (x1).toInt64)) + (1 : Int64)) * ((((7919 : Int64) * (x0).toInt64) + ((6151 : Int64) * (x1).toInt64)) + (1 : Int64))) (65521 : Int64))).toInt32, M)
set_option maxRecDepth 100000 in
theorem wX3_drawOf {E : jE} {X : jC} (hX : jOk X uX3_drawOf (gX E)) (fu : Nat)  (x0 : Int32) (x1 : Int32) (M : Mem) : J X uX3_drawOf (gX E) 0 [(0, .int x0), (1, .int x1)] [] M (pX3_drawOf fu  x0 x1 M) := by
  unfold pX3_drawOf
  refine j_ldc2 (pc := 0) (v := (7919 : Int64)) hX tw_845 dX3_drawOf_0 ?_
  refine j_iload_n (pc := 3) hX 0 dX3_drawOf_3 rfl rfl ?_
  refine j_i2l (pc := 4) hX dX3_drawOf_4 ?_
  refine j_lmul (pc := 5) hX dX3_drawOf_5 ?_
  refine j_ldc2 (pc := 6) (v := (6151 : Int64)) hX tw_846 dX3_drawOf_6 ?_
  refine j_iload_n (pc := 9) hX 1 dX3_drawOf_9 rfl rfl ?_
  refine j_i2l (pc := 10) hX dX3_drawOf_10 ?_
  refine j_lmul (pc := 11) hX dX3_drawOf_11 ?_
  refine j_ladd (pc := 12) hX dX3_drawOf_12 ?_
  refine j_lconst (pc := 13) (v := (1 : Int64)) hX dX3_drawOf_13 rfl ?_
  refine j_ladd (pc := 14) hX dX3_drawOf_14 ?_
  refine j_lstore_n (pc := 15) (lv' := [(2, .long ((((7919 : Int64) * (x0).toInt64) + ((6151 : Int64) * (x1).toInt64)) + (1 : Int64))), (0, .int x0), (1, .int x1)]) hX dX3_drawOf_15 rfl (jb rfl) rfl ?_
  refine j_lload_n (pc := 16) hX 0 dX3_drawOf_16 rfl rfl ?_
  refine j_lload_n (pc := 17) hX 0 dX3_drawOf_17 rfl rfl ?_
  refine j_lmul (pc := 18) hX dX3_drawOf_18 ?_
  refine j_ldc2 (pc := 19) (v := (65521 : Int64)) hX tw_847 dX3_drawOf_19 ?_
  refine j_lremC (pc := 22) hX dX3_drawOf_22 (by decide) ?_
  refine j_l2i (pc := 23) hX dX3_drawOf_23 ?_
  exact j_iret (pc := 24) hX rfl dX3_drawOf_24
theorem mX3_drawOf (l : Launch) (E : jE) (hI : jInj (gX E)) (fu : Nat)  (x0 : Int32) (x1 : Int32) (M : Mem) : jMet l (gX E) yX3_drawOf cX3_drawOf 4 (some .int) rX3_drawOf [.int x0, .int x1] M (pX3_drawOf fu  x0 x1 M) :=
  j_entry hI (by decide +kernel) (Nat.le_of_ble_eq_true rfl) rfl (fun X _ hX => wX3_drawOf hX fu   x0 x1 M)
theorem qX3_wrap : jYs yX3_wrap cX3_wrap 2 (some .int) 2 := ⟨tw_853, tw_63, tw_854, ⟨by decide +kernel, by decide +kernel, by decide +kernel⟩⟩
abbrev rX3_wrap : Room := { frames := 0, cells := 0, slots := 0, locals := 0 }
def uX3_wrap : jM := (cX3_wrap, 2, RX3, (some .int), rX3_wrap)
def pX3_wrap (fu : Nat) (x0 : Int32) (x1 : Int32) (M : Mem) : Res :=
  if x1 ≤ 0 then (
    some ((0 : Int32), M))
  else
  if x1 = 0 then none else
  some ((irm x0 x1), M)
set_option maxRecDepth 100000 in
theorem wX3_wrap {E : jE} {X : jC} (hX : jOk X uX3_wrap (gX E)) (fu : Nat)  (x0 : Int32) (x1 : Int32) (M : Mem) : J X uX3_wrap (gX E) 0 [(0, .int x0), (1, .int x1)] [] M (pX3_wrap fu  x0 x1 M) := by
  unfold pX3_wrap
  refine j_iload_n (pc := 0) hX 1 dX3_wrap_0 rfl rfl ?_
  refine j_if_le (pc := 1) hX 10 dX3_wrap_1 (by decide) ?_ ?_
  · refine j_iconst (pc := 10) (v := (0 : Int32)) hX dX3_wrap_10 ci_0 ?_
    exact j_iret (pc := 11) hX rfl dX3_wrap_11
  · refine j_iload_n (pc := 4) hX 0 dX3_wrap_4 rfl rfl ?_
    refine j_iload_n (pc := 5) hX 1 dX3_wrap_5 rfl rfl ?_
    refine j_irem (pc := 6) hX dX3_wrap_6 ?_
    refine j_goto (pc := 7) hX 11 dX3_wrap_7 (by decide) ?_
    exact j_iret (pc := 11) hX rfl dX3_wrap_11
theorem mX3_wrap (l : Launch) (E : jE) (hI : jInj (gX E)) (fu : Nat)  (x0 : Int32) (x1 : Int32) (M : Mem) : jMet l (gX E) yX3_wrap cX3_wrap 2 (some .int) rX3_wrap [.int x0, .int x1] M (pX3_wrap fu  x0 x1 M) :=
  j_entry hI (by decide +kernel) (Nat.le_of_ble_eq_true rfl) rfl (fun X _ hX => wX3_wrap hX fu   x0 x1 M)
theorem qX3_act : jYv yX3_act cX3_act 5 none 1 := ⟨tw_850, tw_16, tw_63, tw_851, ⟨by decide +kernel, by decide +kernel, by decide +kernel⟩⟩
abbrev rX3_act : Room := { frames := 4, cells := 0, slots := 0, locals := 87 }
def uX3_act : jM := (cX3_act, 5, RX3, none, rX3_act)
def pX3_act_103 (fu : Nat) (x1 : Int32) (x4 : Int32) (M : Mem)  : Res :=
  if x4 = (4 : Int32) then (
    bI (pX1_places fu 5 M) fun r10 M9 =>
    bI (pX3_wrap fu (x1 / (8 : Int32)) r10 M9) fun r12 M11 =>
    bV (pX4_putCarrots fu 54 r12 (irm (x1 / (64 : Int32)) (10 : Int32)) M11) fun M13 =>
    some (0, M13))
  else
  some (0, M)
set_option maxRecDepth 100000 in
theorem wX3_act_103 {E : jE} {X : jC} (hX : jOk X uX3_act (gX E)) (fu : Nat)  (x1 : Int32) (x4 : Int32) (M : Mem)   : J X uX3_act (gX E) 103 [(0, .ref (gad (gX E) 53)), (1, .int x1), (4, .int x4)] [] M (pX3_act_103 fu  x1 x4 M ) := by
  unfold pX3_act_103
  refine j_iload (pc := 103) hX 2 dX3_act_103 rfl ?_
  refine j_iconst (pc := 105) (v := (4 : Int32)) hX dX3_act_105 ci_4 ?_
  refine j_icmp_ne (pc := 106) hX 137 dX3_act_106 (by decide) ?_ ?_
  · exact j_vret (pc := 137) hX rfl dX3_act_137
  · refine j_aload_n (pc := 109) hX 0 dX3_act_109 rfl rfl ?_
    refine j_getR (pc := 110) (t := 54) hX (jb rfl) rfl (ci := 3) (C := RX3) (T := TX3) (N := 2) rfl (jb rfl) inX3 (j := 1) (jb rfl) rfl tw_201 dX3_act_110 ?_
    refine j_iload_n (pc := 113) hX 1 dX3_act_113 rfl rfl ?_
    refine j_bipush (pc := 114) (v := (8 : Int32)) hX dX3_act_114 cb_8 ?_
    refine j_idivC (pc := 116) hX dX3_act_116 (by decide) ?_
    refine j_aload_n (pc := 117) hX 0 dX3_act_117 rfl rfl ?_
    refine j_getR (pc := 118) (t := 5) hX (jb rfl) rfl (ci := 3) (C := RX3) (T := TX3) (N := 2) rfl (jb rfl) inX3 (j := 0) (jb rfl) rfl tw_200 dX3_act_118 ?_
    refine j_callV (pc := 121) hX [] (mX1_places _ E hX.2.2.2.2.2.2.2.2.1 fu 5 rfl  M) qX1_places tw_770 (jb rfl) rfl (ci := 1) (T := TX1) (N := 13) rfl (jb rfl) rfl ⟨rfl, rfl⟩ ⟨(Nat.le_of_ble_eq_true rfl), (Nat.le_of_ble_eq_true rfl)⟩ (Nat.le_of_ble_eq_true rfl) dX3_act_121 (fun _ => rfl) rfl (fun r10 M9 => ?_)
    refine j_callS (pc := 124) hX [.int (x1 / (8 : Int32)), .int r10] (mX3_wrap _ E hX.2.2.2.2.2.2.2.2.1 fu   (x1 / (8 : Int32)) r10 M9) qX3_wrap tw_852 rfl ⟨rfl, rfl⟩ ⟨(Nat.le_of_ble_eq_true rfl), (Nat.le_of_ble_eq_true rfl)⟩ (Nat.le_of_ble_eq_true rfl) dX3_act_124 (fun _ => rfl) rfl (fun r12 M11 => ?_)
    refine j_iload_n (pc := 127) hX 1 dX3_act_127 rfl rfl ?_
    refine j_bipush (pc := 128) (v := (64 : Int32)) hX dX3_act_128 cb_64 ?_
    refine j_idivC (pc := 130) hX dX3_act_130 (by decide) ?_
    refine j_bipush (pc := 131) (v := (10 : Int32)) hX dX3_act_131 cb_10 ?_
    refine j_iremC (pc := 133) hX dX3_act_133 (by decide) ?_
    refine j_callVv (pc := 134) hX [.int r12, .int (irm (x1 / (64 : Int32)) (10 : Int32))] (mX4_putCarrots _ E hX.2.2.2.2.2.2.2.2.1 fu 54 rfl r12 (irm (x1 / (64 : Int32)) (10 : Int32)) M11) qX4_putCarrots tw_773 (jb rfl) rfl (ci := 4) (T := TX4) (N := 2) rfl (jb rfl) rfl ⟨rfl, rfl⟩ ⟨(Nat.le_of_ble_eq_true rfl), (Nat.le_of_ble_eq_true rfl)⟩ (Nat.le_of_ble_eq_true rfl) dX3_act_134 rfl (fun M13 => ?_)
    exact j_vret (pc := 137) hX rfl dX3_act_137
def pX3_act_74 (fu : Nat) (x1 : Int32) (x2 : Int32) (x4 : Int32) (M : Mem)  : Res :=
  if x4 = (3 : Int32) then (
    bI (pX4_is fu 54 x2 (2 : Int32) M) fun r15 M14 =>
    if r15 = 0 then (
      pX3_act_103 fu  x1 x4 M14 )
    else
    bV (pX4_callHome fu 54 x2 M14) fun M16 =>
    some (0, M16))
  else
  pX3_act_103 fu  x1 x4 M 
set_option maxRecDepth 100000 in
theorem wX3_act_74 {E : jE} {X : jC} (hX : jOk X uX3_act (gX E)) (fu : Nat)  (x1 : Int32) (x2 : Int32) (x4 : Int32) (M : Mem)   : J X uX3_act (gX E) 74 [(0, .ref (gad (gX E) 53)), (1, .int x1), (2, .int x2), (4, .int x4)] [] M (pX3_act_74 fu  x1 x2 x4 M ) := by
  unfold pX3_act_74
  refine j_iload (pc := 74) hX 3 dX3_act_74 rfl ?_
  refine j_iconst (pc := 76) (v := (3 : Int32)) hX dX3_act_76 ci_3 ?_
  refine j_icmp_ne (pc := 77) hX 103 dX3_act_77 (by decide) ?_ ?_
  · exact j_sub [0, 1, 3] rfl (wX3_act_103 hX fu   x1 x4 M  )
  · refine j_aload_n (pc := 80) hX 0 dX3_act_80 rfl rfl ?_
    refine j_getR (pc := 81) (t := 54) hX (jb rfl) rfl (ci := 3) (C := RX3) (T := TX3) (N := 2) rfl (jb rfl) inX3 (j := 1) (jb rfl) rfl tw_201 dX3_act_81 ?_
    refine j_iload_n (pc := 84) hX 2 dX3_act_84 rfl rfl ?_
    refine j_iconst (pc := 85) (v := (2 : Int32)) hX dX3_act_85 ci_2 ?_
    refine j_callV (pc := 86) hX [.int x2, .int (2 : Int32)] (mX4_is _ E hX.2.2.2.2.2.2.2.2.1 fu 54 rfl x2 (2 : Int32) M) qX4_is tw_677 (jb rfl) rfl (ci := 4) (T := TX4) (N := 2) rfl (jb rfl) rfl ⟨rfl, rfl⟩ ⟨(Nat.le_of_ble_eq_true rfl), (Nat.le_of_ble_eq_true rfl)⟩ (Nat.le_of_ble_eq_true rfl) dX3_act_86 (fun _ => rfl) rfl (fun r15 M14 => ?_)
    refine j_if_eq (pc := 89) hX 103 dX3_act_89 (by decide) ?_ ?_
    · exact j_sub [0, 1, 3] rfl (wX3_act_103 hX fu   x1 x4 M14  )
    · refine j_aload_n (pc := 92) hX 0 dX3_act_92 rfl rfl ?_
      refine j_getR (pc := 93) (t := 54) hX (jb rfl) rfl (ci := 3) (C := RX3) (T := TX3) (N := 2) rfl (jb rfl) inX3 (j := 1) (jb rfl) rfl tw_201 dX3_act_93 ?_
      refine j_iload_n (pc := 96) hX 2 dX3_act_96 rfl rfl ?_
      refine j_callVv (pc := 97) hX [.int x2] (mX4_callHome _ E hX.2.2.2.2.2.2.2.2.1 fu 54 rfl x2 M14) qX4_callHome tw_856 (jb rfl) rfl (ci := 4) (T := TX4) (N := 2) rfl (jb rfl) rfl ⟨rfl, rfl⟩ ⟨(Nat.le_of_ble_eq_true rfl), (Nat.le_of_ble_eq_true rfl)⟩ (Nat.le_of_ble_eq_true rfl) dX3_act_97 rfl (fun M16 => ?_)
      refine j_goto (pc := 100) hX 137 dX3_act_100 (by decide) ?_
      exact j_vret (pc := 137) hX rfl dX3_act_137
def pX3_act (fu : Nat) (x1 : Int32) (M : Mem) : Res :=
  bI (pX1_beasts fu 5 M) fun r2 M1 =>
  bI (pX3_wrap fu (x1 / (8 : Int32)) r2 M1) fun r4 M3 =>
  bI (pX1_doors fu 5 M3) fun r6 M5 =>
  bI (pX3_wrap fu (x1 / (512 : Int32)) r6 M5) fun r8 M7 =>
  if (2 : Int32) < (irm x1 (8 : Int32)) then (
    pX3_act_74 fu  x1 r4 (irm x1 (8 : Int32)) M7 )
  else
  bI (pX4_canBeSent fu 54 r4 r8 M7) fun r18 M17 =>
  if r18 = 0 then (
    pX3_act_74 fu  x1 r4 (irm x1 (8 : Int32)) M17 )
  else
  bV (pX4_dispatch fu 54 r4 (irm (x1 / (64 : Int32)) (8 : Int32)) r8 M17) fun M19 =>
  some (0, M19)
set_option maxRecDepth 100000 in
theorem wX3_act {E : jE} {X : jC} (hX : jOk X uX3_act (gX E)) (fu : Nat)  (x1 : Int32) (M : Mem) : J X uX3_act (gX E) 0 [(0, .ref (gad (gX E) 53)), (1, .int x1)] [] M (pX3_act fu  x1 M) := by
  unfold pX3_act
  refine j_iload_n (pc := 0) hX 1 dX3_act_0 rfl rfl ?_
  refine j_bipush (pc := 1) (v := (8 : Int32)) hX dX3_act_1 cb_8 ?_
  refine j_idivC (pc := 3) hX dX3_act_3 (by decide) ?_
  refine j_aload_n (pc := 4) hX 0 dX3_act_4 rfl rfl ?_
  refine j_getR (pc := 5) (t := 5) hX (jb rfl) rfl (ci := 3) (C := RX3) (T := TX3) (N := 2) rfl (jb rfl) inX3 (j := 0) (jb rfl) rfl tw_200 dX3_act_5 ?_
  refine j_callV (pc := 8) hX [] (mX1_beasts _ E hX.2.2.2.2.2.2.2.2.1 fu 5 rfl  M) qX1_beasts tw_696 (jb rfl) rfl (ci := 1) (T := TX1) (N := 13) rfl (jb rfl) rfl ⟨rfl, rfl⟩ ⟨(Nat.le_of_ble_eq_true rfl), (Nat.le_of_ble_eq_true rfl)⟩ (Nat.le_of_ble_eq_true rfl) dX3_act_8 (fun _ => rfl) rfl (fun r2 M1 => ?_)
  refine j_callS (pc := 11) hX [.int (x1 / (8 : Int32)), .int r2] (mX3_wrap _ E hX.2.2.2.2.2.2.2.2.1 fu   (x1 / (8 : Int32)) r2 M1) qX3_wrap tw_852 rfl ⟨rfl, rfl⟩ ⟨(Nat.le_of_ble_eq_true rfl), (Nat.le_of_ble_eq_true rfl)⟩ (Nat.le_of_ble_eq_true rfl) dX3_act_11 (fun _ => rfl) rfl (fun r4 M3 => ?_)
  refine j_istore_n (pc := 14) (lv' := [(2, .int r4), (0, .ref (gad (gX E) 53)), (1, .int x1)]) hX dX3_act_14 rfl (jb rfl) rfl ?_
  refine j_iload_n (pc := 15) hX 2 dX3_act_15 rfl rfl ?_
  refine j_sipush (pc := 16) (v := (512 : Int32)) hX dX3_act_16 cs_512 ?_
  refine j_idivC (pc := 19) hX dX3_act_19 (by decide) ?_
  refine j_aload_n (pc := 20) hX 1 dX3_act_20 rfl rfl ?_
  refine j_getR (pc := 21) (t := 5) hX (jb rfl) rfl (ci := 3) (C := RX3) (T := TX3) (N := 2) rfl (jb rfl) inX3 (j := 0) (jb rfl) rfl tw_200 dX3_act_21 ?_
  refine j_callV (pc := 24) hX [] (mX1_doors _ E hX.2.2.2.2.2.2.2.2.1 fu 5 rfl  M3) qX1_doors tw_855 (jb rfl) rfl (ci := 1) (T := TX1) (N := 13) rfl (jb rfl) rfl ⟨rfl, rfl⟩ ⟨(Nat.le_of_ble_eq_true rfl), (Nat.le_of_ble_eq_true rfl)⟩ (Nat.le_of_ble_eq_true rfl) dX3_act_24 (fun _ => rfl) rfl (fun r6 M5 => ?_)
  refine j_callS (pc := 27) hX [.int (x1 / (512 : Int32)), .int r6] (mX3_wrap _ E hX.2.2.2.2.2.2.2.2.1 fu   (x1 / (512 : Int32)) r6 M5) qX3_wrap tw_852 rfl ⟨rfl, rfl⟩ ⟨(Nat.le_of_ble_eq_true rfl), (Nat.le_of_ble_eq_true rfl)⟩ (Nat.le_of_ble_eq_true rfl) dX3_act_27 (fun _ => rfl) rfl (fun r8 M7 => ?_)
  refine j_istore_n (pc := 30) (lv' := [(3, .int r8), (2, .int r4), (0, .ref (gad (gX E) 53)), (1, .int x1)]) hX dX3_act_30 rfl (jb rfl) rfl ?_
  refine j_iload_n (pc := 31) hX 3 dX3_act_31 rfl rfl ?_
  refine j_bipush (pc := 32) (v := (8 : Int32)) hX dX3_act_32 cb_8 ?_
  refine j_iremC (pc := 34) hX dX3_act_34 (by decide) ?_
  refine j_istore (pc := 35) (lv' := [(4, .int (irm x1 (8 : Int32))), (3, .int r8), (2, .int r4), (0, .ref (gad (gX E) 53)), (1, .int x1)]) hX dX3_act_35 (jb rfl) rfl ?_
  refine j_iload (pc := 37) hX 0 dX3_act_37 rfl ?_
  refine j_iconst (pc := 39) (v := (2 : Int32)) hX dX3_act_39 ci_2 ?_
  refine j_icmp_gt (pc := 40) hX 74 dX3_act_40 (by decide) ?_ ?_
  · exact j_sub [3, 4, 2, 0] rfl (wX3_act_74 hX fu   x1 r4 (irm x1 (8 : Int32)) M7  )
  · refine j_aload_n (pc := 43) hX 3 dX3_act_43 rfl rfl ?_
    refine j_getR (pc := 44) (t := 54) hX (jb rfl) rfl (ci := 3) (C := RX3) (T := TX3) (N := 2) rfl (jb rfl) inX3 (j := 1) (jb rfl) rfl tw_201 dX3_act_44 ?_
    refine j_iload_n (pc := 47) hX 2 dX3_act_47 rfl rfl ?_
    refine j_iload_n (pc := 48) hX 1 dX3_act_48 rfl rfl ?_
    refine j_callV (pc := 49) hX [.int r4, .int r8] (mX4_canBeSent _ E hX.2.2.2.2.2.2.2.2.1 fu 54 rfl r4 r8 M7) qX4_canBeSent tw_701 (jb rfl) rfl (ci := 4) (T := TX4) (N := 2) rfl (jb rfl) rfl ⟨rfl, rfl⟩ ⟨(Nat.le_of_ble_eq_true rfl), (Nat.le_of_ble_eq_true rfl)⟩ (Nat.le_of_ble_eq_true rfl) dX3_act_49 (fun _ => rfl) rfl (fun r18 M17 => ?_)
    refine j_if_eq (pc := 52) hX 74 dX3_act_52 (by decide) ?_ ?_
    · exact j_sub [3, 4, 2, 0] rfl (wX3_act_74 hX fu   x1 r4 (irm x1 (8 : Int32)) M17  )
    · refine j_aload_n (pc := 55) hX 3 dX3_act_55 rfl rfl ?_
      refine j_getR (pc := 56) (t := 54) hX (jb rfl) rfl (ci := 3) (C := RX3) (T := TX3) (N := 2) rfl (jb rfl) inX3 (j := 1) (jb rfl) rfl tw_201 dX3_act_56 ?_
      refine j_iload_n (pc := 59) hX 2 dX3_act_59 rfl rfl ?_
      refine j_iload_n (pc := 60) hX 4 dX3_act_60 rfl rfl ?_
      refine j_bipush (pc := 61) (v := (64 : Int32)) hX dX3_act_61 cb_64 ?_
      refine j_idivC (pc := 63) hX dX3_act_63 (by decide) ?_
      refine j_bipush (pc := 64) (v := (8 : Int32)) hX dX3_act_64 cb_8 ?_
      refine j_iremC (pc := 66) hX dX3_act_66 (by decide) ?_
      refine j_iload_n (pc := 67) hX 1 dX3_act_67 rfl rfl ?_
      refine j_callVv (pc := 68) hX [.int r4, .int (irm (x1 / (64 : Int32)) (8 : Int32)), .int r8] (mX4_dispatch _ E hX.2.2.2.2.2.2.2.2.1 fu 54 rfl r4 (irm (x1 / (64 : Int32)) (8 : Int32)) r8 M17) qX4_dispatch tw_702 (jb rfl) rfl (ci := 4) (T := TX4) (N := 2) rfl (jb rfl) rfl ⟨rfl, rfl⟩ ⟨(Nat.le_of_ble_eq_true rfl), (Nat.le_of_ble_eq_true rfl)⟩ (Nat.le_of_ble_eq_true rfl) dX3_act_68 rfl (fun M19 => ?_)
      refine j_goto (pc := 71) hX 137 dX3_act_71 (by decide) ?_
      exact j_vret (pc := 137) hX rfl dX3_act_137
theorem mX3_act (l : Launch) (E : jE) (hI : jInj (gX E)) (fu : Nat)  (x1 : Int32) (M : Mem) : jMet l (gX E) yX3_act cX3_act 5 none rX3_act [.ref (gad (gX E) 53), .int x1] M (pX3_act fu  x1 M) :=
  j_entry hI (by decide +kernel) (Nat.le_of_ble_eq_true rfl) rfl (fun X _ hX => wX3_act hX fu   x1 M)
theorem qX3_afterYear : jYv yX3_afterYear cX3_afterYear 5 (some (.object "DonkeyVerdicts$Herd")) 3 := ⟨tw_839, tw_840, tw_63, tw_841, ⟨by decide +kernel, by decide +kernel, by decide +kernel⟩⟩
abbrev rX3_afterYear : Room := { frames := 5, cells := 0, slots := 0, locals := 117 }
def uX3_afterYear : jM := (cX3_afterYear, 5, RX3, (some (.object "DonkeyVerdicts$Herd")), rX3_afterYear)
def pX3_afterYear_11b (fu : Nat) (k0 : Nat) (x2 : Int32) (x3 : Int32) (x4 : Int32) (M : Mem) (c11 : Int32 → Int32 → Int32 → Mem → Res) : Res :=
  if x3 ≤ x4 then (
    some (nI 54, M))
  else
  bI (pX3_drawOf fu x2 x4 M) fun r3 M2 =>
  bV (pX3_act fu r3 M2) fun M4 =>
  bV (pX4_goOn fu 54 (-4 : Int32) M4) fun M5 =>
  c11 x2 x3 (x4 + (1 : Int32)) M5
set_option maxRecDepth 100000 in
theorem wX3_afterYear_11b {E : jE} {X : jC} (hX : jOk X uX3_afterYear (gX E)) (fu : Nat) (k0 : Nat) (hk0 : tX k0 = 4) (x2 : Int32) (x3 : Int32) (x4 : Int32) (M : Mem) (c11 : Int32 → Int32 → Int32 → Mem → Res) (hc11 : ∀ (x2 : Int32) (x3 : Int32) (x4 : Int32) (M : Mem), J X uX3_afterYear (gX E) 11 [(0, .ref (gad (gX E) 53)), (2, .int x2), (3, .int x3), (4, .int x4)] [] M (c11 x2 x3 x4 M)) : J X uX3_afterYear (gX E) 11 [(0, .ref (gad (gX E) 53)), (2, .int x2), (3, .int x3), (4, .int x4)] [] M (pX3_afterYear_11b fu k0 x2 x3 x4 M c11) := by
  unfold pX3_afterYear_11b
  refine j_iload (pc := 11) hX 3 dX3_afterYear_11 rfl ?_
  refine j_iload_n (pc := 13) hX 2 dX3_afterYear_13 rfl rfl ?_
  refine j_icmp_ge (pc := 14) hX 42 dX3_afterYear_14 (by decide) ?_ ?_
  · refine j_aload_n (pc := 42) hX 0 dX3_afterYear_42 rfl rfl ?_
    refine j_getR (pc := 43) (t := 54) hX (jb rfl) rfl (ci := 3) (C := RX3) (T := TX3) (N := 2) rfl (jb rfl) inX3 (j := 1) (jb rfl) rfl tw_201 dX3_afterYear_43 ?_
    exact j_aret (pc := 46) hX (by decide) rfl dX3_afterYear_46
  · refine j_aload_n (pc := 17) hX 0 dX3_afterYear_17 rfl rfl ?_
    refine j_iload_n (pc := 18) hX 1 dX3_afterYear_18 rfl rfl ?_
    refine j_iload (pc := 19) hX 3 dX3_afterYear_19 rfl ?_
    refine j_callS (pc := 21) hX [.int x2, .int x4] (mX3_drawOf _ E hX.2.2.2.2.2.2.2.2.1 fu   x2 x4 M) qX3_drawOf tw_842 rfl ⟨rfl, rfl⟩ ⟨(Nat.le_of_ble_eq_true rfl), (Nat.le_of_ble_eq_true rfl)⟩ (Nat.le_of_ble_eq_true rfl) dX3_afterYear_21 (fun _ => rfl) rfl (fun r3 M2 => ?_)
    refine j_callVv (pc := 24) hX [.int r3] (mX3_act _ E hX.2.2.2.2.2.2.2.2.1 fu   r3 M2) qX3_act tw_848 (jb rfl) rfl (ci := 3) (T := TX3) (N := 2) rfl (jb rfl) rfl ⟨rfl, rfl⟩ ⟨(Nat.le_of_ble_eq_true rfl), (Nat.le_of_ble_eq_true rfl)⟩ (Nat.le_of_ble_eq_true rfl) dX3_afterYear_24 rfl (fun M4 => ?_)
    refine j_aload_n (pc := 27) hX 0 dX3_afterYear_27 rfl rfl ?_
    refine j_getR (pc := 28) (t := 54) hX (jb rfl) rfl (ci := 3) (C := RX3) (T := TX3) (N := 2) rfl (jb rfl) inX3 (j := 1) (jb rfl) rfl tw_201 dX3_afterYear_28 ?_
    refine j_bipush (pc := 31) (v := (-4 : Int32)) hX dX3_afterYear_31 cb_m4 ?_
    refine j_callVv (pc := 33) hX [.int (-4 : Int32)] (mX4_goOn _ E hX.2.2.2.2.2.2.2.2.1 fu 54 rfl (-4 : Int32) M4) qX4_goOn tw_678 (jb rfl) rfl (ci := 4) (T := TX4) (N := 2) rfl (jb rfl) rfl ⟨rfl, rfl⟩ ⟨(Nat.le_of_ble_eq_true rfl), (Nat.le_of_ble_eq_true rfl)⟩ (Nat.le_of_ble_eq_true rfl) dX3_afterYear_33 rfl (fun M5 => ?_)
    refine j_iinc (pc := 36) (v := (x4 + (1 : Int32))) (lv' := [(4, .int (x4 + (1 : Int32))), (0, .ref (gad (gX E) 53)), (2, .int x2), (3, .int x3)]) hX 3 dX3_afterYear_36 rfl (by rw [ci_1]) (jb rfl) rfl ?_
    refine j_goto (pc := 39) hX 11 dX3_afterYear_39 (by decide) ?_
    exact j_sub [1, 2, 3, 0] rfl (hc11 x2 x3 (x4 + (1 : Int32)) M5)
def pX3_afterYear_11 (fu : Nat) (k0 : Nat)  : Nat → Int32 → Int32 → Int32 → Mem → Res
  | 0, _, _, _, _ => none
  | n + 1, x2, x3, x4, M => pX3_afterYear_11b fu k0 x2 x3 x4 M (pX3_afterYear_11 fu k0  n)
theorem wX3_afterYear_11 {E : jE} {X : jC} (hX : jOk X uX3_afterYear (gX E)) (fu : Nat) (k0 : Nat) (hk0 : tX k0 = 4)   : ∀ (n : Nat) (x2 : Int32) (x3 : Int32) (x4 : Int32) (M : Mem), J X uX3_afterYear (gX E) 11 [(0, .ref (gad (gX E) 53)), (2, .int x2), (3, .int x3), (4, .int x4)] [] M (pX3_afterYear_11 fu k0  n x2 x3 x4 M) := by
  intro n
  induction n with
  | zero => intro x2 x3 x4 M; exact j_none
  | succ n ih => intro x2 x3 x4 M; exact wX3_afterYear_11b hX fu k0 hk0 x2 x3 x4 M (pX3_afterYear_11 fu k0  n) ih
def pX3_afterYear (fu : Nat) (k0 : Nat) (x2 : Int32) (x3 : Int32) (M : Mem) : Res :=
  bV (pX4_copy fu 54 k0 M) fun M1 =>
  pX3_afterYear_11 fu k0
    fu x2 x3 (0 : Int32) M1
set_option maxRecDepth 100000 in
theorem wX3_afterYear {E : jE} {X : jC} (hX : jOk X uX3_afterYear (gX E)) (fu : Nat) (k0 : Nat) (hk0 : tX k0 = 4) (x2 : Int32) (x3 : Int32) (M : Mem) : J X uX3_afterYear (gX E) 0 [(0, .ref (gad (gX E) 53)), (1, .ref (gad (gX E) k0)), (2, .int x2), (3, .int x3)] [] M (pX3_afterYear fu k0 x2 x3 M) := by
  unfold pX3_afterYear
  refine j_aload_n (pc := 0) hX 0 dX3_afterYear_0 rfl rfl ?_
  refine j_getR (pc := 1) (t := 54) hX (jb rfl) rfl (ci := 3) (C := RX3) (T := TX3) (N := 2) rfl (jb rfl) inX3 (j := 1) (jb rfl) rfl tw_201 dX3_afterYear_1 ?_
  refine j_aload_n (pc := 4) hX 1 dX3_afterYear_4 rfl rfl ?_
  refine j_callVv (pc := 5) hX [.ref (gad (gX E) k0)] (mX4_copy _ E hX.2.2.2.2.2.2.2.2.1 fu 54 k0 rfl hk0  M) qX4_copy tw_672 (jb rfl) rfl (ci := 4) (T := TX4) (N := 2) rfl (jb rfl) rfl ⟨rfl, rfl⟩ ⟨(Nat.le_of_ble_eq_true rfl), (Nat.le_of_ble_eq_true rfl)⟩ (Nat.le_of_ble_eq_true rfl) dX3_afterYear_5 rfl (fun M1 => ?_)
  refine j_iconst (pc := 8) (v := (0 : Int32)) hX dX3_afterYear_8 ci_0 ?_
  refine j_istore (pc := 9) (lv' := [(4, .int (0 : Int32)), (0, .ref (gad (gX E) 53)), (1, .ref (gad (gX E) k0)), (2, .int x2), (3, .int x3)]) hX dX3_afterYear_9 (jb rfl) rfl ?_
  refine j_sub [1, 3, 4, 0] rfl (wX3_afterYear_11 hX fu k0 hk0   fu x2 x3 (0 : Int32) M1)
theorem mX3_afterYear (l : Launch) (E : jE) (hI : jInj (gX E)) (fu : Nat) (k0 : Nat) (hk0 : tX k0 = 4) (x2 : Int32) (x3 : Int32) (M : Mem) : jMet l (gX E) yX3_afterYear cX3_afterYear 5 (some (.object "DonkeyVerdicts$Herd")) rX3_afterYear [.ref (gad (gX E) 53), .ref (gad (gX E) k0), .int x2, .int x3] M (pX3_afterYear fu k0 x2 x3 M) :=
  j_entry hI (by decide +kernel) (Nat.le_of_ble_eq_true rfl) rfl (fun X _ hX => wX3_afterYear hX fu k0 hk0 x2 x3 M)
