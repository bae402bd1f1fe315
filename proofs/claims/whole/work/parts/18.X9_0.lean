theorem dX9_write_0 : decode cX9_write 0 = .ok (.iload_n 1, 1) := by decide +kernel
theorem dX9_write_1 : decode cX9_write 1 = .ok (.bipush 32, 2) := by decide +kernel
theorem dX9_write_3 : decode cX9_write 3 = .ok (.if_icmp .lt 9, 3) := by decide +kernel
theorem dX9_write_6 : decode cX9_write 6 = .ok (.iload_n 1, 1) := by decide +kernel
theorem dX9_write_7 : decode cX9_write 7 = .ok (.bipush 126, 2) := by decide +kernel
theorem dX9_write_9 : decode cX9_write 9 = .ok (.if_icmp .le 5, 3) := by decide +kernel
theorem dX9_write_12 : decode cX9_write 12 = .ok (.iconst (-1), 1) := by decide +kernel
theorem dX9_write_13 : decode cX9_write 13 = .ok (.ireturn, 1) := by decide +kernel
theorem dX9_write_14 : decode cX9_write 14 = .ok (.aload_n 0, 1) := by decide +kernel
theorem dX9_write_15 : decode cX9_write 15 = .ok (.getfield 10, 3) := by decide +kernel
theorem dX9_write_18 : decode cX9_write 18 = .ok (.iload_n 1, 1) := by decide +kernel
theorem dX9_write_19 : decode cX9_write 19 = .ok (.i2c, 1) := by decide +kernel
theorem dX9_write_20 : decode cX9_write 20 = .ok (.invokevirtual 87, 3) := by decide +kernel
theorem dX9_write_23 : decode cX9_write 23 = .ok (.ifCond .eq 13, 3) := by decide +kernel
theorem dX9_write_26 : decode cX9_write 26 = .ok (.aload_n 0, 1) := by decide +kernel
theorem dX9_write_27 : decode cX9_write 27 = .ok (.getfield 10, 3) := by decide +kernel
theorem dX9_write_30 : decode cX9_write 30 = .ok (.invokevirtual 97, 3) := by decide +kernel
theorem dX9_write_33 : decode cX9_write 33 = .ok (.goto 5, 3) := by decide +kernel
theorem dX9_write_36 : decode cX9_write 36 = .ok (.bipush (-3), 2) := by decide +kernel
theorem dX9_write_38 : decode cX9_write 38 = .ok (.ireturn, 1) := by decide +kernel
theorem dX9_wipe_0 : decode cX9_wipe 0 = .ok (.aload_n 0, 1) := by decide +kernel
theorem dX9_wipe_1 : decode cX9_wipe 1 = .ok (.getfield 10, 3) := by decide +kernel
theorem dX9_wipe_4 : decode cX9_wipe 4 = .ok (.invokevirtual 97, 3) := by decide +kernel
theorem dX9_wipe_7 : decode cX9_wipe 7 = .ok (.istore_n 1, 1) := by decide +kernel
theorem dX9_wipe_8 : decode cX9_wipe 8 = .ok (.aload_n 0, 1) := by decide +kernel
theorem dX9_wipe_9 : decode cX9_wipe 9 = .ok (.getfield 10, 3) := by decide +kernel
theorem dX9_wipe_12 : decode cX9_wipe 12 = .ok (.invokevirtual 94, 3) := by decide +kernel
theorem dX9_wipe_15 : decode cX9_wipe 15 = .ok (.iload_n 1, 1) := by decide +kernel
theorem dX9_wipe_16 : decode cX9_wipe 16 = .ok (.ireturn, 1) := by decide +kernel
theorem dX9_fault_0 : decode cX9_fault 0 = .ok (.aload_n 0, 1) := by decide +kernel
theorem dX9_fault_1 : decode cX9_fault 1 = .ok (.getfield 19, 3) := by decide +kernel
theorem dX9_fault_4 : decode cX9_fault 4 = .ok (.aload_n 0, 1) := by decide +kernel
theorem dX9_fault_5 : decode cX9_fault 5 = .ok (.getfield 10, 3) := by decide +kernel
theorem dX9_fault_8 : decode cX9_fault 8 = .ok (.aload_n 0, 1) := by decide +kernel
theorem dX9_fault_9 : decode cX9_fault 9 = .ok (.getfield 30, 3) := by decide +kernel
theorem dX9_fault_12 : decode cX9_fault 12 = .ok (.invokevirtual 98, 3) := by decide +kernel
theorem dX9_fault_15 : decode cX9_fault 15 = .ok (.ireturn, 1) := by decide +kernel
theorem dX9_open_0 : decode cX9_open 0 = .ok (.aload_n 0, 1) := by decide +kernel
theorem dX9_open_1 : decode cX9_open 1 = .ok (.getfield 19, 3) := by decide +kernel
theorem dX9_open_4 : decode cX9_open 4 = .ok (.aload_n 0, 1) := by decide +kernel
theorem dX9_open_5 : decode cX9_open 5 = .ok (.getfield 10, 3) := by decide +kernel
theorem dX9_open_8 : decode cX9_open 8 = .ok (.aload_n 0, 1) := by decide +kernel
theorem dX9_open_9 : decode cX9_open 9 = .ok (.getfield 26, 3) := by decide +kernel
theorem dX9_open_12 : decode cX9_open 12 = .ok (.invokevirtual 98, 3) := by decide +kernel
theorem dX9_open_15 : decode cX9_open 15 = .ok (.pop, 1) := by decide +kernel
theorem dX9_open_16 : decode cX9_open 16 = .ok (.aload_n 0, 1) := by decide +kernel
theorem dX9_open_17 : decode cX9_open 17 = .ok (.getfield 26, 3) := by decide +kernel
theorem dX9_open_20 : decode cX9_open 20 = .ok (.invokevirtual 270, 3) := by decide +kernel
theorem dX9_open_23 : decode cX9_open 23 = .ok (.aload_n 0, 1) := by decide +kernel
theorem dX9_open_24 : decode cX9_open 24 = .ok (.getfield 38, 3) := by decide +kernel
theorem dX9_open_27 : decode cX9_open 27 = .ok (.invokevirtual 273, 3) := by decide +kernel
theorem dX9_open_30 : decode cX9_open 30 = .ok (.aload_n 0, 1) := by decide +kernel
theorem dX9_open_31 : decode cX9_open 31 = .ok (.getfield 47, 3) := by decide +kernel
theorem dX9_open_34 : decode cX9_open 34 = .ok (.invokevirtual 260, 3) := by decide +kernel
theorem dX9_open_37 : decode cX9_open 37 = .ok (.aload_n 0, 1) := by decide +kernel
theorem dX9_open_38 : decode cX9_open 38 = .ok (.getfield 51, 3) := by decide +kernel
theorem dX9_open_41 : decode cX9_open 41 = .ok (.invokevirtual 260, 3) := by decide +kernel
theorem dX9_open_44 : decode cX9_open 44 = .ok (.return_, 1) := by decide +kernel
theorem dX9_lay_0 : decode cX9_lay 0 = .ok (.aload_n 0, 1) := by decide +kernel
theorem dX9_lay_1 : decode cX9_lay 1 = .ok (.getfield 19, 3) := by decide +kernel
theorem dX9_lay_4 : decode cX9_lay 4 = .ok (.aload_n 0, 1) := by decide +kernel
theorem dX9_lay_5 : decode cX9_lay 5 = .ok (.getfield 10, 3) := by decide +kernel
theorem dX9_lay_8 : decode cX9_lay 8 = .ok (.aload_n 0, 1) := by decide +kernel
theorem dX9_lay_9 : decode cX9_lay 9 = .ok (.getfield 30, 3) := by decide +kernel
theorem dX9_lay_12 : decode cX9_lay 12 = .ok (.invokevirtual 98, 3) := by decide +kernel
theorem dX9_lay_15 : decode cX9_lay 15 = .ok (.bipush (-4), 2) := by decide +kernel
theorem dX9_lay_17 : decode cX9_lay 17 = .ok (.if_icmp .ne 23, 3) := by decide +kernel
theorem dX9_lay_20 : decode cX9_lay 20 = .ok (.aload_n 0, 1) := by decide +kernel
theorem dX9_lay_21 : decode cX9_lay 21 = .ok (.getfield 30, 3) := by decide +kernel
theorem dX9_lay_24 : decode cX9_lay 24 = .ok (.invokevirtual 102, 3) := by decide +kernel
theorem dX9_lay_27 : decode cX9_lay 27 = .ok (.ifCond .eq 13, 3) := by decide +kernel
theorem dX9_lay_30 : decode cX9_lay 30 = .ok (.aload_n 0, 1) := by decide +kernel
theorem dX9_lay_31 : decode cX9_lay 31 = .ok (.getfield 30, 3) := by decide +kernel
theorem dX9_lay_34 : decode cX9_lay 34 = .ok (.invokevirtual 105, 3) := by decide +kernel
theorem dX9_lay_37 : decode cX9_lay 37 = .ok (.ifCond .ne 6, 3) := by decide +kernel
theorem dX9_lay_40 : decode cX9_lay 40 = .ok (.bipush (-2), 2) := by decide +kernel
theorem dX9_lay_42 : decode cX9_lay 42 = .ok (.ireturn, 1) := by decide +kernel
theorem dX9_lay_43 : decode cX9_lay 43 = .ok (.aload_n 0, 1) := by decide +kernel
theorem dX9_lay_44 : decode cX9_lay 44 = .ok (.invokevirtual 91, 3) := by decide +kernel
theorem dX9_lay_47 : decode cX9_lay 47 = .ok (.aload_n 0, 1) := by decide +kernel
theorem dX9_lay_48 : decode cX9_lay 48 = .ok (.getfield 26, 3) := by decide +kernel
theorem dX9_lay_51 : decode cX9_lay 51 = .ok (.invokevirtual 105, 3) := by decide +kernel
theorem dX9_lay_54 : decode cX9_lay 54 = .ok (.ireturn, 1) := by decide +kernel
theorem dX9_place_0 : decode cX9_place 0 = .ok (.aload_n 0, 1) := by decide +kernel
theorem dX9_place_1 : decode cX9_place 1 = .ok (.getfield 26, 3) := by decide +kernel
theorem dX9_place_4 : decode cX9_place 4 = .ok (.iload_n 1, 1) := by decide +kernel
theorem dX9_place_5 : decode cX9_place 5 = .ok (.invokevirtual 108, 3) := by decide +kernel
theorem dX9_place_8 : decode cX9_place 8 = .ok (.ifCond .ne 5, 3) := by decide +kernel
theorem dX9_place_11 : decode cX9_place 11 = .ok (.iconst (-1), 1) := by decide +kernel
theorem dX9_place_12 : decode cX9_place 12 = .ok (.ireturn, 1) := by decide +kernel
theorem dX9_place_13 : decode cX9_place 13 = .ok (.iload_n 2, 1) := by decide +kernel
theorem dX9_place_14 : decode cX9_place 14 = .ok (.tableswitch 61 0 2 #[26, 35, 52], 26) := by decide +kernel
theorem dX9_place_40 : decode cX9_place 40 = .ok (.aload_n 0, 1) := by decide +kernel
theorem dX9_place_41 : decode cX9_place 41 = .ok (.getfield 38, 3) := by decide +kernel
theorem dX9_place_44 : decode cX9_place 44 = .ok (.iload_n 1, 1) := by decide +kernel
theorem dX9_place_45 : decode cX9_place 45 = .ok (.invokevirtual 112, 3) := by decide +kernel
theorem dX9_place_48 : decode cX9_place 48 = .ok (.ireturn, 1) := by decide +kernel
theorem dX9_place_49 : decode cX9_place 49 = .ok (.aload_n 0, 1) := by decide +kernel
theorem dX9_place_50 : decode cX9_place 50 = .ok (.getfield 26, 3) := by decide +kernel
theorem dX9_place_53 : decode cX9_place 53 = .ok (.iload_n 1, 1) := by decide +kernel
theorem dX9_place_54 : decode cX9_place 54 = .ok (.invokevirtual 116, 3) := by decide +kernel
theorem dX9_place_57 : decode cX9_place 57 = .ok (.ifCond .eq 7, 3) := by decide +kernel
theorem dX9_place_60 : decode cX9_place 60 = .ok (.iconst 1, 1) := by decide +kernel
theorem dX9_place_61 : decode cX9_place 61 = .ok (.goto 4, 3) := by decide +kernel
theorem dX9_place_64 : decode cX9_place 64 = .ok (.iconst 0, 1) := by decide +kernel
theorem dX9_place_65 : decode cX9_place 65 = .ok (.ireturn, 1) := by decide +kernel
theorem dX9_place_66 : decode cX9_place 66 = .ok (.aload_n 0, 1) := by decide +kernel
theorem dX9_place_67 : decode cX9_place 67 = .ok (.getfield 38, 3) := by decide +kernel
theorem dX9_place_70 : decode cX9_place 70 = .ok (.iload_n 1, 1) := by decide +kernel
theorem dX9_place_71 : decode cX9_place 71 = .ok (.invokevirtual 119, 3) := by decide +kernel
theorem dX9_place_74 : decode cX9_place 74 = .ok (.ireturn, 1) := by decide +kernel
theorem dX9_place_75 : decode cX9_place 75 = .ok (.iconst (-1), 1) := by decide +kernel
theorem dX9_place_76 : decode cX9_place 76 = .ok (.ireturn, 1) := by decide +kernel
theorem dX9_way_0 : decode cX9_way 0 = .ok (.aload_n 0, 1) := by decide +kernel
theorem dX9_way_1 : decode cX9_way 1 = .ok (.getfield 26, 3) := by decide +kernel
theorem dX9_way_4 : decode cX9_way 4 = .ok (.iload_n 1, 1) := by decide +kernel
theorem dX9_way_5 : decode cX9_way 5 = .ok (.invokevirtual 108, 3) := by decide +kernel
theorem dX9_way_8 : decode cX9_way 8 = .ok (.ifCond .eq 19, 3) := by decide +kernel
theorem dX9_way_11 : decode cX9_way 11 = .ok (.aload_n 0, 1) := by decide +kernel
theorem dX9_way_12 : decode cX9_way 12 = .ok (.getfield 26, 3) := by decide +kernel
theorem dX9_way_15 : decode cX9_way 15 = .ok (.iload_n 2, 1) := by decide +kernel
theorem dX9_way_16 : decode cX9_way 16 = .ok (.invokevirtual 108, 3) := by decide +kernel
theorem dX9_way_19 : decode cX9_way 19 = .ok (.ifCond .eq 8, 3) := by decide +kernel
theorem dX9_way_22 : decode cX9_way 22 = .ok (.iload_n 1, 1) := by decide +kernel
theorem dX9_way_23 : decode cX9_way 23 = .ok (.iload_n 2, 1) := by decide +kernel
theorem dX9_way_24 : decode cX9_way 24 = .ok (.if_icmp .ne 5, 3) := by decide +kernel
theorem dX9_way_27 : decode cX9_way 27 = .ok (.iconst (-1), 1) := by decide +kernel
theorem dX9_way_28 : decode cX9_way 28 = .ok (.ireturn, 1) := by decide +kernel
theorem dX9_way_29 : decode cX9_way 29 = .ok (.aload_n 0, 1) := by decide +kernel
theorem dX9_way_30 : decode cX9_way 30 = .ok (.getfield 26, 3) := by decide +kernel
theorem dX9_way_33 : decode cX9_way 33 = .ok (.iload_n 1, 1) := by decide +kernel
theorem dX9_way_34 : decode cX9_way 34 = .ok (.iload_n 2, 1) := by decide +kernel
theorem dX9_way_35 : decode cX9_way 35 = .ok (.invokevirtual 122, 3) := by decide +kernel
theorem dX9_way_38 : decode cX9_way 38 = .ok (.istore_n 3, 1) := by decide +kernel
theorem dX9_way_39 : decode cX9_way 39 = .ok (.iload_n 3, 1) := by decide +kernel
theorem dX9_way_40 : decode cX9_way 40 = .ok (.ifCond .ne 8, 3) := by decide +kernel
theorem dX9_way_43 : decode cX9_way 43 = .ok (.bipush (-4), 2) := by decide +kernel
theorem dX9_way_45 : decode cX9_way 45 = .ok (.goto 4, 3) := by decide +kernel
theorem dX9_way_48 : decode cX9_way 48 = .ok (.iload_n 3, 1) := by decide +kernel
theorem dX9_way_49 : decode cX9_way 49 = .ok (.ireturn, 1) := by decide +kernel
theorem dX9_door_0 : decode cX9_door 0 = .ok (.aload_n 0, 1) := by decide +kernel
theorem dX9_door_1 : decode cX9_door 1 = .ok (.getfield 26, 3) := by decide +kernel
theorem dX9_door_4 : decode cX9_door 4 = .ok (.iload_n 1, 1) := by decide +kernel
theorem dX9_door_5 : decode cX9_door 5 = .ok (.invokevirtual 126, 3) := by decide +kernel
theorem dX9_door_8 : decode cX9_door 8 = .ok (.ifCond .ne 5, 3) := by decide +kernel
theorem dX9_door_11 : decode cX9_door 11 = .ok (.iconst (-1), 1) := by decide +kernel
theorem dX9_door_12 : decode cX9_door 12 = .ok (.ireturn, 1) := by decide +kernel
theorem dX9_door_13 : decode cX9_door 13 = .ok (.iload_n 2, 1) := by decide +kernel
theorem dX9_door_14 : decode cX9_door 14 = .ok (.lookupswitch 44 #[(0, 26), (1, 35)], 26) := by decide +kernel
theorem dX9_door_40 : decode cX9_door 40 = .ok (.aload_n 0, 1) := by decide +kernel
theorem dX9_door_41 : decode cX9_door 41 = .ok (.getfield 26, 3) := by decide +kernel
theorem dX9_door_44 : decode cX9_door 44 = .ok (.iload_n 1, 1) := by decide +kernel
theorem dX9_door_45 : decode cX9_door 45 = .ok (.invokevirtual 129, 3) := by decide +kernel
theorem dX9_door_48 : decode cX9_door 48 = .ok (.ireturn, 1) := by decide +kernel
theorem dX9_door_49 : decode cX9_door 49 = .ok (.aload_n 0, 1) := by decide +kernel
theorem dX9_door_50 : decode cX9_door 50 = .ok (.getfield 26, 3) := by decide +kernel
theorem dX9_door_53 : decode cX9_door 53 = .ok (.iload_n 1, 1) := by decide +kernel
theorem dX9_door_54 : decode cX9_door 54 = .ok (.invokevirtual 132, 3) := by decide +kernel
theorem dX9_door_57 : decode cX9_door 57 = .ok (.ireturn, 1) := by decide +kernel
theorem dX9_door_58 : decode cX9_door 58 = .ok (.iconst (-1), 1) := by decide +kernel
theorem dX9_door_59 : decode cX9_door 59 = .ok (.ireturn, 1) := by decide +kernel
theorem dX9_beast_0 : decode cX9_beast 0 = .ok (.aload_n 0, 1) := by decide +kernel
theorem dX9_beast_1 : decode cX9_beast 1 = .ok (.getfield 26, 3) := by decide +kernel
theorem dX9_beast_4 : decode cX9_beast 4 = .ok (.iload_n 1, 1) := by decide +kernel
theorem dX9_beast_5 : decode cX9_beast 5 = .ok (.invokevirtual 135, 3) := by decide +kernel
theorem dX9_beast_8 : decode cX9_beast 8 = .ok (.ifCond .ne 5, 3) := by decide +kernel
theorem dX9_beast_11 : decode cX9_beast 11 = .ok (.iconst (-1), 1) := by decide +kernel
theorem dX9_beast_12 : decode cX9_beast 12 = .ok (.ireturn, 1) := by decide +kernel
theorem dX9_beast_13 : decode cX9_beast 13 = .ok (.iload_n 2, 1) := by decide +kernel
theorem dX9_beast_14 : decode cX9_beast 14 = .ok (.tableswitch 124 0 7 #[46, 55, 64, 74, 84, 94, 104, 114], 46) := by decide +kernel
theorem dX9_beast_60 : decode cX9_beast 60 = .ok (.aload_n 0, 1) := by decide +kernel
theorem dX9_beast_61 : decode cX9_beast 61 = .ok (.getfield 26, 3) := by decide +kernel
theorem dX9_beast_64 : decode cX9_beast 64 = .ok (.iload_n 1, 1) := by decide +kernel
theorem dX9_beast_65 : decode cX9_beast 65 = .ok (.invokevirtual 138, 3) := by decide +kernel
theorem dX9_beast_68 : decode cX9_beast 68 = .ok (.ireturn, 1) := by decide +kernel
theorem dX9_beast_69 : decode cX9_beast 69 = .ok (.aload_n 0, 1) := by decide +kernel
theorem dX9_beast_70 : decode cX9_beast 70 = .ok (.getfield 26, 3) := by decide +kernel
theorem dX9_beast_73 : decode cX9_beast 73 = .ok (.iload_n 1, 1) := by decide +kernel
theorem dX9_beast_74 : decode cX9_beast 74 = .ok (.invokevirtual 141, 3) := by decide +kernel
theorem dX9_beast_77 : decode cX9_beast 77 = .ok (.ireturn, 1) := by decide +kernel
theorem dX9_beast_78 : decode cX9_beast 78 = .ok (.aload_n 0, 1) := by decide +kernel
theorem dX9_beast_79 : decode cX9_beast 79 = .ok (.getfield 38, 3) := by decide +kernel
theorem dX9_beast_82 : decode cX9_beast 82 = .ok (.iload_n 1, 1) := by decide +kernel
theorem dX9_beast_83 : decode cX9_beast 83 = .ok (.iconst 0, 1) := by decide +kernel
theorem dX9_beast_84 : decode cX9_beast 84 = .ok (.invokevirtual 144, 3) := by decide +kernel
theorem dX9_beast_87 : decode cX9_beast 87 = .ok (.ireturn, 1) := by decide +kernel
theorem dX9_beast_88 : decode cX9_beast 88 = .ok (.aload_n 0, 1) := by decide +kernel
theorem dX9_beast_89 : decode cX9_beast 89 = .ok (.getfield 38, 3) := by decide +kernel
theorem dX9_beast_92 : decode cX9_beast 92 = .ok (.iload_n 1, 1) := by decide +kernel
theorem dX9_beast_93 : decode cX9_beast 93 = .ok (.iconst 1, 1) := by decide +kernel
theorem dX9_beast_94 : decode cX9_beast 94 = .ok (.invokevirtual 144, 3) := by decide +kernel
theorem dX9_beast_97 : decode cX9_beast 97 = .ok (.ireturn, 1) := by decide +kernel
theorem dX9_beast_98 : decode cX9_beast 98 = .ok (.aload_n 0, 1) := by decide +kernel
theorem dX9_beast_99 : decode cX9_beast 99 = .ok (.getfield 38, 3) := by decide +kernel
theorem dX9_beast_102 : decode cX9_beast 102 = .ok (.iload_n 1, 1) := by decide +kernel
theorem dX9_beast_103 : decode cX9_beast 103 = .ok (.iconst 2, 1) := by decide +kernel
theorem dX9_beast_104 : decode cX9_beast 104 = .ok (.invokevirtual 144, 3) := by decide +kernel
theorem dX9_beast_107 : decode cX9_beast 107 = .ok (.ireturn, 1) := by decide +kernel
theorem dX9_beast_108 : decode cX9_beast 108 = .ok (.aload_n 0, 1) := by decide +kernel
theorem dX9_beast_109 : decode cX9_beast 109 = .ok (.getfield 38, 3) := by decide +kernel
theorem dX9_beast_112 : decode cX9_beast 112 = .ok (.iload_n 1, 1) := by decide +kernel
theorem dX9_beast_113 : decode cX9_beast 113 = .ok (.iconst 3, 1) := by decide +kernel
theorem dX9_beast_114 : decode cX9_beast 114 = .ok (.invokevirtual 144, 3) := by decide +kernel
theorem dX9_beast_117 : decode cX9_beast 117 = .ok (.ireturn, 1) := by decide +kernel
theorem dX9_beast_118 : decode cX9_beast 118 = .ok (.aload_n 0, 1) := by decide +kernel
theorem dX9_beast_119 : decode cX9_beast 119 = .ok (.getfield 38, 3) := by decide +kernel
theorem dX9_beast_122 : decode cX9_beast 122 = .ok (.iload_n 1, 1) := by decide +kernel
theorem dX9_beast_123 : decode cX9_beast 123 = .ok (.iconst 4, 1) := by decide +kernel
theorem dX9_beast_124 : decode cX9_beast 124 = .ok (.invokevirtual 144, 3) := by decide +kernel
theorem dX9_beast_127 : decode cX9_beast 127 = .ok (.ireturn, 1) := by decide +kernel
theorem dX9_beast_128 : decode cX9_beast 128 = .ok (.aload_n 0, 1) := by decide +kernel
theorem dX9_beast_129 : decode cX9_beast 129 = .ok (.getfield 38, 3) := by decide +kernel
theorem dX9_beast_132 : decode cX9_beast 132 = .ok (.iload_n 1, 1) := by decide +kernel
theorem dX9_beast_133 : decode cX9_beast 133 = .ok (.iconst 5, 1) := by decide +kernel
theorem dX9_beast_134 : decode cX9_beast 134 = .ok (.invokevirtual 144, 3) := by decide +kernel
theorem dX9_beast_137 : decode cX9_beast 137 = .ok (.ireturn, 1) := by decide +kernel
theorem dX9_beast_138 : decode cX9_beast 138 = .ok (.iconst (-1), 1) := by decide +kernel
theorem dX9_beast_139 : decode cX9_beast 139 = .ok (.ireturn, 1) := by decide +kernel
theorem dX9_sign_0 : decode cX9_sign 0 = .ok (.aload_n 0, 1) := by decide +kernel
theorem dX9_sign_1 : decode cX9_sign 1 = .ok (.getfield 26, 3) := by decide +kernel
theorem dX9_sign_4 : decode cX9_sign 4 = .ok (.iload_n 1, 1) := by decide +kernel
theorem dX9_sign_5 : decode cX9_sign 5 = .ok (.invokevirtual 135, 3) := by decide +kernel
theorem dX9_sign_8 : decode cX9_sign 8 = .ok (.ifCond .eq 12, 3) := by decide +kernel
theorem dX9_sign_11 : decode cX9_sign 11 = .ok (.iload_n 2, 1) := by decide +kernel
theorem dX9_sign_12 : decode cX9_sign 12 = .ok (.ifCond .lt 8, 3) := by decide +kernel
theorem dX9_sign_15 : decode cX9_sign 15 = .ok (.iload_n 2, 1) := by decide +kernel
theorem dX9_sign_16 : decode cX9_sign 16 = .ok (.iconst 2, 1) := by decide +kernel
theorem dX9_sign_17 : decode cX9_sign 17 = .ok (.if_icmp .le 5, 3) := by decide +kernel
theorem dX9_sign_20 : decode cX9_sign 20 = .ok (.iconst (-1), 1) := by decide +kernel
theorem dX9_sign_21 : decode cX9_sign 21 = .ok (.ireturn, 1) := by decide +kernel
theorem dX9_sign_22 : decode cX9_sign 22 = .ok (.aload_n 0, 1) := by decide +kernel
theorem dX9_sign_23 : decode cX9_sign 23 = .ok (.getfield 38, 3) := by decide +kernel
theorem dX9_sign_26 : decode cX9_sign 26 = .ok (.iload_n 1, 1) := by decide +kernel
theorem dX9_sign_27 : decode cX9_sign 27 = .ok (.invokevirtual 147, 3) := by decide +kernel
theorem dX9_sign_30 : decode cX9_sign 30 = .ok (.ifCond .ne 6, 3) := by decide +kernel
theorem dX9_sign_33 : decode cX9_sign 33 = .ok (.bipush (-2), 2) := by decide +kernel
theorem dX9_sign_35 : decode cX9_sign 35 = .ok (.ireturn, 1) := by decide +kernel
theorem dX9_sign_36 : decode cX9_sign 36 = .ok (.iload_n 2, 1) := by decide +kernel
theorem dX9_sign_37 : decode cX9_sign 37 = .ok (.lookupswitch 57 #[(0, 27), (1, 46)], 27) := by decide +kernel
theorem dX9_sign_64 : decode cX9_sign 64 = .ok (.aload_n 0, 1) := by decide +kernel
theorem dX9_sign_65 : decode cX9_sign 65 = .ok (.getfield 38, 3) := by decide +kernel
theorem dX9_sign_68 : decode cX9_sign 68 = .ok (.iload_n 1, 1) := by decide +kernel
theorem dX9_sign_69 : decode cX9_sign 69 = .ok (.aload_n 0, 1) := by decide +kernel
theorem dX9_sign_70 : decode cX9_sign 70 = .ok (.getfield 38, 3) := by decide +kernel
theorem dX9_sign_73 : decode cX9_sign 73 = .ok (.iload_n 1, 1) := by decide +kernel
theorem dX9_sign_74 : decode cX9_sign 74 = .ok (.bipush 6, 2) := by decide +kernel
theorem dX9_sign_76 : decode cX9_sign 76 = .ok (.invokevirtual 144, 3) := by decide +kernel
theorem dX9_sign_79 : decode cX9_sign 79 = .ok (.invokevirtual 150, 3) := by decide +kernel
theorem dX9_sign_82 : decode cX9_sign 82 = .ok (.ireturn, 1) := by decide +kernel
theorem dX9_sign_83 : decode cX9_sign 83 = .ok (.aload_n 0, 1) := by decide +kernel
theorem dX9_sign_84 : decode cX9_sign 84 = .ok (.getfield 38, 3) := by decide +kernel
theorem dX9_sign_87 : decode cX9_sign 87 = .ok (.iload_n 1, 1) := by decide +kernel
theorem dX9_sign_88 : decode cX9_sign 88 = .ok (.bipush 7, 2) := by decide +kernel
theorem dX9_sign_90 : decode cX9_sign 90 = .ok (.invokevirtual 144, 3) := by decide +kernel
theorem dX9_sign_93 : decode cX9_sign 93 = .ok (.ireturn, 1) := by decide +kernel
theorem dX9_sign_94 : decode cX9_sign 94 = .ok (.aload_n 0, 1) := by decide +kernel
theorem dX9_sign_95 : decode cX9_sign 95 = .ok (.getfield 38, 3) := by decide +kernel
theorem dX9_sign_98 : decode cX9_sign 98 = .ok (.iload_n 1, 1) := by decide +kernel
theorem dX9_sign_99 : decode cX9_sign 99 = .ok (.bipush 8, 2) := by decide +kernel
theorem dX9_sign_101 : decode cX9_sign 101 = .ok (.invokevirtual 144, 3) := by decide +kernel
theorem dX9_sign_104 : decode cX9_sign 104 = .ok (.ireturn, 1) := by decide +kernel
theorem dX9_isVerdict_0 : decode cX9_isVerdict 0 = .ok (.iload_n 0, 1) := by decide +kernel
theorem dX9_isVerdict_1 : decode cX9_isVerdict 1 = .ok (.ifCond .lt 13, 3) := by decide +kernel
theorem dX9_isVerdict_4 : decode cX9_isVerdict 4 = .ok (.iload_n 0, 1) := by decide +kernel
theorem dX9_isVerdict_5 : decode cX9_isVerdict 5 = .ok (.bipush 7, 2) := by decide +kernel
theorem dX9_isVerdict_7 : decode cX9_isVerdict 7 = .ok (.if_icmp .gt 7, 3) := by decide +kernel
theorem dX9_isVerdict_10 : decode cX9_isVerdict 10 = .ok (.iconst 1, 1) := by decide +kernel
theorem dX9_isVerdict_11 : decode cX9_isVerdict 11 = .ok (.goto 4, 3) := by decide +kernel
theorem dX9_isVerdict_14 : decode cX9_isVerdict 14 = .ok (.iconst 0, 1) := by decide +kernel
theorem dX9_isVerdict_15 : decode cX9_isVerdict 15 = .ok (.ireturn, 1) := by decide +kernel
theorem dX9_send_0 : decode cX9_send 0 = .ok (.aload_n 0, 1) := by decide +kernel
theorem dX9_send_1 : decode cX9_send 1 = .ok (.getfield 26, 3) := by decide +kernel
theorem dX9_send_4 : decode cX9_send 4 = .ok (.iload_n 1, 1) := by decide +kernel
theorem dX9_send_5 : decode cX9_send 5 = .ok (.invokevirtual 135, 3) := by decide +kernel
theorem dX9_send_8 : decode cX9_send 8 = .ok (.ifCond .eq 21, 3) := by decide +kernel
theorem dX9_send_11 : decode cX9_send 11 = .ok (.iload_n 2, 1) := by decide +kernel
theorem dX9_send_12 : decode cX9_send 12 = .ok (.invokestatic 153, 3) := by decide +kernel
theorem dX9_send_15 : decode cX9_send 15 = .ok (.ifCond .eq 14, 3) := by decide +kernel
theorem dX9_send_18 : decode cX9_send 18 = .ok (.aload_n 0, 1) := by decide +kernel
theorem dX9_send_19 : decode cX9_send 19 = .ok (.getfield 26, 3) := by decide +kernel
theorem dX9_send_22 : decode cX9_send 22 = .ok (.iload_n 3, 1) := by decide +kernel
theorem dX9_send_23 : decode cX9_send 23 = .ok (.invokevirtual 126, 3) := by decide +kernel
theorem dX9_send_26 : decode cX9_send 26 = .ok (.ifCond .ne 5, 3) := by decide +kernel
theorem dX9_send_29 : decode cX9_send 29 = .ok (.iconst (-1), 1) := by decide +kernel
theorem dX9_send_30 : decode cX9_send 30 = .ok (.ireturn, 1) := by decide +kernel
theorem dX9_send_31 : decode cX9_send 31 = .ok (.aload_n 0, 1) := by decide +kernel
theorem dX9_send_32 : decode cX9_send 32 = .ok (.getfield 38, 3) := by decide +kernel
theorem dX9_send_35 : decode cX9_send 35 = .ok (.iload_n 1, 1) := by decide +kernel
theorem dX9_send_36 : decode cX9_send 36 = .ok (.iload_n 3, 1) := by decide +kernel
theorem dX9_send_37 : decode cX9_send 37 = .ok (.invokevirtual 156, 3) := by decide +kernel
theorem dX9_send_40 : decode cX9_send 40 = .ok (.ifCond .ne 6, 3) := by decide +kernel
theorem dX9_send_43 : decode cX9_send 43 = .ok (.bipush (-2), 2) := by decide +kernel
theorem dX9_send_45 : decode cX9_send 45 = .ok (.ireturn, 1) := by decide +kernel
theorem dX9_send_46 : decode cX9_send 46 = .ok (.aload_n 0, 1) := by decide +kernel
theorem dX9_send_47 : decode cX9_send 47 = .ok (.getfield 47, 3) := by decide +kernel
theorem dX9_send_50 : decode cX9_send 50 = .ok (.aload_n 0, 1) := by decide +kernel
theorem dX9_send_51 : decode cX9_send 51 = .ok (.getfield 38, 3) := by decide +kernel
theorem dX9_send_54 : decode cX9_send 54 = .ok (.invokevirtual 160, 3) := by decide +kernel
theorem dX9_send_57 : decode cX9_send 57 = .ok (.aload_n 0, 1) := by decide +kernel
theorem dX9_send_58 : decode cX9_send 58 = .ok (.getfield 38, 3) := by decide +kernel
theorem dX9_send_61 : decode cX9_send 61 = .ok (.iload_n 1, 1) := by decide +kernel
theorem dX9_send_62 : decode cX9_send 62 = .ok (.iload_n 2, 1) := by decide +kernel
theorem dX9_send_63 : decode cX9_send 63 = .ok (.iload_n 3, 1) := by decide +kernel
theorem dX9_send_64 : decode cX9_send 64 = .ok (.invokevirtual 164, 3) := by decide +kernel
theorem dX9_send_67 : decode cX9_send 67 = .ok (.aload_n 0, 1) := by decide +kernel
theorem dX9_send_68 : decode cX9_send 68 = .ok (.getfield 38, 3) := by decide +kernel
theorem dX9_send_71 : decode cX9_send 71 = .ok (.iload_n 1, 1) := by decide +kernel
theorem dX9_send_72 : decode cX9_send 72 = .ok (.iconst 0, 1) := by decide +kernel
theorem dX9_send_73 : decode cX9_send 73 = .ok (.invokevirtual 144, 3) := by decide +kernel
theorem dX9_send_76 : decode cX9_send 76 = .ok (.ireturn, 1) := by decide +kernel
theorem dX9_pass_0 : decode cX9_pass 0 = .ok (.iload_n 1, 1) := by decide +kernel
theorem dX9_pass_1 : decode cX9_pass 1 = .ok (.iconst 1, 1) := by decide +kernel
theorem dX9_pass_2 : decode cX9_pass 2 = .ok (.if_icmp .lt 9, 3) := by decide +kernel
theorem dX9_pass_5 : decode cX9_pass 5 = .ok (.iload_n 1, 1) := by decide +kernel
theorem dX9_pass_6 : decode cX9_pass 6 = .ok (.bipush 24, 2) := by decide +kernel
theorem dX9_pass_8 : decode cX9_pass 8 = .ok (.if_icmp .le 5, 3) := by decide +kernel
theorem dX9_pass_11 : decode cX9_pass 11 = .ok (.iconst (-1), 1) := by decide +kernel
theorem dX9_pass_12 : decode cX9_pass 12 = .ok (.ireturn, 1) := by decide +kernel
theorem dX9_pass_13 : decode cX9_pass 13 = .ok (.aload_n 0, 1) := by decide +kernel
theorem dX9_pass_14 : decode cX9_pass 14 = .ok (.getfield 47, 3) := by decide +kernel
theorem dX9_pass_17 : decode cX9_pass 17 = .ok (.aload_n 0, 1) := by decide +kernel
theorem dX9_pass_18 : decode cX9_pass 18 = .ok (.getfield 38, 3) := by decide +kernel
theorem dX9_pass_21 : decode cX9_pass 21 = .ok (.invokevirtual 160, 3) := by decide +kernel
theorem dX9_pass_24 : decode cX9_pass 24 = .ok (.iconst 0, 1) := by decide +kernel
theorem dX9_pass_25 : decode cX9_pass 25 = .ok (.istore_n 2, 1) := by decide +kernel
theorem dX9_pass_26 : decode cX9_pass 26 = .ok (.iload_n 2, 1) := by decide +kernel
theorem dX9_pass_27 : decode cX9_pass 27 = .ok (.iload_n 1, 1) := by decide +kernel
theorem dX9_pass_28 : decode cX9_pass 28 = .ok (.if_icmp .ge 18, 3) := by decide +kernel
theorem dX9_pass_31 : decode cX9_pass 31 = .ok (.aload_n 0, 1) := by decide +kernel
theorem dX9_pass_32 : decode cX9_pass 32 = .ok (.getfield 38, 3) := by decide +kernel
theorem dX9_pass_35 : decode cX9_pass 35 = .ok (.bipush (-4), 2) := by decide +kernel
theorem dX9_pass_37 : decode cX9_pass 37 = .ok (.invokevirtual 168, 3) := by decide +kernel
theorem dX9_pass_40 : decode cX9_pass 40 = .ok (.iinc 2 1, 3) := by decide +kernel
theorem dX9_pass_43 : decode cX9_pass 43 = .ok (.goto (-17), 3) := by decide +kernel
theorem dX9_pass_46 : decode cX9_pass 46 = .ok (.aload_n 0, 1) := by decide +kernel
theorem dX9_pass_47 : decode cX9_pass 47 = .ok (.getfield 38, 3) := by decide +kernel
theorem dX9_pass_50 : decode cX9_pass 50 = .ok (.invokevirtual 172, 3) := by decide +kernel
theorem dX9_pass_53 : decode cX9_pass 53 = .ok (.ireturn, 1) := by decide +kernel
theorem dX9_home_0 : decode cX9_home 0 = .ok (.aload_n 0, 1) := by decide +kernel
theorem dX9_home_1 : decode cX9_home 1 = .ok (.getfield 26, 3) := by decide +kernel
theorem dX9_home_4 : decode cX9_home 4 = .ok (.iload_n 1, 1) := by decide +kernel
theorem dX9_home_5 : decode cX9_home 5 = .ok (.invokevirtual 135, 3) := by decide +kernel
theorem dX9_home_8 : decode cX9_home 8 = .ok (.ifCond .ne 5, 3) := by decide +kernel
theorem dX9_home_11 : decode cX9_home 11 = .ok (.iconst (-1), 1) := by decide +kernel
theorem dX9_home_12 : decode cX9_home 12 = .ok (.ireturn, 1) := by decide +kernel
theorem dX9_home_13 : decode cX9_home 13 = .ok (.aload_n 0, 1) := by decide +kernel
theorem dX9_home_14 : decode cX9_home 14 = .ok (.getfield 38, 3) := by decide +kernel
theorem dX9_home_17 : decode cX9_home 17 = .ok (.iload_n 1, 1) := by decide +kernel
theorem dX9_home_18 : decode cX9_home 18 = .ok (.iconst 2, 1) := by decide +kernel
theorem dX9_home_19 : decode cX9_home 19 = .ok (.invokevirtual 175, 3) := by decide +kernel
theorem dX9_home_22 : decode cX9_home 22 = .ok (.ifCond .ne 6, 3) := by decide +kernel
theorem dX9_home_25 : decode cX9_home 25 = .ok (.bipush (-2), 2) := by decide +kernel
theorem dX9_home_27 : decode cX9_home 27 = .ok (.ireturn, 1) := by decide +kernel
theorem dX9_home_28 : decode cX9_home 28 = .ok (.aload_n 0, 1) := by decide +kernel
theorem dX9_home_29 : decode cX9_home 29 = .ok (.getfield 47, 3) := by decide +kernel
theorem dX9_home_32 : decode cX9_home 32 = .ok (.aload_n 0, 1) := by decide +kernel
theorem dX9_home_33 : decode cX9_home 33 = .ok (.getfield 38, 3) := by decide +kernel
theorem dX9_home_36 : decode cX9_home 36 = .ok (.invokevirtual 160, 3) := by decide +kernel
theorem dX9_home_39 : decode cX9_home 39 = .ok (.aload_n 0, 1) := by decide +kernel
theorem dX9_home_40 : decode cX9_home 40 = .ok (.getfield 38, 3) := by decide +kernel
theorem dX9_home_43 : decode cX9_home 43 = .ok (.iload_n 1, 1) := by decide +kernel
theorem dX9_home_44 : decode cX9_home 44 = .ok (.invokevirtual 178, 3) := by decide +kernel
theorem dX9_home_47 : decode cX9_home 47 = .ok (.istore_n 2, 1) := by decide +kernel
theorem dX9_home_48 : decode cX9_home 48 = .ok (.aload_n 0, 1) := by decide +kernel
theorem dX9_home_49 : decode cX9_home 49 = .ok (.getfield 38, 3) := by decide +kernel
theorem dX9_home_52 : decode cX9_home 52 = .ok (.iload_n 1, 1) := by decide +kernel
theorem dX9_home_53 : decode cX9_home 53 = .ok (.invokevirtual 181, 3) := by decide +kernel
theorem dX9_home_56 : decode cX9_home 56 = .ok (.iload_n 2, 1) := by decide +kernel
theorem dX9_home_57 : decode cX9_home 57 = .ok (.ireturn, 1) := by decide +kernel
theorem dX9_carrots_0 : decode cX9_carrots 0 = .ok (.aload_n 0, 1) := by decide +kernel
theorem dX9_carrots_1 : decode cX9_carrots 1 = .ok (.getfield 26, 3) := by decide +kernel
theorem dX9_carrots_4 : decode cX9_carrots 4 = .ok (.iload_n 1, 1) := by decide +kernel
theorem dX9_carrots_5 : decode cX9_carrots 5 = .ok (.invokevirtual 108, 3) := by decide +kernel
theorem dX9_carrots_8 : decode cX9_carrots 8 = .ok (.ifCond .eq 13, 3) := by decide +kernel
theorem dX9_carrots_11 : decode cX9_carrots 11 = .ok (.iload_n 2, 1) := by decide +kernel
theorem dX9_carrots_12 : decode cX9_carrots 12 = .ok (.ifCond .lt 9, 3) := by decide +kernel
theorem dX9_carrots_15 : decode cX9_carrots 15 = .ok (.iload_n 2, 1) := by decide +kernel
theorem dX9_carrots_16 : decode cX9_carrots 16 = .ok (.bipush 9, 2) := by decide +kernel
theorem dX9_carrots_18 : decode cX9_carrots 18 = .ok (.if_icmp .le 5, 3) := by decide +kernel
theorem dX9_carrots_21 : decode cX9_carrots 21 = .ok (.iconst (-1), 1) := by decide +kernel
theorem dX9_carrots_22 : decode cX9_carrots 22 = .ok (.ireturn, 1) := by decide +kernel
theorem dX9_carrots_23 : decode cX9_carrots 23 = .ok (.aload_n 0, 1) := by decide +kernel
theorem dX9_carrots_24 : decode cX9_carrots 24 = .ok (.getfield 47, 3) := by decide +kernel
theorem dX9_carrots_27 : decode cX9_carrots 27 = .ok (.aload_n 0, 1) := by decide +kernel
theorem dX9_carrots_28 : decode cX9_carrots 28 = .ok (.getfield 38, 3) := by decide +kernel
theorem dX9_carrots_31 : decode cX9_carrots 31 = .ok (.invokevirtual 160, 3) := by decide +kernel
theorem dX9_carrots_34 : decode cX9_carrots 34 = .ok (.aload_n 0, 1) := by decide +kernel
theorem dX9_carrots_35 : decode cX9_carrots 35 = .ok (.getfield 38, 3) := by decide +kernel
theorem dX9_carrots_38 : decode cX9_carrots 38 = .ok (.iload_n 1, 1) := by decide +kernel
theorem dX9_carrots_39 : decode cX9_carrots 39 = .ok (.invokevirtual 112, 3) := by decide +kernel
theorem dX9_carrots_42 : decode cX9_carrots 42 = .ok (.istore_n 3, 1) := by decide +kernel
theorem dX9_carrots_43 : decode cX9_carrots 43 = .ok (.aload_n 0, 1) := by decide +kernel
theorem dX9_carrots_44 : decode cX9_carrots 44 = .ok (.getfield 38, 3) := by decide +kernel
theorem dX9_carrots_47 : decode cX9_carrots 47 = .ok (.iload_n 1, 1) := by decide +kernel
theorem dX9_carrots_48 : decode cX9_carrots 48 = .ok (.iload_n 2, 1) := by decide +kernel
theorem dX9_carrots_49 : decode cX9_carrots 49 = .ok (.invokevirtual 184, 3) := by decide +kernel
theorem dX9_carrots_52 : decode cX9_carrots 52 = .ok (.iload_n 3, 1) := by decide +kernel
theorem dX9_carrots_53 : decode cX9_carrots 53 = .ok (.ireturn, 1) := by decide +kernel
theorem dX9_undo_0 : decode cX9_undo 0 = .ok (.aload_n 0, 1) := by decide +kernel
theorem dX9_undo_1 : decode cX9_undo 1 = .ok (.getfield 47, 3) := by decide +kernel
theorem dX9_undo_4 : decode cX9_undo 4 = .ok (.aload_n 0, 1) := by decide +kernel
theorem dX9_undo_5 : decode cX9_undo 5 = .ok (.getfield 38, 3) := by decide +kernel
theorem dX9_undo_8 : decode cX9_undo 8 = .ok (.invokevirtual 188, 3) := by decide +kernel
theorem dX9_undo_11 : decode cX9_undo 11 = .ok (.ifCond .eq 13, 3) := by decide +kernel
theorem dX9_undo_14 : decode cX9_undo 14 = .ok (.aload_n 0, 1) := by decide +kernel
theorem dX9_undo_15 : decode cX9_undo 15 = .ok (.getfield 47, 3) := by decide +kernel
theorem dX9_undo_18 : decode cX9_undo 18 = .ok (.invokevirtual 192, 3) := by decide +kernel
theorem dX9_undo_21 : decode cX9_undo 21 = .ok (.goto 5, 3) := by decide +kernel
theorem dX9_undo_24 : decode cX9_undo 24 = .ok (.bipush (-2), 2) := by decide +kernel
theorem dX9_undo_26 : decode cX9_undo 26 = .ok (.ireturn, 1) := by decide +kernel
theorem dX9_arrives_0 : decode cX9_arrives 0 = .ok (.aload_n 0, 1) := by decide +kernel
theorem dX9_arrives_1 : decode cX9_arrives 1 = .ok (.getfield 26, 3) := by decide +kernel
theorem dX9_arrives_4 : decode cX9_arrives 4 = .ok (.iload_n 1, 1) := by decide +kernel
theorem dX9_arrives_5 : decode cX9_arrives 5 = .ok (.invokevirtual 135, 3) := by decide +kernel
theorem dX9_arrives_8 : decode cX9_arrives 8 = .ok (.ifCond .ne 5, 3) := by decide +kernel
theorem dX9_arrives_11 : decode cX9_arrives 11 = .ok (.iconst (-1), 1) := by decide +kernel
theorem dX9_arrives_12 : decode cX9_arrives 12 = .ok (.ireturn, 1) := by decide +kernel
theorem dX9_arrives_13 : decode cX9_arrives 13 = .ok (.aload_n 0, 1) := by decide +kernel
theorem dX9_arrives_14 : decode cX9_arrives 14 = .ok (.getfield 38, 3) := by decide +kernel
theorem dX9_arrives_17 : decode cX9_arrives 17 = .ok (.iload_n 1, 1) := by decide +kernel
theorem dX9_arrives_18 : decode cX9_arrives 18 = .ok (.invokevirtual 147, 3) := by decide +kernel
theorem dX9_arrives_21 : decode cX9_arrives 21 = .ok (.ifCond .eq 18, 3) := by decide +kernel
theorem dX9_arrives_24 : decode cX9_arrives 24 = .ok (.aload_n 0, 1) := by decide +kernel
theorem dX9_arrives_25 : decode cX9_arrives 25 = .ok (.getfield 57, 3) := by decide +kernel
theorem dX9_arrives_28 : decode cX9_arrives 28 = .ok (.aload_n 0, 1) := by decide +kernel
theorem dX9_arrives_29 : decode cX9_arrives 29 = .ok (.getfield 38, 3) := by decide +kernel
theorem dX9_arrives_32 : decode cX9_arrives 32 = .ok (.iload_n 1, 1) := by decide +kernel
theorem dX9_arrives_33 : decode cX9_arrives 33 = .ok (.invokevirtual 195, 3) := by decide +kernel
theorem dX9_arrives_36 : decode cX9_arrives 36 = .ok (.goto 5, 3) := by decide +kernel
theorem dX9_arrives_39 : decode cX9_arrives 39 = .ok (.bipush (-2), 2) := by decide +kernel
theorem dX9_arrives_41 : decode cX9_arrives 41 = .ok (.ireturn, 1) := by decide +kernel
theorem qX9_write : jYv yX9_write cX9_write 2 (some .int) 1 := ⟨tw_453, tw_454, tw_57, tw_455, ⟨by decide +kernel, by decide +kernel, by decide +kernel⟩⟩
abbrev rX9_write : Room := { frames := 1, cells := 0, slots := 0, locals := 21 }
def uX9_write : jM := (cX9_write, 2, RX9, (some .int), rX9_write)
def pX9_write (fu : Nat) (x1 : Int32) (M : Mem) : Res :=
  if x1 < (32 : Int32) then (
    some ((-1 : Int32), M))
  else
  if x1 ≤ (126 : Int32) then (
    bI (pX5_add fu ((x1).toUInt32 % 65536).toInt32 M) fun r2 M1 =>
    if r2 = 0 then (
      some ((-3 : Int32), M1))
    else
    bI (pX5_length fu  M1) fun r4 M3 =>
    some (r4, M3))
  else
  some ((-1 : Int32), M)
set_option maxRecDepth 100000 in
theorem wX9_write {E : jE} {X : jC} (hX : jOk X uX9_write (gX E)) (fu : Nat)  (x1 : Int32) (M : Mem) : J X uX9_write (gX E) 0 [(0, .ref (gad (gX E) 0)), (1, .int x1)] [] M (pX9_write fu  x1 M) := by
  unfold pX9_write
  refine j_iload_n (pc := 0) hX 1 dX9_write_0 rfl rfl ?_
  refine j_bipush (pc := 1) (v := (32 : Int32)) hX dX9_write_1 cb_32 ?_
  refine j_icmp_lt (pc := 3) hX 12 dX9_write_3 (by decide) ?_ ?_
  · refine j_iconst (pc := 12) (v := (-1 : Int32)) hX dX9_write_12 ci_m1 ?_
    exact j_iret (pc := 13) hX rfl dX9_write_13
  · refine j_iload_n (pc := 6) hX 1 dX9_write_6 rfl rfl ?_
    refine j_bipush (pc := 7) (v := (126 : Int32)) hX dX9_write_7 cb_126 ?_
    refine j_icmp_le (pc := 9) hX 14 dX9_write_9 (by decide) ?_ ?_
    · refine j_aload_n (pc := 14) hX 0 dX9_write_14 rfl rfl ?_
      refine j_getR (pc := 15) (t := 1) hX (jb rfl) rfl (ci := 8) (C := RX9) (T := TX9) (N := 10) rfl (jb rfl) inX9 (j := 0) (jb rfl) rfl tw_420 dX9_write_15 ?_
      refine j_iload_n (pc := 18) hX 1 dX9_write_18 rfl rfl ?_
      refine j_i2c (pc := 19) hX dX9_write_19 ?_
      refine j_callV (pc := 20) hX [.int ((x1).toUInt32 % 65536).toInt32] (mX5_add _ E hX.2.2.2.2.2.2.2.2.1 fu   ((x1).toUInt32 % 65536).toInt32 M) qX5_add tw_289 (jb rfl) rfl (ci := 5) (T := TX5) (N := 2) rfl (jb rfl) rfl ⟨rfl, rfl⟩ ⟨(Nat.le_of_ble_eq_true rfl), (Nat.le_of_ble_eq_true rfl)⟩ (Nat.le_of_ble_eq_true rfl) dX9_write_20 (fun _ => rfl) rfl (fun r2 M1 => ?_)
      refine j_if_eq (pc := 23) hX 36 dX9_write_23 (by decide) ?_ ?_
      · refine j_bipush (pc := 36) (v := (-3 : Int32)) hX dX9_write_36 cb_m3 ?_
        exact j_iret (pc := 38) hX rfl dX9_write_38
      · refine j_aload_n (pc := 26) hX 0 dX9_write_26 rfl rfl ?_
        refine j_getR (pc := 27) (t := 1) hX (jb rfl) rfl (ci := 8) (C := RX9) (T := TX9) (N := 10) rfl (jb rfl) inX9 (j := 0) (jb rfl) rfl tw_420 dX9_write_27 ?_
        refine j_callV (pc := 30) hX [] (mX5_length _ E hX.2.2.2.2.2.2.2.2.1 fu    M1) qX5_length tw_456 (jb rfl) rfl (ci := 5) (T := TX5) (N := 2) rfl (jb rfl) rfl ⟨rfl, rfl⟩ ⟨(Nat.le_of_ble_eq_true rfl), (Nat.le_of_ble_eq_true rfl)⟩ (Nat.le_of_ble_eq_true rfl) dX9_write_30 (fun _ => rfl) rfl (fun r4 M3 => ?_)
        refine j_goto (pc := 33) hX 38 dX9_write_33 (by decide) ?_
        exact j_iret (pc := 38) hX rfl dX9_write_38
    · refine j_iconst (pc := 12) (v := (-1 : Int32)) hX dX9_write_12 ci_m1 ?_
      exact j_iret (pc := 13) hX rfl dX9_write_13
theorem mX9_write (l : Launch) (E : jE) (hI : jInj (gX E)) (fu : Nat)  (x1 : Int32) (M : Mem) : jMet l (gX E) yX9_write cX9_write 2 (some .int) rX9_write [.ref (gad (gX E) 0), .int x1] M (pX9_write fu  x1 M) :=
  j_entry hI (by decide +kernel) (Nat.le_of_ble_eq_true rfl) rfl (fun X _ hX => wX9_write hX fu   x1 M)
theorem qX9_wipe : jYv yX9_wipe cX9_wipe 2 (some .int) 0 := ⟨tw_458, tw_459, tw_57, tw_460, ⟨by decide +kernel, by decide +kernel, by decide +kernel⟩⟩
abbrev rX9_wipe : Room := { frames := 1, cells := 0, slots := 0, locals := 20 }
def uX9_wipe : jM := (cX9_wipe, 2, RX9, (some .int), rX9_wipe)
def pX9_wipe (fu : Nat)  (M : Mem) : Res :=
  bI (pX5_length fu  M) fun r2 M1 =>
  bV (pX5_clear fu  M1) fun M3 =>
  some (r2, M3)
set_option maxRecDepth 100000 in
theorem wX9_wipe {E : jE} {X : jC} (hX : jOk X uX9_wipe (gX E)) (fu : Nat)   (M : Mem) : J X uX9_wipe (gX E) 0 [(0, .ref (gad (gX E) 0))] [] M (pX9_wipe fu   M) := by
  unfold pX9_wipe
  refine j_aload_n (pc := 0) hX 0 dX9_wipe_0 rfl rfl ?_
  refine j_getR (pc := 1) (t := 1) hX (jb rfl) rfl (ci := 8) (C := RX9) (T := TX9) (N := 10) rfl (jb rfl) inX9 (j := 0) (jb rfl) rfl tw_420 dX9_wipe_1 ?_
  refine j_callV (pc := 4) hX [] (mX5_length _ E hX.2.2.2.2.2.2.2.2.1 fu    M) qX5_length tw_456 (jb rfl) rfl (ci := 5) (T := TX5) (N := 2) rfl (jb rfl) rfl ⟨rfl, rfl⟩ ⟨(Nat.le_of_ble_eq_true rfl), (Nat.le_of_ble_eq_true rfl)⟩ (Nat.le_of_ble_eq_true rfl) dX9_wipe_4 (fun _ => rfl) rfl (fun r2 M1 => ?_)
  refine j_istore_n (pc := 7) (lv' := [(1, .int r2), (0, .ref (gad (gX E) 0))]) hX dX9_wipe_7 rfl (jb rfl) rfl ?_
  refine j_aload_n (pc := 8) hX 1 dX9_wipe_8 rfl rfl ?_
  refine j_getR (pc := 9) (t := 1) hX (jb rfl) rfl (ci := 8) (C := RX9) (T := TX9) (N := 10) rfl (jb rfl) inX9 (j := 0) (jb rfl) rfl tw_420 dX9_wipe_9 ?_
  refine j_callVv (pc := 12) hX [] (mX5_clear _ E hX.2.2.2.2.2.2.2.2.1 fu    M1) qX5_clear tw_416 (jb rfl) rfl (ci := 5) (T := TX5) (N := 2) rfl (jb rfl) rfl ⟨rfl, rfl⟩ ⟨(Nat.le_of_ble_eq_true rfl), (Nat.le_of_ble_eq_true rfl)⟩ (Nat.le_of_ble_eq_true rfl) dX9_wipe_12 rfl (fun M3 => ?_)
  refine j_iload_n (pc := 15) hX 0 dX9_wipe_15 rfl rfl ?_
  exact j_iret (pc := 16) hX rfl dX9_wipe_16
theorem mX9_wipe (l : Launch) (E : jE) (hI : jInj (gX E)) (fu : Nat)   (M : Mem) : jMet l (gX E) yX9_wipe cX9_wipe 2 (some .int) rX9_wipe [.ref (gad (gX E) 0)] M (pX9_wipe fu   M) :=
  j_entry hI (by decide +kernel) (Nat.le_of_ble_eq_true rfl) rfl (fun X _ hX => wX9_wipe hX fu    M)
theorem qX9_fault : jYv yX9_fault cX9_fault 1 (some .int) 0 := ⟨tw_462, tw_463, tw_57, tw_464, ⟨by decide +kernel, by decide +kernel, by decide +kernel⟩⟩
abbrev rX9_fault : Room := { frames := 4, cells := 0, slots := 0, locals := 96 }
def uX9_fault : jM := (cX9_fault, 1, RX9, (some .int), rX9_fault)
def pX9_fault (fu : Nat)  (M : Mem) : Res :=
  bI (pX7_firstFault fu 16 M) fun r2 M1 =>
  some (r2, M1)
set_option maxRecDepth 100000 in
theorem wX9_fault {E : jE} {X : jC} (hX : jOk X uX9_fault (gX E)) (fu : Nat)   (M : Mem) : J X uX9_fault (gX E) 0 [(0, .ref (gad (gX E) 0))] [] M (pX9_fault fu   M) := by
  unfold pX9_fault
  refine j_aload_n (pc := 0) hX 0 dX9_fault_0 rfl rfl ?_
  refine j_getR (pc := 1) (t := 3) hX (jb rfl) rfl (ci := 8) (C := RX9) (T := TX9) (N := 10) rfl (jb rfl) inX9 (j := 1) (jb rfl) rfl tw_421 dX9_fault_1 ?_
  refine j_aload_n (pc := 4) hX 0 dX9_fault_4 rfl rfl ?_
  refine j_getR (pc := 5) (t := 1) hX (jb rfl) rfl (ci := 8) (C := RX9) (T := TX9) (N := 10) rfl (jb rfl) inX9 (j := 0) (jb rfl) rfl tw_420 dX9_fault_5 ?_
  refine j_aload_n (pc := 8) hX 0 dX9_fault_8 rfl rfl ?_
  refine j_getR (pc := 9) (t := 16) hX (jb rfl) rfl (ci := 8) (C := RX9) (T := TX9) (N := 10) rfl (jb rfl) inX9 (j := 3) (jb rfl) rfl tw_423 dX9_fault_9 ?_
  refine j_callV (pc := 12) hX [.ref (gad (gX E) 1), .ref (gad (gX E) 16)] (mX7_firstFault _ E hX.2.2.2.2.2.2.2.2.1 fu 16 rfl  M) qX7_firstFault tw_297 (jb rfl) rfl (ci := 6) (T := TX7) (N := 3) rfl (jb rfl) rfl ⟨rfl, rfl⟩ ⟨(Nat.le_of_ble_eq_true rfl), (Nat.le_of_ble_eq_true rfl)⟩ (Nat.le_of_ble_eq_true rfl) dX9_fault_12 (fun _ => rfl) rfl (fun r2 M1 => ?_)
  exact j_iret (pc := 15) hX rfl dX9_fault_15
theorem mX9_fault (l : Launch) (E : jE) (hI : jInj (gX E)) (fu : Nat)   (M : Mem) : jMet l (gX E) yX9_fault cX9_fault 1 (some .int) rX9_fault [.ref (gad (gX E) 0)] M (pX9_fault fu   M) :=
  j_entry hI (by decide +kernel) (Nat.le_of_ble_eq_true rfl) rfl (fun X _ hX => wX9_fault hX fu    M)
theorem qX9_open : jYv yX9_open cX9_open 1 none 0 := ⟨tw_295, tw_0, tw_57, tw_296, ⟨by decide +kernel, by decide +kernel, by decide +kernel⟩⟩
abbrev rX9_open : Room := { frames := 4, cells := 0, slots := 0, locals := 96 }
def uX9_open : jM := (cX9_open, 1, RX9, none, rX9_open)
def pX9_open (fu : Nat)  (M : Mem) : Res :=
  bI (pX7_firstFault fu 5 M) fun r2 M1 =>
  bV (pX1_measure fu 5 M1) fun M3 =>
  bV (pX4_gather fu 27 M3) fun M4 =>
  bV (pX8_clear fu 29 M4) fun M5 =>
  bV (pX8_clear fu 47 M5) fun M6 =>
  some (0, M6)
set_option maxRecDepth 100000 in
theorem wX9_open {E : jE} {X : jC} (hX : jOk X uX9_open (gX E)) (fu : Nat)   (M : Mem) : J X uX9_open (gX E) 0 [(0, .ref (gad (gX E) 0))] [] M (pX9_open fu   M) := by
  unfold pX9_open
  refine j_aload_n (pc := 0) hX 0 dX9_open_0 rfl rfl ?_
  refine j_getR (pc := 1) (t := 3) hX (jb rfl) rfl (ci := 8) (C := RX9) (T := TX9) (N := 10) rfl (jb rfl) inX9 (j := 1) (jb rfl) rfl tw_421 dX9_open_1 ?_
  refine j_aload_n (pc := 4) hX 0 dX9_open_4 rfl rfl ?_
  refine j_getR (pc := 5) (t := 1) hX (jb rfl) rfl (ci := 8) (C := RX9) (T := TX9) (N := 10) rfl (jb rfl) inX9 (j := 0) (jb rfl) rfl tw_420 dX9_open_5 ?_
  refine j_aload_n (pc := 8) hX 0 dX9_open_8 rfl rfl ?_
  refine j_getR (pc := 9) (t := 5) hX (jb rfl) rfl (ci := 8) (C := RX9) (T := TX9) (N := 10) rfl (jb rfl) inX9 (j := 2) (jb rfl) rfl tw_422 dX9_open_9 ?_
  refine j_callV (pc := 12) hX [.ref (gad (gX E) 1), .ref (gad (gX E) 5)] (mX7_firstFault _ E hX.2.2.2.2.2.2.2.2.1 fu 5 rfl  M) qX7_firstFault tw_297 (jb rfl) rfl (ci := 6) (T := TX7) (N := 3) rfl (jb rfl) rfl ⟨rfl, rfl⟩ ⟨(Nat.le_of_ble_eq_true rfl), (Nat.le_of_ble_eq_true rfl)⟩ (Nat.le_of_ble_eq_true rfl) dX9_open_12 (fun _ => rfl) rfl (fun r2 M1 => ?_)
  refine j_pop (pc := 15) hX dX9_open_15 rfl ?_
  refine j_aload_n (pc := 16) hX 0 dX9_open_16 rfl rfl ?_
  refine j_getR (pc := 17) (t := 5) hX (jb rfl) rfl (ci := 8) (C := RX9) (T := TX9) (N := 10) rfl (jb rfl) inX9 (j := 2) (jb rfl) rfl tw_422 dX9_open_17 ?_
  refine j_callVv (pc := 20) hX [] (mX1_measure _ E hX.2.2.2.2.2.2.2.2.1 fu 5 rfl  M1) qX1_measure tw_362 (jb rfl) rfl (ci := 1) (T := TX1) (N := 13) rfl (jb rfl) rfl ⟨rfl, rfl⟩ ⟨(Nat.le_of_ble_eq_true rfl), (Nat.le_of_ble_eq_true rfl)⟩ (Nat.le_of_ble_eq_true rfl) dX9_open_20 rfl (fun M3 => ?_)
  refine j_aload_n (pc := 23) hX 0 dX9_open_23 rfl rfl ?_
  refine j_getR (pc := 24) (t := 27) hX (jb rfl) rfl (ci := 8) (C := RX9) (T := TX9) (N := 10) rfl (jb rfl) inX9 (j := 4) (jb rfl) rfl tw_424 dX9_open_24 ?_
  refine j_callVv (pc := 27) hX [] (mX4_gather _ E hX.2.2.2.2.2.2.2.2.1 fu 27 rfl  M3) qX4_gather tw_382 (jb rfl) rfl (ci := 4) (T := TX4) (N := 2) rfl (jb rfl) rfl ⟨rfl, rfl⟩ ⟨(Nat.le_of_ble_eq_true rfl), (Nat.le_of_ble_eq_true rfl)⟩ (Nat.le_of_ble_eq_true rfl) dX9_open_27 rfl (fun M4 => ?_)
  refine j_aload_n (pc := 30) hX 0 dX9_open_30 rfl rfl ?_
  refine j_getR (pc := 31) (t := 29) hX (jb rfl) rfl (ci := 8) (C := RX9) (T := TX9) (N := 10) rfl (jb rfl) inX9 (j := 5) (jb rfl) rfl tw_425 dX9_open_31 ?_
  refine j_callVv (pc := 34) hX [] (mX8_clear _ E hX.2.2.2.2.2.2.2.2.1 fu 29 rfl  M4) qX8_clear tw_412 (jb rfl) rfl (ci := 7) (T := TX8) (N := 3) rfl (jb rfl) rfl ⟨rfl, rfl⟩ ⟨(Nat.le_of_ble_eq_true rfl), (Nat.le_of_ble_eq_true rfl)⟩ (Nat.le_of_ble_eq_true rfl) dX9_open_34 rfl (fun M5 => ?_)
  refine j_aload_n (pc := 37) hX 0 dX9_open_37 rfl rfl ?_
  refine j_getR (pc := 38) (t := 47) hX (jb rfl) rfl (ci := 8) (C := RX9) (T := TX9) (N := 10) rfl (jb rfl) inX9 (j := 6) (jb rfl) rfl tw_426 dX9_open_38 ?_
  refine j_callVv (pc := 41) hX [] (mX8_clear _ E hX.2.2.2.2.2.2.2.2.1 fu 47 rfl  M5) qX8_clear tw_412 (jb rfl) rfl (ci := 7) (T := TX8) (N := 3) rfl (jb rfl) rfl ⟨rfl, rfl⟩ ⟨(Nat.le_of_ble_eq_true rfl), (Nat.le_of_ble_eq_true rfl)⟩ (Nat.le_of_ble_eq_true rfl) dX9_open_41 rfl (fun M6 => ?_)
  exact j_vret (pc := 44) hX rfl dX9_open_44
theorem mX9_open (l : Launch) (E : jE) (hI : jInj (gX E)) (fu : Nat)   (M : Mem) : jMet l (gX E) yX9_open cX9_open 1 none rX9_open [.ref (gad (gX E) 0)] M (pX9_open fu   M) :=
  j_entry hI (by decide +kernel) (Nat.le_of_ble_eq_true rfl) rfl (fun X _ hX => wX9_open hX fu    M)
theorem qX9_lay : jYv yX9_lay cX9_lay 1 (some .int) 0 := ⟨tw_466, tw_467, tw_57, tw_468, ⟨by decide +kernel, by decide +kernel, by decide +kernel⟩⟩
abbrev rX9_lay : Room := { frames := 5, cells := 0, slots := 0, locals := 116 }
def uX9_lay : jM := (cX9_lay, 1, RX9, (some .int), rX9_lay)
def pX9_lay (fu : Nat)  (M : Mem) : Res :=
  bI (pX7_firstFault fu 16 M) fun r2 M1 =>
  if r2 = (-4 : Int32) then (
    bI (pX1_doors fu 16 M1) fun r4 M3 =>
    if r4 = 0 then (
      some ((-2 : Int32), M3))
    else
    bI (pX1_beasts fu 16 M3) fun r6 M5 =>
    if r6 = 0 then (
      some ((-2 : Int32), M5))
    else
    bV (pX9_open fu  M5) fun M7 =>
    bI (pX1_beasts fu 5 M7) fun r9 M8 =>
    some (r9, M8))
  else
  some ((-2 : Int32), M1)
set_option maxRecDepth 100000 in
theorem wX9_lay {E : jE} {X : jC} (hX : jOk X uX9_lay (gX E)) (fu : Nat)   (M : Mem) : J X uX9_lay (gX E) 0 [(0, .ref (gad (gX E) 0))] [] M (pX9_lay fu   M) := by
  unfold pX9_lay
  refine j_aload_n (pc := 0) hX 0 dX9_lay_0 rfl rfl ?_
  refine j_getR (pc := 1) (t := 3) hX (jb rfl) rfl (ci := 8) (C := RX9) (T := TX9) (N := 10) rfl (jb rfl) inX9 (j := 1) (jb rfl) rfl tw_421 dX9_lay_1 ?_
  refine j_aload_n (pc := 4) hX 0 dX9_lay_4 rfl rfl ?_
  refine j_getR (pc := 5) (t := 1) hX (jb rfl) rfl (ci := 8) (C := RX9) (T := TX9) (N := 10) rfl (jb rfl) inX9 (j := 0) (jb rfl) rfl tw_420 dX9_lay_5 ?_
  refine j_aload_n (pc := 8) hX 0 dX9_lay_8 rfl rfl ?_
  refine j_getR (pc := 9) (t := 16) hX (jb rfl) rfl (ci := 8) (C := RX9) (T := TX9) (N := 10) rfl (jb rfl) inX9 (j := 3) (jb rfl) rfl tw_423 dX9_lay_9 ?_
  refine j_callV (pc := 12) hX [.ref (gad (gX E) 1), .ref (gad (gX E) 16)] (mX7_firstFault _ E hX.2.2.2.2.2.2.2.2.1 fu 16 rfl  M) qX7_firstFault tw_297 (jb rfl) rfl (ci := 6) (T := TX7) (N := 3) rfl (jb rfl) rfl ⟨rfl, rfl⟩ ⟨(Nat.le_of_ble_eq_true rfl), (Nat.le_of_ble_eq_true rfl)⟩ (Nat.le_of_ble_eq_true rfl) dX9_lay_12 (fun _ => rfl) rfl (fun r2 M1 => ?_)
  refine j_bipush (pc := 15) (v := (-4 : Int32)) hX dX9_lay_15 cb_m4 ?_
  refine j_icmp_ne (pc := 17) hX 40 dX9_lay_17 (by decide) ?_ ?_
  · refine j_bipush (pc := 40) (v := (-2 : Int32)) hX dX9_lay_40 cb_m2 ?_
    exact j_iret (pc := 42) hX rfl dX9_lay_42
  · refine j_aload_n (pc := 20) hX 0 dX9_lay_20 rfl rfl ?_
    refine j_getR (pc := 21) (t := 16) hX (jb rfl) rfl (ci := 8) (C := RX9) (T := TX9) (N := 10) rfl (jb rfl) inX9 (j := 3) (jb rfl) rfl tw_423 dX9_lay_21 ?_
    refine j_callV (pc := 24) hX [] (mX1_doors _ E hX.2.2.2.2.2.2.2.2.1 fu 16 rfl  M1) qX1_doors tw_469 (jb rfl) rfl (ci := 1) (T := TX1) (N := 13) rfl (jb rfl) rfl ⟨rfl, rfl⟩ ⟨(Nat.le_of_ble_eq_true rfl), (Nat.le_of_ble_eq_true rfl)⟩ (Nat.le_of_ble_eq_true rfl) dX9_lay_24 (fun _ => rfl) rfl (fun r4 M3 => ?_)
    refine j_if_eq (pc := 27) hX 40 dX9_lay_27 (by decide) ?_ ?_
    · refine j_bipush (pc := 40) (v := (-2 : Int32)) hX dX9_lay_40 cb_m2 ?_
      exact j_iret (pc := 42) hX rfl dX9_lay_42
    · refine j_aload_n (pc := 30) hX 0 dX9_lay_30 rfl rfl ?_
      refine j_getR (pc := 31) (t := 16) hX (jb rfl) rfl (ci := 8) (C := RX9) (T := TX9) (N := 10) rfl (jb rfl) inX9 (j := 3) (jb rfl) rfl tw_423 dX9_lay_31 ?_
      refine j_callV (pc := 34) hX [] (mX1_beasts _ E hX.2.2.2.2.2.2.2.2.1 fu 16 rfl  M3) qX1_beasts tw_473 (jb rfl) rfl (ci := 1) (T := TX1) (N := 13) rfl (jb rfl) rfl ⟨rfl, rfl⟩ ⟨(Nat.le_of_ble_eq_true rfl), (Nat.le_of_ble_eq_true rfl)⟩ (Nat.le_of_ble_eq_true rfl) dX9_lay_34 (fun _ => rfl) rfl (fun r6 M5 => ?_)
      refine j_if_ne (pc := 37) hX 43 dX9_lay_37 (by decide) ?_ ?_
      · refine j_aload_n (pc := 43) hX 0 dX9_lay_43 rfl rfl ?_
        refine j_callVv (pc := 44) hX [] (mX9_open _ E hX.2.2.2.2.2.2.2.2.1 fu    M5) qX9_open tw_293 (jb rfl) rfl (ci := 8) (T := TX9) (N := 10) rfl (jb rfl) rfl ⟨rfl, rfl⟩ ⟨(Nat.le_of_ble_eq_true rfl), (Nat.le_of_ble_eq_true rfl)⟩ (Nat.le_of_ble_eq_true rfl) dX9_lay_44 rfl (fun M7 => ?_)
        refine j_aload_n (pc := 47) hX 0 dX9_lay_47 rfl rfl ?_
        refine j_getR (pc := 48) (t := 5) hX (jb rfl) rfl (ci := 8) (C := RX9) (T := TX9) (N := 10) rfl (jb rfl) inX9 (j := 2) (jb rfl) rfl tw_422 dX9_lay_48 ?_
        refine j_callV (pc := 51) hX [] (mX1_beasts _ E hX.2.2.2.2.2.2.2.2.1 fu 5 rfl  M7) qX1_beasts tw_473 (jb rfl) rfl (ci := 1) (T := TX1) (N := 13) rfl (jb rfl) rfl ⟨rfl, rfl⟩ ⟨(Nat.le_of_ble_eq_true rfl), (Nat.le_of_ble_eq_true rfl)⟩ (Nat.le_of_ble_eq_true rfl) dX9_lay_51 (fun _ => rfl) rfl (fun r9 M8 => ?_)
        exact j_iret (pc := 54) hX rfl dX9_lay_54
      · refine j_bipush (pc := 40) (v := (-2 : Int32)) hX dX9_lay_40 cb_m2 ?_
        exact j_iret (pc := 42) hX rfl dX9_lay_42
theorem mX9_lay (l : Launch) (E : jE) (hI : jInj (gX E)) (fu : Nat)   (M : Mem) : jMet l (gX E) yX9_lay cX9_lay 1 (some .int) rX9_lay [.ref (gad (gX E) 0)] M (pX9_lay fu   M) :=
  j_entry hI (by decide +kernel) (Nat.le_of_ble_eq_true rfl) rfl (fun X _ hX => wX9_lay hX fu    M)
theorem qX9_place : jYv yX9_place cX9_place 3 (some .int) 2 := ⟨tw_475, tw_476, tw_57, tw_477, ⟨by decide +kernel, by decide +kernel, by decide +kernel⟩⟩
abbrev rX9_place : Room := { frames := 3, cells := 0, slots := 0, locals := 68 }
def uX9_place : jM := (cX9_place, 3, RX9, (some .int), rX9_place)
def pX9_place (fu : Nat) (x1 : Int32) (x2 : Int32) (M : Mem) : Res :=
  bI (pX1_hasPlace fu 5 x1 M) fun r2 M1 =>
  if r2 = 0 then (
    some ((-1 : Int32), M1))
  else
  if x2 = (0 : Int32) then (
    bI (pX4_carrotsIn fu 27 x1 M1) fun r4 M3 =>
    some (r4, M3))
  else
  if x2 = (1 : Int32) then (
    bI (pX1_hasMare fu 5 x1 M1) fun r7 M6 =>
    if r7 = 0 then (
      some ((0 : Int32), M6))
    else
    some ((1 : Int32), M6))
  else
  if x2 = (2 : Int32) then (
    bI (pX4_beastsIn fu 27 x1 M1) fun r10 M9 =>
    some (r10, M9))
  else
  some ((-1 : Int32), M1)
set_option maxRecDepth 100000 in
theorem wX9_place {E : jE} {X : jC} (hX : jOk X uX9_place (gX E)) (fu : Nat)  (x1 : Int32) (x2 : Int32) (M : Mem) : J X uX9_place (gX E) 0 [(0, .ref (gad (gX E) 0)), (1, .int x1), (2, .int x2)] [] M (pX9_place fu  x1 x2 M) := by
  unfold pX9_place
  refine j_aload_n (pc := 0) hX 0 dX9_place_0 rfl rfl ?_
  refine j_getR (pc := 1) (t := 5) hX (jb rfl) rfl (ci := 8) (C := RX9) (T := TX9) (N := 10) rfl (jb rfl) inX9 (j := 2) (jb rfl) rfl tw_422 dX9_place_1 ?_
  refine j_iload_n (pc := 4) hX 1 dX9_place_4 rfl rfl ?_
  refine j_callV (pc := 5) hX [.int x1] (mX1_hasPlace _ E hX.2.2.2.2.2.2.2.2.1 fu 5 rfl x1 M) qX1_hasPlace tw_478 (jb rfl) rfl (ci := 1) (T := TX1) (N := 13) rfl (jb rfl) rfl ⟨rfl, rfl⟩ ⟨(Nat.le_of_ble_eq_true rfl), (Nat.le_of_ble_eq_true rfl)⟩ (Nat.le_of_ble_eq_true rfl) dX9_place_5 (fun _ => rfl) rfl (fun r2 M1 => ?_)
  refine j_if_ne (pc := 8) hX 13 dX9_place_8 (by decide) ?_ ?_
  · refine j_iload_n (pc := 13) hX 2 dX9_place_13 rfl rfl ?_
    refine j_if (fun hq5 => ?_) (fun hq5 => ?_)
    · rw [hq5]
      refine j_tableIn (pc := 14) (off := 26) hX 40 dX9_place_14 (by decide) (by decide) (by decide) (by decide) ?_
      refine j_aload_n (pc := 40) hX 0 dX9_place_40 rfl rfl ?_
      refine j_getR (pc := 41) (t := 27) hX (jb rfl) rfl (ci := 8) (C := RX9) (T := TX9) (N := 10) rfl (jb rfl) inX9 (j := 4) (jb rfl) rfl tw_424 dX9_place_41 ?_
      refine j_iload_n (pc := 44) hX 1 dX9_place_44 rfl rfl ?_
      refine j_callV (pc := 45) hX [.int x1] (mX4_carrotsIn _ E hX.2.2.2.2.2.2.2.2.1 fu 27 rfl x1 M1) qX4_carrotsIn tw_479 (jb rfl) rfl (ci := 4) (T := TX4) (N := 2) rfl (jb rfl) rfl ⟨rfl, rfl⟩ ⟨(Nat.le_of_ble_eq_true rfl), (Nat.le_of_ble_eq_true rfl)⟩ (Nat.le_of_ble_eq_true rfl) dX9_place_45 (fun _ => rfl) rfl (fun r4 M3 => ?_)
      exact j_iret (pc := 48) hX rfl dX9_place_48
    refine j_if (fun hq8 => ?_) (fun hq8 => ?_)
    · rw [hq8]
      refine j_tableIn (pc := 14) (off := 35) hX 49 dX9_place_14 (by decide) (by decide) (by decide) (by decide) ?_
      refine j_aload_n (pc := 49) hX 0 dX9_place_49 rfl rfl ?_
      refine j_getR (pc := 50) (t := 5) hX (jb rfl) rfl (ci := 8) (C := RX9) (T := TX9) (N := 10) rfl (jb rfl) inX9 (j := 2) (jb rfl) rfl tw_422 dX9_place_50 ?_
      refine j_iload_n (pc := 53) hX 1 dX9_place_53 rfl rfl ?_
      refine j_callV (pc := 54) hX [.int x1] (mX1_hasMare _ E hX.2.2.2.2.2.2.2.2.1 fu 5 rfl x1 M1) qX1_hasMare tw_484 (jb rfl) rfl (ci := 1) (T := TX1) (N := 13) rfl (jb rfl) rfl ⟨rfl, rfl⟩ ⟨(Nat.le_of_ble_eq_true rfl), (Nat.le_of_ble_eq_true rfl)⟩ (Nat.le_of_ble_eq_true rfl) dX9_place_54 (fun _ => rfl) rfl (fun r7 M6 => ?_)
      refine j_if_eq (pc := 57) hX 64 dX9_place_57 (by decide) ?_ ?_
      · refine j_iconst (pc := 64) (v := (0 : Int32)) hX dX9_place_64 ci_0 ?_
        exact j_iret (pc := 65) hX rfl dX9_place_65
      · refine j_iconst (pc := 60) (v := (1 : Int32)) hX dX9_place_60 ci_1 ?_
        refine j_goto (pc := 61) hX 65 dX9_place_61 (by decide) ?_
        exact j_iret (pc := 65) hX rfl dX9_place_65
    refine j_if (fun hq11 => ?_) (fun hq11 => ?_)
    · rw [hq11]
      refine j_tableIn (pc := 14) (off := 52) hX 66 dX9_place_14 (by decide) (by decide) (by decide) (by decide) ?_
      refine j_aload_n (pc := 66) hX 0 dX9_place_66 rfl rfl ?_
      refine j_getR (pc := 67) (t := 27) hX (jb rfl) rfl (ci := 8) (C := RX9) (T := TX9) (N := 10) rfl (jb rfl) inX9 (j := 4) (jb rfl) rfl tw_424 dX9_place_67 ?_
      refine j_iload_n (pc := 70) hX 1 dX9_place_70 rfl rfl ?_
      refine j_callV (pc := 71) hX [.int x1] (mX4_beastsIn _ E hX.2.2.2.2.2.2.2.2.1 fu 27 rfl x1 M1) qX4_beastsIn tw_488 (jb rfl) rfl (ci := 4) (T := TX4) (N := 2) rfl (jb rfl) rfl ⟨rfl, rfl⟩ ⟨(Nat.le_of_ble_eq_true rfl), (Nat.le_of_ble_eq_true rfl)⟩ (Nat.le_of_ble_eq_true rfl) dX9_place_71 (fun _ => rfl) rfl (fun r10 M9 => ?_)
      exact j_iret (pc := 74) hX rfl dX9_place_74
    refine j_tableOut (pc := 14) hX 75 dX9_place_14 (sw_out (fun c h1 h2 => ?_)) (by decide) ?_
    · rcases (show c = 0 ∨ c = 1 ∨ c = 2 by omega) with rfl | rfl | rfl
      · exact hq5
      · exact hq8
      · exact hq11
    · refine j_iconst (pc := 75) (v := (-1 : Int32)) hX dX9_place_75 ci_m1 ?_
      exact j_iret (pc := 76) hX rfl dX9_place_76
  · refine j_iconst (pc := 11) (v := (-1 : Int32)) hX dX9_place_11 ci_m1 ?_
    exact j_iret (pc := 12) hX rfl dX9_place_12
theorem mX9_place (l : Launch) (E : jE) (hI : jInj (gX E)) (fu : Nat)  (x1 : Int32) (x2 : Int32) (M : Mem) : jMet l (gX E) yX9_place cX9_place 3 (some .int) rX9_place [.ref (gad (gX E) 0), .int x1, .int x2] M (pX9_place fu  x1 x2 M) :=
  j_entry hI (by decide +kernel) (Nat.le_of_ble_eq_true rfl) rfl (fun X _ hX => wX9_place hX fu   x1 x2 M)
theorem qX9_way : jYv yX9_way cX9_way 4 (some .int) 2 := ⟨tw_501, tw_502, tw_57, tw_503, ⟨by decide +kernel, by decide +kernel, by decide +kernel⟩⟩
abbrev rX9_way : Room := { frames := 2, cells := 0, slots := 0, locals := 43 }
def uX9_way : jM := (cX9_way, 4, RX9, (some .int), rX9_way)
def pX9_way (fu : Nat) (x1 : Int32) (x2 : Int32) (M : Mem) : Res :=
  bI (pX1_hasPlace fu 5 x1 M) fun r2 M1 =>
  if r2 = 0 then (
    some ((-1 : Int32), M1))
  else
  bI (pX1_hasPlace fu 5 x2 M1) fun r4 M3 =>
  if r4 = 0 then (
    some ((-1 : Int32), M3))
  else
  if x1 = x2 then (
    some ((-1 : Int32), M3))
  else
  bI (pX1_lengthOf fu 5 x1 x2 M3) fun r6 M5 =>
  if r6 = 0 then (
    some ((-4 : Int32), M5))
  else
  some (r6, M5)
set_option maxRecDepth 100000 in
theorem wX9_way {E : jE} {X : jC} (hX : jOk X uX9_way (gX E)) (fu : Nat)  (x1 : Int32) (x2 : Int32) (M : Mem) : J X uX9_way (gX E) 0 [(0, .ref (gad (gX E) 0)), (1, .int x1), (2, .int x2)] [] M (pX9_way fu  x1 x2 M) := by
  unfold pX9_way
  refine j_aload_n (pc := 0) hX 0 dX9_way_0 rfl rfl ?_
  refine j_getR (pc := 1) (t := 5) hX (jb rfl) rfl (ci := 8) (C := RX9) (T := TX9) (N := 10) rfl (jb rfl) inX9 (j := 2) (jb rfl) rfl tw_422 dX9_way_1 ?_
  refine j_iload_n (pc := 4) hX 1 dX9_way_4 rfl rfl ?_
  refine j_callV (pc := 5) hX [.int x1] (mX1_hasPlace _ E hX.2.2.2.2.2.2.2.2.1 fu 5 rfl x1 M) qX1_hasPlace tw_478 (jb rfl) rfl (ci := 1) (T := TX1) (N := 13) rfl (jb rfl) rfl ⟨rfl, rfl⟩ ⟨(Nat.le_of_ble_eq_true rfl), (Nat.le_of_ble_eq_true rfl)⟩ (Nat.le_of_ble_eq_true rfl) dX9_way_5 (fun _ => rfl) rfl (fun r2 M1 => ?_)
  refine j_if_eq (pc := 8) hX 27 dX9_way_8 (by decide) ?_ ?_
  · refine j_iconst (pc := 27) (v := (-1 : Int32)) hX dX9_way_27 ci_m1 ?_
    exact j_iret (pc := 28) hX rfl dX9_way_28
  · refine j_aload_n (pc := 11) hX 0 dX9_way_11 rfl rfl ?_
    refine j_getR (pc := 12) (t := 5) hX (jb rfl) rfl (ci := 8) (C := RX9) (T := TX9) (N := 10) rfl (jb rfl) inX9 (j := 2) (jb rfl) rfl tw_422 dX9_way_12 ?_
    refine j_iload_n (pc := 15) hX 2 dX9_way_15 rfl rfl ?_
    refine j_callV (pc := 16) hX [.int x2] (mX1_hasPlace _ E hX.2.2.2.2.2.2.2.2.1 fu 5 rfl x2 M1) qX1_hasPlace tw_478 (jb rfl) rfl (ci := 1) (T := TX1) (N := 13) rfl (jb rfl) rfl ⟨rfl, rfl⟩ ⟨(Nat.le_of_ble_eq_true rfl), (Nat.le_of_ble_eq_true rfl)⟩ (Nat.le_of_ble_eq_true rfl) dX9_way_16 (fun _ => rfl) rfl (fun r4 M3 => ?_)
    refine j_if_eq (pc := 19) hX 27 dX9_way_19 (by decide) ?_ ?_
    · refine j_iconst (pc := 27) (v := (-1 : Int32)) hX dX9_way_27 ci_m1 ?_
      exact j_iret (pc := 28) hX rfl dX9_way_28
    · refine j_iload_n (pc := 22) hX 1 dX9_way_22 rfl rfl ?_
      refine j_iload_n (pc := 23) hX 2 dX9_way_23 rfl rfl ?_
      refine j_icmp_ne (pc := 24) hX 29 dX9_way_24 (by decide) ?_ ?_
      · refine j_aload_n (pc := 29) hX 0 dX9_way_29 rfl rfl ?_
        refine j_getR (pc := 30) (t := 5) hX (jb rfl) rfl (ci := 8) (C := RX9) (T := TX9) (N := 10) rfl (jb rfl) inX9 (j := 2) (jb rfl) rfl tw_422 dX9_way_30 ?_
        refine j_iload_n (pc := 33) hX 1 dX9_way_33 rfl rfl ?_
        refine j_iload_n (pc := 34) hX 2 dX9_way_34 rfl rfl ?_
        refine j_callV (pc := 35) hX [.int x1, .int x2] (mX1_lengthOf _ E hX.2.2.2.2.2.2.2.2.1 fu 5 rfl x1 x2 M3) qX1_lengthOf tw_504 (jb rfl) rfl (ci := 1) (T := TX1) (N := 13) rfl (jb rfl) rfl ⟨rfl, rfl⟩ ⟨(Nat.le_of_ble_eq_true rfl), (Nat.le_of_ble_eq_true rfl)⟩ (Nat.le_of_ble_eq_true rfl) dX9_way_35 (fun _ => rfl) rfl (fun r6 M5 => ?_)
        refine j_istore_n (pc := 38) (lv' := [(3, .int r6), (0, .ref (gad (gX E) 0)), (1, .int x1), (2, .int x2)]) hX dX9_way_38 rfl (jb rfl) rfl ?_
        refine j_iload_n (pc := 39) hX 0 dX9_way_39 rfl rfl ?_
        refine j_if_ne (pc := 40) hX 48 dX9_way_40 (by decide) ?_ ?_
        · refine j_iload_n (pc := 48) hX 0 dX9_way_48 rfl rfl ?_
          exact j_iret (pc := 49) hX rfl dX9_way_49
        · refine j_bipush (pc := 43) (v := (-4 : Int32)) hX dX9_way_43 cb_m4 ?_
          refine j_goto (pc := 45) hX 49 dX9_way_45 (by decide) ?_
          exact j_iret (pc := 49) hX rfl dX9_way_49
      · refine j_iconst (pc := 27) (v := (-1 : Int32)) hX dX9_way_27 ci_m1 ?_
        exact j_iret (pc := 28) hX rfl dX9_way_28
theorem mX9_way (l : Launch) (E : jE) (hI : jInj (gX E)) (fu : Nat)  (x1 : Int32) (x2 : Int32) (M : Mem) : jMet l (gX E) yX9_way cX9_way 4 (some .int) rX9_way [.ref (gad (gX E) 0), .int x1, .int x2] M (pX9_way fu  x1 x2 M) :=
  j_entry hI (by decide +kernel) (Nat.le_of_ble_eq_true rfl) rfl (fun X _ hX => wX9_way hX fu   x1 x2 M)
theorem qX9_door : jYv yX9_door cX9_door 3 (some .int) 2 := ⟨tw_506, tw_507, tw_57, tw_508, ⟨by decide +kernel, by decide +kernel, by decide +kernel⟩⟩
abbrev rX9_door : Room := { frames := 2, cells := 0, slots := 0, locals := 42 }
def uX9_door : jM := (cX9_door, 3, RX9, (some .int), rX9_door)
def pX9_door (fu : Nat) (x1 : Int32) (x2 : Int32) (M : Mem) : Res :=
  bI (pX1_hasDoor fu 5 x1 M) fun r2 M1 =>
  if r2 = 0 then (
    some ((-1 : Int32), M1))
  else
  if x2 = (0 : Int32) then (
    bI (pX1_doorKind fu 5 x1 M1) fun r4 M3 =>
    some (r4, M3))
  else
  if x2 = (1 : Int32) then (
    bI (pX1_doorPlace fu 5 x1 M1) fun r7 M6 =>
    some (r7, M6))
  else
  some ((-1 : Int32), M1)
set_option maxRecDepth 100000 in
theorem wX9_door {E : jE} {X : jC} (hX : jOk X uX9_door (gX E)) (fu : Nat)  (x1 : Int32) (x2 : Int32) (M : Mem) : J X uX9_door (gX E) 0 [(0, .ref (gad (gX E) 0)), (1, .int x1), (2, .int x2)] [] M (pX9_door fu  x1 x2 M) := by
  unfold pX9_door
  refine j_aload_n (pc := 0) hX 0 dX9_door_0 rfl rfl ?_
  refine j_getR (pc := 1) (t := 5) hX (jb rfl) rfl (ci := 8) (C := RX9) (T := TX9) (N := 10) rfl (jb rfl) inX9 (j := 2) (jb rfl) rfl tw_422 dX9_door_1 ?_
  refine j_iload_n (pc := 4) hX 1 dX9_door_4 rfl rfl ?_
  refine j_callV (pc := 5) hX [.int x1] (mX1_hasDoor _ E hX.2.2.2.2.2.2.2.2.1 fu 5 rfl x1 M) qX1_hasDoor tw_509 (jb rfl) rfl (ci := 1) (T := TX1) (N := 13) rfl (jb rfl) rfl ⟨rfl, rfl⟩ ⟨(Nat.le_of_ble_eq_true rfl), (Nat.le_of_ble_eq_true rfl)⟩ (Nat.le_of_ble_eq_true rfl) dX9_door_5 (fun _ => rfl) rfl (fun r2 M1 => ?_)
  refine j_if_ne (pc := 8) hX 13 dX9_door_8 (by decide) ?_ ?_
  · refine j_iload_n (pc := 13) hX 2 dX9_door_13 rfl rfl ?_
    refine j_if (fun hq5 => ?_) (fun hq5 => ?_)
    · rw [hq5]
      refine j_lookup (pc := 14) (off := 26) hX 40 dX9_door_14 (by decide) (by decide) (by decide) ?_
      refine j_aload_n (pc := 40) hX 0 dX9_door_40 rfl rfl ?_
      refine j_getR (pc := 41) (t := 5) hX (jb rfl) rfl (ci := 8) (C := RX9) (T := TX9) (N := 10) rfl (jb rfl) inX9 (j := 2) (jb rfl) rfl tw_422 dX9_door_41 ?_
      refine j_iload_n (pc := 44) hX 1 dX9_door_44 rfl rfl ?_
      refine j_callV (pc := 45) hX [.int x1] (mX1_doorKind _ E hX.2.2.2.2.2.2.2.2.1 fu 5 rfl x1 M1) qX1_doorKind tw_513 (jb rfl) rfl (ci := 1) (T := TX1) (N := 13) rfl (jb rfl) rfl ⟨rfl, rfl⟩ ⟨(Nat.le_of_ble_eq_true rfl), (Nat.le_of_ble_eq_true rfl)⟩ (Nat.le_of_ble_eq_true rfl) dX9_door_45 (fun _ => rfl) rfl (fun r4 M3 => ?_)
      exact j_iret (pc := 48) hX rfl dX9_door_48
    refine j_if (fun hq8 => ?_) (fun hq8 => ?_)
    · rw [hq8]
      refine j_lookup (pc := 14) (off := 35) hX 49 dX9_door_14 (by decide) (by decide) (by decide) ?_
      refine j_aload_n (pc := 49) hX 0 dX9_door_49 rfl rfl ?_
      refine j_getR (pc := 50) (t := 5) hX (jb rfl) rfl (ci := 8) (C := RX9) (T := TX9) (N := 10) rfl (jb rfl) inX9 (j := 2) (jb rfl) rfl tw_422 dX9_door_50 ?_
      refine j_iload_n (pc := 53) hX 1 dX9_door_53 rfl rfl ?_
      refine j_callV (pc := 54) hX [.int x1] (mX1_doorPlace _ E hX.2.2.2.2.2.2.2.2.1 fu 5 rfl x1 M1) qX1_doorPlace tw_517 (jb rfl) rfl (ci := 1) (T := TX1) (N := 13) rfl (jb rfl) rfl ⟨rfl, rfl⟩ ⟨(Nat.le_of_ble_eq_true rfl), (Nat.le_of_ble_eq_true rfl)⟩ (Nat.le_of_ble_eq_true rfl) dX9_door_54 (fun _ => rfl) rfl (fun r7 M6 => ?_)
      exact j_iret (pc := 57) hX rfl dX9_door_57
    refine j_lookup (pc := 14) (off := 44) hX 58 dX9_door_14 (by decide) (by simp only [Op.lookupswitch.offset]; rw [if_neg (sw_ne (c := 0) hq5), if_neg (sw_ne (c := 1) hq8)]) (by decide) ?_
    refine j_iconst (pc := 58) (v := (-1 : Int32)) hX dX9_door_58 ci_m1 ?_
    exact j_iret (pc := 59) hX rfl dX9_door_59
  · refine j_iconst (pc := 11) (v := (-1 : Int32)) hX dX9_door_11 ci_m1 ?_
    exact j_iret (pc := 12) hX rfl dX9_door_12
theorem mX9_door (l : Launch) (E : jE) (hI : jInj (gX E)) (fu : Nat)  (x1 : Int32) (x2 : Int32) (M : Mem) : jMet l (gX E) yX9_door cX9_door 3 (some .int) rX9_door [.ref (gad (gX E) 0), .int x1, .int x2] M (pX9_door fu  x1 x2 M) :=
  j_entry hI (by decide +kernel) (Nat.le_of_ble_eq_true rfl) rfl (fun X _ hX => wX9_door hX fu   x1 x2 M)
theorem qX9_beast : jYv yX9_beast cX9_beast 3 (some .int) 2 := ⟨tw_522, tw_523, tw_57, tw_524, ⟨by decide +kernel, by decide +kernel, by decide +kernel⟩⟩
abbrev rX9_beast : Room := { frames := 2, cells := 0, slots := 0, locals := 42 }
def uX9_beast : jM := (cX9_beast, 3, RX9, (some .int), rX9_beast)
def pX9_beast (fu : Nat) (x1 : Int32) (x2 : Int32) (M : Mem) : Res :=
  bI (pX1_hasBeast fu 5 x1 M) fun r2 M1 =>
  if r2 = 0 then (
    some ((-1 : Int32), M1))
  else
  if x2 = (0 : Int32) then (
    bI (pX1_kind fu 5 x1 M1) fun r4 M3 =>
    some (r4, M3))
  else
  if x2 = (1 : Int32) then (
    bI (pX1_pace fu 5 x1 M1) fun r7 M6 =>
    some (r7, M6))
  else
  if x2 = (2 : Int32) then (
    bI (pX4_get fu 27 x1 (0 : Int32) M1) fun r10 M9 =>
    some (r10, M9))
  else
  if x2 = (3 : Int32) then (
    bI (pX4_get fu 27 x1 (1 : Int32) M1) fun r13 M12 =>
    some (r13, M12))
  else
  if x2 = (4 : Int32) then (
    bI (pX4_get fu 27 x1 (2 : Int32) M1) fun r16 M15 =>
    some (r16, M15))
  else
  if x2 = (5 : Int32) then (
    bI (pX4_get fu 27 x1 (3 : Int32) M1) fun r19 M18 =>
    some (r19, M18))
  else
  if x2 = (6 : Int32) then (
    bI (pX4_get fu 27 x1 (4 : Int32) M1) fun r22 M21 =>
    some (r22, M21))
  else
  if x2 = (7 : Int32) then (
    bI (pX4_get fu 27 x1 (5 : Int32) M1) fun r25 M24 =>
    some (r25, M24))
  else
  some ((-1 : Int32), M1)
set_option maxRecDepth 100000 in
theorem wX9_beast {E : jE} {X : jC} (hX : jOk X uX9_beast (gX E)) (fu : Nat)  (x1 : Int32) (x2 : Int32) (M : Mem) : J X uX9_beast (gX E) 0 [(0, .ref (gad (gX E) 0)), (1, .int x1), (2, .int x2)] [] M (pX9_beast fu  x1 x2 M) := by
  unfold pX9_beast
  refine j_aload_n (pc := 0) hX 0 dX9_beast_0 rfl rfl ?_
  refine j_getR (pc := 1) (t := 5) hX (jb rfl) rfl (ci := 8) (C := RX9) (T := TX9) (N := 10) rfl (jb rfl) inX9 (j := 2) (jb rfl) rfl tw_422 dX9_beast_1 ?_
  refine j_iload_n (pc := 4) hX 1 dX9_beast_4 rfl rfl ?_
  refine j_callV (pc := 5) hX [.int x1] (mX1_hasBeast _ E hX.2.2.2.2.2.2.2.2.1 fu 5 rfl x1 M) qX1_hasBeast tw_525 (jb rfl) rfl (ci := 1) (T := TX1) (N := 13) rfl (jb rfl) rfl ⟨rfl, rfl⟩ ⟨(Nat.le_of_ble_eq_true rfl), (Nat.le_of_ble_eq_true rfl)⟩ (Nat.le_of_ble_eq_true rfl) dX9_beast_5 (fun _ => rfl) rfl (fun r2 M1 => ?_)
  refine j_if_ne (pc := 8) hX 13 dX9_beast_8 (by decide) ?_ ?_
  · refine j_iload_n (pc := 13) hX 2 dX9_beast_13 rfl rfl ?_
    refine j_if (fun hq5 => ?_) (fun hq5 => ?_)
    · rw [hq5]
      refine j_tableIn (pc := 14) (off := 46) hX 60 dX9_beast_14 (by decide) (by decide) (by decide) (by decide) ?_
      refine j_aload_n (pc := 60) hX 0 dX9_beast_60 rfl rfl ?_
      refine j_getR (pc := 61) (t := 5) hX (jb rfl) rfl (ci := 8) (C := RX9) (T := TX9) (N := 10) rfl (jb rfl) inX9 (j := 2) (jb rfl) rfl tw_422 dX9_beast_61 ?_
      refine j_iload_n (pc := 64) hX 1 dX9_beast_64 rfl rfl ?_
      refine j_callV (pc := 65) hX [.int x1] (mX1_kind _ E hX.2.2.2.2.2.2.2.2.1 fu 5 rfl x1 M1) qX1_kind tw_529 (jb rfl) rfl (ci := 1) (T := TX1) (N := 13) rfl (jb rfl) rfl ⟨rfl, rfl⟩ ⟨(Nat.le_of_ble_eq_true rfl), (Nat.le_of_ble_eq_true rfl)⟩ (Nat.le_of_ble_eq_true rfl) dX9_beast_65 (fun _ => rfl) rfl (fun r4 M3 => ?_)
      exact j_iret (pc := 68) hX rfl dX9_beast_68
    refine j_if (fun hq8 => ?_) (fun hq8 => ?_)
    · rw [hq8]
      refine j_tableIn (pc := 14) (off := 55) hX 69 dX9_beast_14 (by decide) (by decide) (by decide) (by decide) ?_
      refine j_aload_n (pc := 69) hX 0 dX9_beast_69 rfl rfl ?_
      refine j_getR (pc := 70) (t := 5) hX (jb rfl) rfl (ci := 8) (C := RX9) (T := TX9) (N := 10) rfl (jb rfl) inX9 (j := 2) (jb rfl) rfl tw_422 dX9_beast_70 ?_
      refine j_iload_n (pc := 73) hX 1 dX9_beast_73 rfl rfl ?_
      refine j_callV (pc := 74) hX [.int x1] (mX1_pace _ E hX.2.2.2.2.2.2.2.2.1 fu 5 rfl x1 M1) qX1_pace tw_533 (jb rfl) rfl (ci := 1) (T := TX1) (N := 13) rfl (jb rfl) rfl ⟨rfl, rfl⟩ ⟨(Nat.le_of_ble_eq_true rfl), (Nat.le_of_ble_eq_true rfl)⟩ (Nat.le_of_ble_eq_true rfl) dX9_beast_74 (fun _ => rfl) rfl (fun r7 M6 => ?_)
      exact j_iret (pc := 77) hX rfl dX9_beast_77
    refine j_if (fun hq11 => ?_) (fun hq11 => ?_)
    · rw [hq11]
      refine j_tableIn (pc := 14) (off := 64) hX 78 dX9_beast_14 (by decide) (by decide) (by decide) (by decide) ?_
      refine j_aload_n (pc := 78) hX 0 dX9_beast_78 rfl rfl ?_
      refine j_getR (pc := 79) (t := 27) hX (jb rfl) rfl (ci := 8) (C := RX9) (T := TX9) (N := 10) rfl (jb rfl) inX9 (j := 4) (jb rfl) rfl tw_424 dX9_beast_79 ?_
      refine j_iload_n (pc := 82) hX 1 dX9_beast_82 rfl rfl ?_
      refine j_iconst (pc := 83) (v := (0 : Int32)) hX dX9_beast_83 ci_0 ?_
      refine j_callV (pc := 84) hX [.int x1, .int (0 : Int32)] (mX4_get _ E hX.2.2.2.2.2.2.2.2.1 fu 27 rfl x1 (0 : Int32) M1) qX4_get tw_537 (jb rfl) rfl (ci := 4) (T := TX4) (N := 2) rfl (jb rfl) rfl ⟨rfl, rfl⟩ ⟨(Nat.le_of_ble_eq_true rfl), (Nat.le_of_ble_eq_true rfl)⟩ (Nat.le_of_ble_eq_true rfl) dX9_beast_84 (fun _ => rfl) rfl (fun r10 M9 => ?_)
      exact j_iret (pc := 87) hX rfl dX9_beast_87
    refine j_if (fun hq14 => ?_) (fun hq14 => ?_)
    · rw [hq14]
      refine j_tableIn (pc := 14) (off := 74) hX 88 dX9_beast_14 (by decide) (by decide) (by decide) (by decide) ?_
      refine j_aload_n (pc := 88) hX 0 dX9_beast_88 rfl rfl ?_
      refine j_getR (pc := 89) (t := 27) hX (jb rfl) rfl (ci := 8) (C := RX9) (T := TX9) (N := 10) rfl (jb rfl) inX9 (j := 4) (jb rfl) rfl tw_424 dX9_beast_89 ?_
      refine j_iload_n (pc := 92) hX 1 dX9_beast_92 rfl rfl ?_
      refine j_iconst (pc := 93) (v := (1 : Int32)) hX dX9_beast_93 ci_1 ?_
      refine j_callV (pc := 94) hX [.int x1, .int (1 : Int32)] (mX4_get _ E hX.2.2.2.2.2.2.2.2.1 fu 27 rfl x1 (1 : Int32) M1) qX4_get tw_537 (jb rfl) rfl (ci := 4) (T := TX4) (N := 2) rfl (jb rfl) rfl ⟨rfl, rfl⟩ ⟨(Nat.le_of_ble_eq_true rfl), (Nat.le_of_ble_eq_true rfl)⟩ (Nat.le_of_ble_eq_true rfl) dX9_beast_94 (fun _ => rfl) rfl (fun r13 M12 => ?_)
      exact j_iret (pc := 97) hX rfl dX9_beast_97
    refine j_if (fun hq17 => ?_) (fun hq17 => ?_)
    · rw [hq17]
      refine j_tableIn (pc := 14) (off := 84) hX 98 dX9_beast_14 (by decide) (by decide) (by decide) (by decide) ?_
      refine j_aload_n (pc := 98) hX 0 dX9_beast_98 rfl rfl ?_
      refine j_getR (pc := 99) (t := 27) hX (jb rfl) rfl (ci := 8) (C := RX9) (T := TX9) (N := 10) rfl (jb rfl) inX9 (j := 4) (jb rfl) rfl tw_424 dX9_beast_99 ?_
      refine j_iload_n (pc := 102) hX 1 dX9_beast_102 rfl rfl ?_
      refine j_iconst (pc := 103) (v := (2 : Int32)) hX dX9_beast_103 ci_2 ?_
      refine j_callV (pc := 104) hX [.int x1, .int (2 : Int32)] (mX4_get _ E hX.2.2.2.2.2.2.2.2.1 fu 27 rfl x1 (2 : Int32) M1) qX4_get tw_537 (jb rfl) rfl (ci := 4) (T := TX4) (N := 2) rfl (jb rfl) rfl ⟨rfl, rfl⟩ ⟨(Nat.le_of_ble_eq_true rfl), (Nat.le_of_ble_eq_true rfl)⟩ (Nat.le_of_ble_eq_true rfl) dX9_beast_104 (fun _ => rfl) rfl (fun r16 M15 => ?_)
      exact j_iret (pc := 107) hX rfl dX9_beast_107
    refine j_if (fun hq20 => ?_) (fun hq20 => ?_)
    · rw [hq20]
      refine j_tableIn (pc := 14) (off := 94) hX 108 dX9_beast_14 (by decide) (by decide) (by decide) (by decide) ?_
      refine j_aload_n (pc := 108) hX 0 dX9_beast_108 rfl rfl ?_
      refine j_getR (pc := 109) (t := 27) hX (jb rfl) rfl (ci := 8) (C := RX9) (T := TX9) (N := 10) rfl (jb rfl) inX9 (j := 4) (jb rfl) rfl tw_424 dX9_beast_109 ?_
      refine j_iload_n (pc := 112) hX 1 dX9_beast_112 rfl rfl ?_
      refine j_iconst (pc := 113) (v := (3 : Int32)) hX dX9_beast_113 ci_3 ?_
      refine j_callV (pc := 114) hX [.int x1, .int (3 : Int32)] (mX4_get _ E hX.2.2.2.2.2.2.2.2.1 fu 27 rfl x1 (3 : Int32) M1) qX4_get tw_537 (jb rfl) rfl (ci := 4) (T := TX4) (N := 2) rfl (jb rfl) rfl ⟨rfl, rfl⟩ ⟨(Nat.le_of_ble_eq_true rfl), (Nat.le_of_ble_eq_true rfl)⟩ (Nat.le_of_ble_eq_true rfl) dX9_beast_114 (fun _ => rfl) rfl (fun r19 M18 => ?_)
      exact j_iret (pc := 117) hX rfl dX9_beast_117
    refine j_if (fun hq23 => ?_) (fun hq23 => ?_)
    · rw [hq23]
      refine j_tableIn (pc := 14) (off := 104) hX 118 dX9_beast_14 (by decide) (by decide) (by decide) (by decide) ?_
      refine j_aload_n (pc := 118) hX 0 dX9_beast_118 rfl rfl ?_
      refine j_getR (pc := 119) (t := 27) hX (jb rfl) rfl (ci := 8) (C := RX9) (T := TX9) (N := 10) rfl (jb rfl) inX9 (j := 4) (jb rfl) rfl tw_424 dX9_beast_119 ?_
      refine j_iload_n (pc := 122) hX 1 dX9_beast_122 rfl rfl ?_
      refine j_iconst (pc := 123) (v := (4 : Int32)) hX dX9_beast_123 ci_4 ?_
      refine j_callV (pc := 124) hX [.int x1, .int (4 : Int32)] (mX4_get _ E hX.2.2.2.2.2.2.2.2.1 fu 27 rfl x1 (4 : Int32) M1) qX4_get tw_537 (jb rfl) rfl (ci := 4) (T := TX4) (N := 2) rfl (jb rfl) rfl ⟨rfl, rfl⟩ ⟨(Nat.le_of_ble_eq_true rfl), (Nat.le_of_ble_eq_true rfl)⟩ (Nat.le_of_ble_eq_true rfl) dX9_beast_124 (fun _ => rfl) rfl (fun r22 M21 => ?_)
      exact j_iret (pc := 127) hX rfl dX9_beast_127
    refine j_if (fun hq26 => ?_) (fun hq26 => ?_)
    · rw [hq26]
      refine j_tableIn (pc := 14) (off := 114) hX 128 dX9_beast_14 (by decide) (by decide) (by decide) (by decide) ?_
      refine j_aload_n (pc := 128) hX 0 dX9_beast_128 rfl rfl ?_
      refine j_getR (pc := 129) (t := 27) hX (jb rfl) rfl (ci := 8) (C := RX9) (T := TX9) (N := 10) rfl (jb rfl) inX9 (j := 4) (jb rfl) rfl tw_424 dX9_beast_129 ?_
      refine j_iload_n (pc := 132) hX 1 dX9_beast_132 rfl rfl ?_
      refine j_iconst (pc := 133) (v := (5 : Int32)) hX dX9_beast_133 ci_5 ?_
      refine j_callV (pc := 134) hX [.int x1, .int (5 : Int32)] (mX4_get _ E hX.2.2.2.2.2.2.2.2.1 fu 27 rfl x1 (5 : Int32) M1) qX4_get tw_537 (jb rfl) rfl (ci := 4) (T := TX4) (N := 2) rfl (jb rfl) rfl ⟨rfl, rfl⟩ ⟨(Nat.le_of_ble_eq_true rfl), (Nat.le_of_ble_eq_true rfl)⟩ (Nat.le_of_ble_eq_true rfl) dX9_beast_134 (fun _ => rfl) rfl (fun r25 M24 => ?_)
      exact j_iret (pc := 137) hX rfl dX9_beast_137
    refine j_tableOut (pc := 14) hX 138 dX9_beast_14 (sw_out (fun c h1 h2 => ?_)) (by decide) ?_
    · rcases (show c = 0 ∨ c = 1 ∨ c = 2 ∨ c = 3 ∨ c = 4 ∨ c = 5 ∨ c = 6 ∨ c = 7 by omega) with rfl | rfl | rfl | rfl | rfl | rfl | rfl | rfl
      · exact hq5
      · exact hq8
      · exact hq11
      · exact hq14
      · exact hq17
      · exact hq20
      · exact hq23
      · exact hq26
    · refine j_iconst (pc := 138) (v := (-1 : Int32)) hX dX9_beast_138 ci_m1 ?_
      exact j_iret (pc := 139) hX rfl dX9_beast_139
  · refine j_iconst (pc := 11) (v := (-1 : Int32)) hX dX9_beast_11 ci_m1 ?_
    exact j_iret (pc := 12) hX rfl dX9_beast_12
theorem mX9_beast (l : Launch) (E : jE) (hI : jInj (gX E)) (fu : Nat)  (x1 : Int32) (x2 : Int32) (M : Mem) : jMet l (gX E) yX9_beast cX9_beast 3 (some .int) rX9_beast [.ref (gad (gX E) 0), .int x1, .int x2] M (pX9_beast fu  x1 x2 M) :=
  j_entry hI (by decide +kernel) (Nat.le_of_ble_eq_true rfl) rfl (fun X _ hX => wX9_beast hX fu   x1 x2 M)
theorem qX9_sign : jYv yX9_sign cX9_sign 3 (some .int) 2 := ⟨tw_539, tw_540, tw_57, tw_541, ⟨by decide +kernel, by decide +kernel, by decide +kernel⟩⟩
abbrev rX9_sign : Room := { frames := 3, cells := 0, slots := 0, locals := 66 }
def uX9_sign : jM := (cX9_sign, 3, RX9, (some .int), rX9_sign)
def pX9_sign (fu : Nat) (x1 : Int32) (x2 : Int32) (M : Mem) : Res :=
  bI (pX1_hasBeast fu 5 x1 M) fun r2 M1 =>
  if r2 = 0 then (
    some ((-1 : Int32), M1))
  else
  if x2 < 0 then (
    some ((-1 : Int32), M1))
  else
  if x2 ≤ (2 : Int32) then (
    bI (pX4_carries fu 27 x1 M1) fun r4 M3 =>
    if r4 = 0 then (
      some ((-2 : Int32), M3))
    else
    if x2 = (0 : Int32) then (
      bI (pX4_get fu 27 x1 (6 : Int32) M3) fun r6 M5 =>
      bI (pX4_signOf fu 27 x1 r6 M5) fun r8 M7 =>
      some (r8, M7))
    else
    if x2 = (1 : Int32) then (
      bI (pX4_get fu 27 x1 (7 : Int32) M3) fun r11 M10 =>
      some (r11, M10))
    else
    bI (pX4_get fu 27 x1 (8 : Int32) M3) fun r14 M13 =>
    some (r14, M13))
  else
  some ((-1 : Int32), M1)
set_option maxRecDepth 100000 in
theorem wX9_sign {E : jE} {X : jC} (hX : jOk X uX9_sign (gX E)) (fu : Nat)  (x1 : Int32) (x2 : Int32) (M : Mem) : J X uX9_sign (gX E) 0 [(0, .ref (gad (gX E) 0)), (1, .int x1), (2, .int x2)] [] M (pX9_sign fu  x1 x2 M) := by
  unfold pX9_sign
  refine j_aload_n (pc := 0) hX 0 dX9_sign_0 rfl rfl ?_
  refine j_getR (pc := 1) (t := 5) hX (jb rfl) rfl (ci := 8) (C := RX9) (T := TX9) (N := 10) rfl (jb rfl) inX9 (j := 2) (jb rfl) rfl tw_422 dX9_sign_1 ?_
  refine j_iload_n (pc := 4) hX 1 dX9_sign_4 rfl rfl ?_
  refine j_callV (pc := 5) hX [.int x1] (mX1_hasBeast _ E hX.2.2.2.2.2.2.2.2.1 fu 5 rfl x1 M) qX1_hasBeast tw_525 (jb rfl) rfl (ci := 1) (T := TX1) (N := 13) rfl (jb rfl) rfl ⟨rfl, rfl⟩ ⟨(Nat.le_of_ble_eq_true rfl), (Nat.le_of_ble_eq_true rfl)⟩ (Nat.le_of_ble_eq_true rfl) dX9_sign_5 (fun _ => rfl) rfl (fun r2 M1 => ?_)
  refine j_if_eq (pc := 8) hX 20 dX9_sign_8 (by decide) ?_ ?_
  · refine j_iconst (pc := 20) (v := (-1 : Int32)) hX dX9_sign_20 ci_m1 ?_
    exact j_iret (pc := 21) hX rfl dX9_sign_21
  · refine j_iload_n (pc := 11) hX 2 dX9_sign_11 rfl rfl ?_
    refine j_if_lt (pc := 12) hX 20 dX9_sign_12 (by decide) ?_ ?_
    · refine j_iconst (pc := 20) (v := (-1 : Int32)) hX dX9_sign_20 ci_m1 ?_
      exact j_iret (pc := 21) hX rfl dX9_sign_21
    · refine j_iload_n (pc := 15) hX 2 dX9_sign_15 rfl rfl ?_
      refine j_iconst (pc := 16) (v := (2 : Int32)) hX dX9_sign_16 ci_2 ?_
      refine j_icmp_le (pc := 17) hX 22 dX9_sign_17 (by decide) ?_ ?_
      · refine j_aload_n (pc := 22) hX 0 dX9_sign_22 rfl rfl ?_
        refine j_getR (pc := 23) (t := 27) hX (jb rfl) rfl (ci := 8) (C := RX9) (T := TX9) (N := 10) rfl (jb rfl) inX9 (j := 4) (jb rfl) rfl tw_424 dX9_sign_23 ?_
        refine j_iload_n (pc := 26) hX 1 dX9_sign_26 rfl rfl ?_
        refine j_callV (pc := 27) hX [.int x1] (mX4_carries _ E hX.2.2.2.2.2.2.2.2.1 fu 27 rfl x1 M1) qX4_carries tw_542 (jb rfl) rfl (ci := 4) (T := TX4) (N := 2) rfl (jb rfl) rfl ⟨rfl, rfl⟩ ⟨(Nat.le_of_ble_eq_true rfl), (Nat.le_of_ble_eq_true rfl)⟩ (Nat.le_of_ble_eq_true rfl) dX9_sign_27 (fun _ => rfl) rfl (fun r4 M3 => ?_)
        refine j_if_ne (pc := 30) hX 36 dX9_sign_30 (by decide) ?_ ?_
        · refine j_iload_n (pc := 36) hX 2 dX9_sign_36 rfl rfl ?_
          refine j_if (fun hq9 => ?_) (fun hq9 => ?_)
          · rw [hq9]
            refine j_lookup (pc := 37) (off := 27) hX 64 dX9_sign_37 (by decide) (by decide) (by decide) ?_
            refine j_aload_n (pc := 64) hX 0 dX9_sign_64 rfl rfl ?_
            refine j_getR (pc := 65) (t := 27) hX (jb rfl) rfl (ci := 8) (C := RX9) (T := TX9) (N := 10) rfl (jb rfl) inX9 (j := 4) (jb rfl) rfl tw_424 dX9_sign_65 ?_
            refine j_iload_n (pc := 68) hX 1 dX9_sign_68 rfl rfl ?_
            refine j_aload_n (pc := 69) hX 0 dX9_sign_69 rfl rfl ?_
            refine j_getR (pc := 70) (t := 27) hX (jb rfl) rfl (ci := 8) (C := RX9) (T := TX9) (N := 10) rfl (jb rfl) inX9 (j := 4) (jb rfl) rfl tw_424 dX9_sign_70 ?_
            refine j_iload_n (pc := 73) hX 1 dX9_sign_73 rfl rfl ?_
            refine j_bipush (pc := 74) (v := (6 : Int32)) hX dX9_sign_74 cb_6 ?_
            refine j_callV (pc := 76) hX [.int x1, .int (6 : Int32)] (mX4_get _ E hX.2.2.2.2.2.2.2.2.1 fu 27 rfl x1 (6 : Int32) M3) qX4_get tw_537 (jb rfl) rfl (ci := 4) (T := TX4) (N := 2) rfl (jb rfl) rfl ⟨rfl, rfl⟩ ⟨(Nat.le_of_ble_eq_true rfl), (Nat.le_of_ble_eq_true rfl)⟩ (Nat.le_of_ble_eq_true rfl) dX9_sign_76 (fun _ => rfl) rfl (fun r6 M5 => ?_)
            refine j_callV (pc := 79) hX [.int x1, .int r6] (mX4_signOf _ E hX.2.2.2.2.2.2.2.2.1 fu 27 rfl x1 r6 M5) qX4_signOf tw_550 (jb rfl) rfl (ci := 4) (T := TX4) (N := 2) rfl (jb rfl) rfl ⟨rfl, rfl⟩ ⟨(Nat.le_of_ble_eq_true rfl), (Nat.le_of_ble_eq_true rfl)⟩ (Nat.le_of_ble_eq_true rfl) dX9_sign_79 (fun _ => rfl) rfl (fun r8 M7 => ?_)
            exact j_iret (pc := 82) hX rfl dX9_sign_82
          refine j_if (fun hq12 => ?_) (fun hq12 => ?_)
          · rw [hq12]
            refine j_lookup (pc := 37) (off := 46) hX 83 dX9_sign_37 (by decide) (by decide) (by decide) ?_
            refine j_aload_n (pc := 83) hX 0 dX9_sign_83 rfl rfl ?_
            refine j_getR (pc := 84) (t := 27) hX (jb rfl) rfl (ci := 8) (C := RX9) (T := TX9) (N := 10) rfl (jb rfl) inX9 (j := 4) (jb rfl) rfl tw_424 dX9_sign_84 ?_
            refine j_iload_n (pc := 87) hX 1 dX9_sign_87 rfl rfl ?_
            refine j_bipush (pc := 88) (v := (7 : Int32)) hX dX9_sign_88 cb_7 ?_
            refine j_callV (pc := 90) hX [.int x1, .int (7 : Int32)] (mX4_get _ E hX.2.2.2.2.2.2.2.2.1 fu 27 rfl x1 (7 : Int32) M3) qX4_get tw_537 (jb rfl) rfl (ci := 4) (T := TX4) (N := 2) rfl (jb rfl) rfl ⟨rfl, rfl⟩ ⟨(Nat.le_of_ble_eq_true rfl), (Nat.le_of_ble_eq_true rfl)⟩ (Nat.le_of_ble_eq_true rfl) dX9_sign_90 (fun _ => rfl) rfl (fun r11 M10 => ?_)
            exact j_iret (pc := 93) hX rfl dX9_sign_93
          refine j_lookup (pc := 37) (off := 57) hX 94 dX9_sign_37 (by decide) (by simp only [Op.lookupswitch.offset]; rw [if_neg (sw_ne (c := 0) hq9), if_neg (sw_ne (c := 1) hq12)]) (by decide) ?_
          refine j_aload_n (pc := 94) hX 0 dX9_sign_94 rfl rfl ?_
          refine j_getR (pc := 95) (t := 27) hX (jb rfl) rfl (ci := 8) (C := RX9) (T := TX9) (N := 10) rfl (jb rfl) inX9 (j := 4) (jb rfl) rfl tw_424 dX9_sign_95 ?_
          refine j_iload_n (pc := 98) hX 1 dX9_sign_98 rfl rfl ?_
          refine j_bipush (pc := 99) (v := (8 : Int32)) hX dX9_sign_99 cb_8 ?_
          refine j_callV (pc := 101) hX [.int x1, .int (8 : Int32)] (mX4_get _ E hX.2.2.2.2.2.2.2.2.1 fu 27 rfl x1 (8 : Int32) M3) qX4_get tw_537 (jb rfl) rfl (ci := 4) (T := TX4) (N := 2) rfl (jb rfl) rfl ⟨rfl, rfl⟩ ⟨(Nat.le_of_ble_eq_true rfl), (Nat.le_of_ble_eq_true rfl)⟩ (Nat.le_of_ble_eq_true rfl) dX9_sign_101 (fun _ => rfl) rfl (fun r14 M13 => ?_)
          exact j_iret (pc := 104) hX rfl dX9_sign_104
        · refine j_bipush (pc := 33) (v := (-2 : Int32)) hX dX9_sign_33 cb_m2 ?_
          exact j_iret (pc := 35) hX rfl dX9_sign_35
      · refine j_iconst (pc := 20) (v := (-1 : Int32)) hX dX9_sign_20 ci_m1 ?_
        exact j_iret (pc := 21) hX rfl dX9_sign_21
theorem mX9_sign (l : Launch) (E : jE) (hI : jInj (gX E)) (fu : Nat)  (x1 : Int32) (x2 : Int32) (M : Mem) : jMet l (gX E) yX9_sign cX9_sign 3 (some .int) rX9_sign [.ref (gad (gX E) 0), .int x1, .int x2] M (pX9_sign fu  x1 x2 M) :=
  j_entry hI (by decide +kernel) (Nat.le_of_ble_eq_true rfl) rfl (fun X _ hX => wX9_sign hX fu   x1 x2 M)
theorem qX9_isVerdict : jYs yX9_isVerdict cX9_isVerdict 1 (some .boolean) 1 := ⟨tw_564, tw_57, tw_565, ⟨by decide +kernel, by decide +kernel, by decide +kernel⟩⟩
abbrev rX9_isVerdict : Room := { frames := 0, cells := 0, slots := 0, locals := 0 }
def uX9_isVerdict : jM := (cX9_isVerdict, 1, RX9, (some .boolean), rX9_isVerdict)
def pX9_isVerdict (fu : Nat) (x0 : Int32) (M : Mem) : Res :=
  if x0 < 0 then (
    rtz (0 : Int32) M)
  else
  if (7 : Int32) < x0 then (
    rtz (0 : Int32) M)
  else
  rtz (1 : Int32) M
set_option maxRecDepth 100000 in
theorem wX9_isVerdict {E : jE} {X : jC} (hX : jOk X uX9_isVerdict (gX E)) (fu : Nat)  (x0 : Int32) (M : Mem) : J X uX9_isVerdict (gX E) 0 [(0, .int x0)] [] M (pX9_isVerdict fu  x0 M) := by
  unfold pX9_isVerdict
  refine j_iload_n (pc := 0) hX 0 dX9_isVerdict_0 rfl rfl ?_
  refine j_if_lt (pc := 1) hX 14 dX9_isVerdict_1 (by decide) ?_ ?_
  · refine j_iconst (pc := 14) (v := (0 : Int32)) hX dX9_isVerdict_14 ci_0 ?_
    exact j_zret (pc := 15) hX rfl dX9_isVerdict_15
  · refine j_iload_n (pc := 4) hX 0 dX9_isVerdict_4 rfl rfl ?_
    refine j_bipush (pc := 5) (v := (7 : Int32)) hX dX9_isVerdict_5 cb_7 ?_
    refine j_icmp_gt (pc := 7) hX 14 dX9_isVerdict_7 (by decide) ?_ ?_
    · refine j_iconst (pc := 14) (v := (0 : Int32)) hX dX9_isVerdict_14 ci_0 ?_
      exact j_zret (pc := 15) hX rfl dX9_isVerdict_15
    · refine j_iconst (pc := 10) (v := (1 : Int32)) hX dX9_isVerdict_10 ci_1 ?_
      refine j_goto (pc := 11) hX 15 dX9_isVerdict_11 (by decide) ?_
      exact j_zret (pc := 15) hX rfl dX9_isVerdict_15
theorem mX9_isVerdict (l : Launch) (E : jE) (hI : jInj (gX E)) (fu : Nat)  (x0 : Int32) (M : Mem) : jMet l (gX E) yX9_isVerdict cX9_isVerdict 1 (some .boolean) rX9_isVerdict [.int x0] M (pX9_isVerdict fu  x0 M) :=
  j_entry hI (by decide +kernel) (Nat.le_of_ble_eq_true rfl) rfl (fun X _ hX => wX9_isVerdict hX fu   x0 M)
theorem qX9_send : jYv yX9_send cX9_send 4 (some .int) 3 := ⟨tw_560, tw_561, tw_57, tw_562, ⟨by decide +kernel, by decide +kernel, by decide +kernel⟩⟩
abbrev rX9_send : Room := { frames := 4, cells := 0, slots := 0, locals := 122 }
def uX9_send : jM := (cX9_send, 4, RX9, (some .int), rX9_send)
def pX9_send (fu : Nat) (x1 : Int32) (x2 : Int32) (x3 : Int32) (M : Mem) : Res :=
  bI (pX1_hasBeast fu 5 x1 M) fun r2 M1 =>
  if r2 = 0 then (
    some ((-1 : Int32), M1))
  else
  bI (pX9_isVerdict fu x2 M1) fun r4 M3 =>
  if r4 = 0 then (
    some ((-1 : Int32), M3))
  else
  bI (pX1_hasDoor fu 5 x3 M3) fun r6 M5 =>
  if r6 = 0 then (
    some ((-1 : Int32), M5))
  else
  bI (pX4_canBeSent fu 27 x1 x3 M5) fun r8 M7 =>
  if r8 = 0 then (
    some ((-2 : Int32), M7))
  else
  bV (pX8_push fu 29 27 M7) fun M9 =>
  bV (pX4_dispatch fu 27 x1 x2 x3 M9) fun M10 =>
  bI (pX4_get fu 27 x1 (0 : Int32) M10) fun r12 M11 =>
  some (r12, M11)
set_option maxRecDepth 100000 in
theorem wX9_send {E : jE} {X : jC} (hX : jOk X uX9_send (gX E)) (fu : Nat)  (x1 : Int32) (x2 : Int32) (x3 : Int32) (M : Mem) : J X uX9_send (gX E) 0 [(0, .ref (gad (gX E) 0)), (1, .int x1), (2, .int x2), (3, .int x3)] [] M (pX9_send fu  x1 x2 x3 M) := by
  unfold pX9_send
  refine j_aload_n (pc := 0) hX 0 dX9_send_0 rfl rfl ?_
  refine j_getR (pc := 1) (t := 5) hX (jb rfl) rfl (ci := 8) (C := RX9) (T := TX9) (N := 10) rfl (jb rfl) inX9 (j := 2) (jb rfl) rfl tw_422 dX9_send_1 ?_
  refine j_iload_n (pc := 4) hX 1 dX9_send_4 rfl rfl ?_
  refine j_callV (pc := 5) hX [.int x1] (mX1_hasBeast _ E hX.2.2.2.2.2.2.2.2.1 fu 5 rfl x1 M) qX1_hasBeast tw_525 (jb rfl) rfl (ci := 1) (T := TX1) (N := 13) rfl (jb rfl) rfl ⟨rfl, rfl⟩ ⟨(Nat.le_of_ble_eq_true rfl), (Nat.le_of_ble_eq_true rfl)⟩ (Nat.le_of_ble_eq_true rfl) dX9_send_5 (fun _ => rfl) rfl (fun r2 M1 => ?_)
  refine j_if_eq (pc := 8) hX 29 dX9_send_8 (by decide) ?_ ?_
  · refine j_iconst (pc := 29) (v := (-1 : Int32)) hX dX9_send_29 ci_m1 ?_
    exact j_iret (pc := 30) hX rfl dX9_send_30
  · refine j_iload_n (pc := 11) hX 2 dX9_send_11 rfl rfl ?_
    refine j_callS (pc := 12) hX [.int x2] (mX9_isVerdict _ E hX.2.2.2.2.2.2.2.2.1 fu   x2 M1) qX9_isVerdict tw_563 rfl ⟨rfl, rfl⟩ ⟨(Nat.le_of_ble_eq_true rfl), (Nat.le_of_ble_eq_true rfl)⟩ (Nat.le_of_ble_eq_true rfl) dX9_send_12 (fun _ => rfl) rfl (fun r4 M3 => ?_)
    refine j_if_eq (pc := 15) hX 29 dX9_send_15 (by decide) ?_ ?_
    · refine j_iconst (pc := 29) (v := (-1 : Int32)) hX dX9_send_29 ci_m1 ?_
      exact j_iret (pc := 30) hX rfl dX9_send_30
    · refine j_aload_n (pc := 18) hX 0 dX9_send_18 rfl rfl ?_
      refine j_getR (pc := 19) (t := 5) hX (jb rfl) rfl (ci := 8) (C := RX9) (T := TX9) (N := 10) rfl (jb rfl) inX9 (j := 2) (jb rfl) rfl tw_422 dX9_send_19 ?_
      refine j_iload_n (pc := 22) hX 3 dX9_send_22 rfl rfl ?_
      refine j_callV (pc := 23) hX [.int x3] (mX1_hasDoor _ E hX.2.2.2.2.2.2.2.2.1 fu 5 rfl x3 M3) qX1_hasDoor tw_509 (jb rfl) rfl (ci := 1) (T := TX1) (N := 13) rfl (jb rfl) rfl ⟨rfl, rfl⟩ ⟨(Nat.le_of_ble_eq_true rfl), (Nat.le_of_ble_eq_true rfl)⟩ (Nat.le_of_ble_eq_true rfl) dX9_send_23 (fun _ => rfl) rfl (fun r6 M5 => ?_)
      refine j_if_ne (pc := 26) hX 31 dX9_send_26 (by decide) ?_ ?_
      · refine j_aload_n (pc := 31) hX 0 dX9_send_31 rfl rfl ?_
        refine j_getR (pc := 32) (t := 27) hX (jb rfl) rfl (ci := 8) (C := RX9) (T := TX9) (N := 10) rfl (jb rfl) inX9 (j := 4) (jb rfl) rfl tw_424 dX9_send_32 ?_
        refine j_iload_n (pc := 35) hX 1 dX9_send_35 rfl rfl ?_
        refine j_iload_n (pc := 36) hX 3 dX9_send_36 rfl rfl ?_
        refine j_callV (pc := 37) hX [.int x1, .int x3] (mX4_canBeSent _ E hX.2.2.2.2.2.2.2.2.1 fu 27 rfl x1 x3 M5) qX4_canBeSent tw_566 (jb rfl) rfl (ci := 4) (T := TX4) (N := 2) rfl (jb rfl) rfl ⟨rfl, rfl⟩ ⟨(Nat.le_of_ble_eq_true rfl), (Nat.le_of_ble_eq_true rfl)⟩ (Nat.le_of_ble_eq_true rfl) dX9_send_37 (fun _ => rfl) rfl (fun r8 M7 => ?_)
        refine j_if_ne (pc := 40) hX 46 dX9_send_40 (by decide) ?_ ?_
        · refine j_aload_n (pc := 46) hX 0 dX9_send_46 rfl rfl ?_
          refine j_getR (pc := 47) (t := 29) hX (jb rfl) rfl (ci := 8) (C := RX9) (T := TX9) (N := 10) rfl (jb rfl) inX9 (j := 5) (jb rfl) rfl tw_425 dX9_send_47 ?_
          refine j_aload_n (pc := 50) hX 0 dX9_send_50 rfl rfl ?_
          refine j_getR (pc := 51) (t := 27) hX (jb rfl) rfl (ci := 8) (C := RX9) (T := TX9) (N := 10) rfl (jb rfl) inX9 (j := 4) (jb rfl) rfl tw_424 dX9_send_51 ?_
          refine j_callVv (pc := 54) hX [.ref (gad (gX E) 27)] (mX8_push _ E hX.2.2.2.2.2.2.2.2.1 fu 29 27 rfl rfl  M7) qX8_push tw_575 (jb rfl) rfl (ci := 7) (T := TX8) (N := 3) rfl (jb rfl) rfl ⟨rfl, rfl⟩ ⟨(Nat.le_of_ble_eq_true rfl), (Nat.le_of_ble_eq_true rfl)⟩ (Nat.le_of_ble_eq_true rfl) dX9_send_54 rfl (fun M9 => ?_)
          refine j_aload_n (pc := 57) hX 0 dX9_send_57 rfl rfl ?_
          refine j_getR (pc := 58) (t := 27) hX (jb rfl) rfl (ci := 8) (C := RX9) (T := TX9) (N := 10) rfl (jb rfl) inX9 (j := 4) (jb rfl) rfl tw_424 dX9_send_58 ?_
          refine j_iload_n (pc := 61) hX 1 dX9_send_61 rfl rfl ?_
          refine j_iload_n (pc := 62) hX 2 dX9_send_62 rfl rfl ?_
          refine j_iload_n (pc := 63) hX 3 dX9_send_63 rfl rfl ?_
          refine j_callVv (pc := 64) hX [.int x1, .int x2, .int x3] (mX4_dispatch _ E hX.2.2.2.2.2.2.2.2.1 fu 27 rfl x1 x2 x3 M9) qX4_dispatch tw_587 (jb rfl) rfl (ci := 4) (T := TX4) (N := 2) rfl (jb rfl) rfl ⟨rfl, rfl⟩ ⟨(Nat.le_of_ble_eq_true rfl), (Nat.le_of_ble_eq_true rfl)⟩ (Nat.le_of_ble_eq_true rfl) dX9_send_64 rfl (fun M10 => ?_)
          refine j_aload_n (pc := 67) hX 0 dX9_send_67 rfl rfl ?_
          refine j_getR (pc := 68) (t := 27) hX (jb rfl) rfl (ci := 8) (C := RX9) (T := TX9) (N := 10) rfl (jb rfl) inX9 (j := 4) (jb rfl) rfl tw_424 dX9_send_68 ?_
          refine j_iload_n (pc := 71) hX 1 dX9_send_71 rfl rfl ?_
          refine j_iconst (pc := 72) (v := (0 : Int32)) hX dX9_send_72 ci_0 ?_
          refine j_callV (pc := 73) hX [.int x1, .int (0 : Int32)] (mX4_get _ E hX.2.2.2.2.2.2.2.2.1 fu 27 rfl x1 (0 : Int32) M10) qX4_get tw_537 (jb rfl) rfl (ci := 4) (T := TX4) (N := 2) rfl (jb rfl) rfl ⟨rfl, rfl⟩ ⟨(Nat.le_of_ble_eq_true rfl), (Nat.le_of_ble_eq_true rfl)⟩ (Nat.le_of_ble_eq_true rfl) dX9_send_73 (fun _ => rfl) rfl (fun r12 M11 => ?_)
          exact j_iret (pc := 76) hX rfl dX9_send_76
        · refine j_bipush (pc := 43) (v := (-2 : Int32)) hX dX9_send_43 cb_m2 ?_
          exact j_iret (pc := 45) hX rfl dX9_send_45
      · refine j_iconst (pc := 29) (v := (-1 : Int32)) hX dX9_send_29 ci_m1 ?_
        exact j_iret (pc := 30) hX rfl dX9_send_30
theorem mX9_send (l : Launch) (E : jE) (hI : jInj (gX E)) (fu : Nat)  (x1 : Int32) (x2 : Int32) (x3 : Int32) (M : Mem) : jMet l (gX E) yX9_send cX9_send 4 (some .int) rX9_send [.ref (gad (gX E) 0), .int x1, .int x2, .int x3] M (pX9_send fu  x1 x2 x3 M) :=
  j_entry hI (by decide +kernel) (Nat.le_of_ble_eq_true rfl) rfl (fun X _ hX => wX9_send hX fu   x1 x2 x3 M)
theorem qX9_pass : jYv yX9_pass cX9_pass 3 (some .int) 1 := ⟨tw_592, tw_593, tw_57, tw_594, ⟨by decide +kernel, by decide +kernel, by decide +kernel⟩⟩
abbrev rX9_pass : Room := { frames := 5, cells := 0, slots := 0, locals := 122 }
def uX9_pass : jM := (cX9_pass, 3, RX9, (some .int), rX9_pass)
def pX9_pass_26b (fu : Nat) (x1 : Int32) (x2 : Int32) (M : Mem) (c26 : Int32 → Int32 → Mem → Res) (c46 : Mem → Res) : Res :=
  if x1 ≤ x2 then (
    c46 M)
  else
  bV (pX4_goOn fu 27 (-4 : Int32) M) fun M2 =>
  c26 x1 (x2 + (1 : Int32)) M2
set_option maxRecDepth 100000 in
theorem wX9_pass_26b {E : jE} {X : jC} (hX : jOk X uX9_pass (gX E)) (fu : Nat)  (x1 : Int32) (x2 : Int32) (M : Mem) (c26 : Int32 → Int32 → Mem → Res) (c46 : Mem → Res) (hc26 : ∀ (x1 : Int32) (x2 : Int32) (M : Mem), J X uX9_pass (gX E) 26 [(0, .ref (gad (gX E) 0)), (1, .int x1), (2, .int x2)] [] M (c26 x1 x2 M)) (hc46 : ∀  (M : Mem), J X uX9_pass (gX E) 46 [(0, .ref (gad (gX E) 0))] [] M (c46  M)) : J X uX9_pass (gX E) 26 [(0, .ref (gad (gX E) 0)), (1, .int x1), (2, .int x2)] [] M (pX9_pass_26b fu  x1 x2 M c26 c46) := by
  unfold pX9_pass_26b
  refine j_iload_n (pc := 26) hX 2 dX9_pass_26 rfl rfl ?_
  refine j_iload_n (pc := 27) hX 1 dX9_pass_27 rfl rfl ?_
  refine j_icmp_ge (pc := 28) hX 46 dX9_pass_28 (by decide) ?_ ?_
  · exact j_sub [0] rfl (hc46  M)
  · refine j_aload_n (pc := 31) hX 0 dX9_pass_31 rfl rfl ?_
    refine j_getR (pc := 32) (t := 27) hX (jb rfl) rfl (ci := 8) (C := RX9) (T := TX9) (N := 10) rfl (jb rfl) inX9 (j := 4) (jb rfl) rfl tw_424 dX9_pass_32 ?_
    refine j_bipush (pc := 35) (v := (-4 : Int32)) hX dX9_pass_35 cb_m4 ?_
    refine j_callVv (pc := 37) hX [.int (-4 : Int32)] (mX4_goOn _ E hX.2.2.2.2.2.2.2.2.1 fu 27 rfl (-4 : Int32) M) qX4_goOn tw_595 (jb rfl) rfl (ci := 4) (T := TX4) (N := 2) rfl (jb rfl) rfl ⟨rfl, rfl⟩ ⟨(Nat.le_of_ble_eq_true rfl), (Nat.le_of_ble_eq_true rfl)⟩ (Nat.le_of_ble_eq_true rfl) dX9_pass_37 rfl (fun M2 => ?_)
    refine j_iinc (pc := 40) (v := (x2 + (1 : Int32))) (lv' := [(2, .int (x2 + (1 : Int32))), (0, .ref (gad (gX E) 0)), (1, .int x1)]) hX 2 dX9_pass_40 rfl (by rw [ci_1]) (jb rfl) rfl ?_
    refine j_goto (pc := 43) hX 26 dX9_pass_43 (by decide) ?_
    exact j_sub [1, 2, 0] rfl (hc26 x1 (x2 + (1 : Int32)) M2)
def pX9_pass_26 (fu : Nat) (c46 : Mem → Res) : Nat → Int32 → Int32 → Mem → Res
  | 0, _, _, _ => none
  | n + 1, x1, x2, M => pX9_pass_26b fu  x1 x2 M (pX9_pass_26 fu  c46 n) c46
theorem wX9_pass_26 {E : jE} {X : jC} (hX : jOk X uX9_pass (gX E)) (fu : Nat)  (c46 : Mem → Res) (hc46 : ∀  (M : Mem), J X uX9_pass (gX E) 46 [(0, .ref (gad (gX E) 0))] [] M (c46  M)) : ∀ (n : Nat) (x1 : Int32) (x2 : Int32) (M : Mem), J X uX9_pass (gX E) 26 [(0, .ref (gad (gX E) 0)), (1, .int x1), (2, .int x2)] [] M (pX9_pass_26 fu  c46 n x1 x2 M) := by
  intro n
  induction n with
  | zero => intro x1 x2 M; exact j_none
  | succ n ih => intro x1 x2 M; exact wX9_pass_26b hX fu   x1 x2 M (pX9_pass_26 fu  c46 n) c46 ih hc46
def pX9_pass (fu : Nat) (x1 : Int32) (M : Mem) : Res :=
  if x1 < (1 : Int32) then (
    some ((-1 : Int32), M))
  else
  if x1 ≤ (24 : Int32) then (
    bV (pX8_push fu 29 27 M) fun M1 =>
    pX9_pass_26 fu
      (fun  M3 =>
        bI (pX4_hours fu 27 M3) fun r5 M4 =>
        some (r5, M4))
      fu x1 (0 : Int32) M1)
  else
  some ((-1 : Int32), M)
set_option maxRecDepth 100000 in
theorem wX9_pass {E : jE} {X : jC} (hX : jOk X uX9_pass (gX E)) (fu : Nat)  (x1 : Int32) (M : Mem) : J X uX9_pass (gX E) 0 [(0, .ref (gad (gX E) 0)), (1, .int x1)] [] M (pX9_pass fu  x1 M) := by
  unfold pX9_pass
  refine j_iload_n (pc := 0) hX 1 dX9_pass_0 rfl rfl ?_
  refine j_iconst (pc := 1) (v := (1 : Int32)) hX dX9_pass_1 ci_1 ?_
  refine j_icmp_lt (pc := 2) hX 11 dX9_pass_2 (by decide) ?_ ?_
  · refine j_iconst (pc := 11) (v := (-1 : Int32)) hX dX9_pass_11 ci_m1 ?_
    exact j_iret (pc := 12) hX rfl dX9_pass_12
  · refine j_iload_n (pc := 5) hX 1 dX9_pass_5 rfl rfl ?_
    refine j_bipush (pc := 6) (v := (24 : Int32)) hX dX9_pass_6 cb_24 ?_
    refine j_icmp_le (pc := 8) hX 13 dX9_pass_8 (by decide) ?_ ?_
    · refine j_aload_n (pc := 13) hX 0 dX9_pass_13 rfl rfl ?_
      refine j_getR (pc := 14) (t := 29) hX (jb rfl) rfl (ci := 8) (C := RX9) (T := TX9) (N := 10) rfl (jb rfl) inX9 (j := 5) (jb rfl) rfl tw_425 dX9_pass_14 ?_
      refine j_aload_n (pc := 17) hX 0 dX9_pass_17 rfl rfl ?_
      refine j_getR (pc := 18) (t := 27) hX (jb rfl) rfl (ci := 8) (C := RX9) (T := TX9) (N := 10) rfl (jb rfl) inX9 (j := 4) (jb rfl) rfl tw_424 dX9_pass_18 ?_
      refine j_callVv (pc := 21) hX [.ref (gad (gX E) 27)] (mX8_push _ E hX.2.2.2.2.2.2.2.2.1 fu 29 27 rfl rfl  M) qX8_push tw_575 (jb rfl) rfl (ci := 7) (T := TX8) (N := 3) rfl (jb rfl) rfl ⟨rfl, rfl⟩ ⟨(Nat.le_of_ble_eq_true rfl), (Nat.le_of_ble_eq_true rfl)⟩ (Nat.le_of_ble_eq_true rfl) dX9_pass_21 rfl (fun M1 => ?_)
      refine j_iconst (pc := 24) (v := (0 : Int32)) hX dX9_pass_24 ci_0 ?_
      refine j_istore_n (pc := 25) (lv' := [(2, .int (0 : Int32)), (0, .ref (gad (gX E) 0)), (1, .int x1)]) hX dX9_pass_25 rfl (jb rfl) rfl ?_
      refine j_sub [1, 2, 0] rfl (wX9_pass_26 hX fu   _ ?_ fu x1 (0 : Int32) M1)
      · intro  M3
        refine j_aload_n (pc := 46) hX 0 dX9_pass_46 rfl rfl ?_
        refine j_getR (pc := 47) (t := 27) hX (jb rfl) rfl (ci := 8) (C := RX9) (T := TX9) (N := 10) rfl (jb rfl) inX9 (j := 4) (jb rfl) rfl tw_424 dX9_pass_47 ?_
        refine j_callV (pc := 50) hX [] (mX4_hours _ E hX.2.2.2.2.2.2.2.2.1 fu 27 rfl  M3) qX4_hours tw_627 (jb rfl) rfl (ci := 4) (T := TX4) (N := 2) rfl (jb rfl) rfl ⟨rfl, rfl⟩ ⟨(Nat.le_of_ble_eq_true rfl), (Nat.le_of_ble_eq_true rfl)⟩ (Nat.le_of_ble_eq_true rfl) dX9_pass_50 (fun _ => rfl) rfl (fun r5 M4 => ?_)
        exact j_iret (pc := 53) hX rfl dX9_pass_53
    · refine j_iconst (pc := 11) (v := (-1 : Int32)) hX dX9_pass_11 ci_m1 ?_
      exact j_iret (pc := 12) hX rfl dX9_pass_12
theorem mX9_pass (l : Launch) (E : jE) (hI : jInj (gX E)) (fu : Nat)  (x1 : Int32) (M : Mem) : jMet l (gX E) yX9_pass cX9_pass 3 (some .int) rX9_pass [.ref (gad (gX E) 0), .int x1] M (pX9_pass fu  x1 M) :=
  j_entry hI (by decide +kernel) (Nat.le_of_ble_eq_true rfl) rfl (fun X _ hX => wX9_pass hX fu   x1 M)
theorem qX9_home : jYv yX9_home cX9_home 3 (some .int) 1 := ⟨tw_629, tw_630, tw_57, tw_631, ⟨by decide +kernel, by decide +kernel, by decide +kernel⟩⟩
abbrev rX9_home : Room := { frames := 5, cells := 0, slots := 0, locals := 122 }
def uX9_home : jM := (cX9_home, 3, RX9, (some .int), rX9_home)
def pX9_home (fu : Nat) (x1 : Int32) (M : Mem) : Res :=
  bI (pX1_hasBeast fu 5 x1 M) fun r2 M1 =>
  if r2 = 0 then (
    some ((-1 : Int32), M1))
  else
  bI (pX4_is fu 27 x1 (2 : Int32) M1) fun r4 M3 =>
  if r4 = 0 then (
    some ((-2 : Int32), M3))
  else
  bV (pX8_push fu 29 27 M3) fun M5 =>
  bI (pX4_readOf fu 27 x1 M5) fun r7 M6 =>
  bV (pX4_callHome fu 27 x1 M6) fun M8 =>
  some (r7, M8)
set_option maxRecDepth 100000 in
theorem wX9_home {E : jE} {X : jC} (hX : jOk X uX9_home (gX E)) (fu : Nat)  (x1 : Int32) (M : Mem) : J X uX9_home (gX E) 0 [(0, .ref (gad (gX E) 0)), (1, .int x1)] [] M (pX9_home fu  x1 M) := by
  unfold pX9_home
  refine j_aload_n (pc := 0) hX 0 dX9_home_0 rfl rfl ?_
  refine j_getR (pc := 1) (t := 5) hX (jb rfl) rfl (ci := 8) (C := RX9) (T := TX9) (N := 10) rfl (jb rfl) inX9 (j := 2) (jb rfl) rfl tw_422 dX9_home_1 ?_
  refine j_iload_n (pc := 4) hX 1 dX9_home_4 rfl rfl ?_
  refine j_callV (pc := 5) hX [.int x1] (mX1_hasBeast _ E hX.2.2.2.2.2.2.2.2.1 fu 5 rfl x1 M) qX1_hasBeast tw_525 (jb rfl) rfl (ci := 1) (T := TX1) (N := 13) rfl (jb rfl) rfl ⟨rfl, rfl⟩ ⟨(Nat.le_of_ble_eq_true rfl), (Nat.le_of_ble_eq_true rfl)⟩ (Nat.le_of_ble_eq_true rfl) dX9_home_5 (fun _ => rfl) rfl (fun r2 M1 => ?_)
  refine j_if_ne (pc := 8) hX 13 dX9_home_8 (by decide) ?_ ?_
  · refine j_aload_n (pc := 13) hX 0 dX9_home_13 rfl rfl ?_
    refine j_getR (pc := 14) (t := 27) hX (jb rfl) rfl (ci := 8) (C := RX9) (T := TX9) (N := 10) rfl (jb rfl) inX9 (j := 4) (jb rfl) rfl tw_424 dX9_home_14 ?_
    refine j_iload_n (pc := 17) hX 1 dX9_home_17 rfl rfl ?_
    refine j_iconst (pc := 18) (v := (2 : Int32)) hX dX9_home_18 ci_2 ?_
    refine j_callV (pc := 19) hX [.int x1, .int (2 : Int32)] (mX4_is _ E hX.2.2.2.2.2.2.2.2.1 fu 27 rfl x1 (2 : Int32) M1) qX4_is tw_632 (jb rfl) rfl (ci := 4) (T := TX4) (N := 2) rfl (jb rfl) rfl ⟨rfl, rfl⟩ ⟨(Nat.le_of_ble_eq_true rfl), (Nat.le_of_ble_eq_true rfl)⟩ (Nat.le_of_ble_eq_true rfl) dX9_home_19 (fun _ => rfl) rfl (fun r4 M3 => ?_)
    refine j_if_ne (pc := 22) hX 28 dX9_home_22 (by decide) ?_ ?_
    · refine j_aload_n (pc := 28) hX 0 dX9_home_28 rfl rfl ?_
      refine j_getR (pc := 29) (t := 29) hX (jb rfl) rfl (ci := 8) (C := RX9) (T := TX9) (N := 10) rfl (jb rfl) inX9 (j := 5) (jb rfl) rfl tw_425 dX9_home_29 ?_
      refine j_aload_n (pc := 32) hX 0 dX9_home_32 rfl rfl ?_
      refine j_getR (pc := 33) (t := 27) hX (jb rfl) rfl (ci := 8) (C := RX9) (T := TX9) (N := 10) rfl (jb rfl) inX9 (j := 4) (jb rfl) rfl tw_424 dX9_home_33 ?_
      refine j_callVv (pc := 36) hX [.ref (gad (gX E) 27)] (mX8_push _ E hX.2.2.2.2.2.2.2.2.1 fu 29 27 rfl rfl  M3) qX8_push tw_575 (jb rfl) rfl (ci := 7) (T := TX8) (N := 3) rfl (jb rfl) rfl ⟨rfl, rfl⟩ ⟨(Nat.le_of_ble_eq_true rfl), (Nat.le_of_ble_eq_true rfl)⟩ (Nat.le_of_ble_eq_true rfl) dX9_home_36 rfl (fun M5 => ?_)
      refine j_aload_n (pc := 39) hX 0 dX9_home_39 rfl rfl ?_
      refine j_getR (pc := 40) (t := 27) hX (jb rfl) rfl (ci := 8) (C := RX9) (T := TX9) (N := 10) rfl (jb rfl) inX9 (j := 4) (jb rfl) rfl tw_424 dX9_home_40 ?_
      refine j_iload_n (pc := 43) hX 1 dX9_home_43 rfl rfl ?_
      refine j_callV (pc := 44) hX [.int x1] (mX4_readOf _ E hX.2.2.2.2.2.2.2.2.1 fu 27 rfl x1 M5) qX4_readOf tw_633 (jb rfl) rfl (ci := 4) (T := TX4) (N := 2) rfl (jb rfl) rfl ⟨rfl, rfl⟩ ⟨(Nat.le_of_ble_eq_true rfl), (Nat.le_of_ble_eq_true rfl)⟩ (Nat.le_of_ble_eq_true rfl) dX9_home_44 (fun _ => rfl) rfl (fun r7 M6 => ?_)
      refine j_istore_n (pc := 47) (lv' := [(2, .int r7), (0, .ref (gad (gX E) 0)), (1, .int x1)]) hX dX9_home_47 rfl (jb rfl) rfl ?_
      refine j_aload_n (pc := 48) hX 1 dX9_home_48 rfl rfl ?_
      refine j_getR (pc := 49) (t := 27) hX (jb rfl) rfl (ci := 8) (C := RX9) (T := TX9) (N := 10) rfl (jb rfl) inX9 (j := 4) (jb rfl) rfl tw_424 dX9_home_49 ?_
      refine j_iload_n (pc := 52) hX 2 dX9_home_52 rfl rfl ?_
      refine j_callVv (pc := 53) hX [.int x1] (mX4_callHome _ E hX.2.2.2.2.2.2.2.2.1 fu 27 rfl x1 M6) qX4_callHome tw_643 (jb rfl) rfl (ci := 4) (T := TX4) (N := 2) rfl (jb rfl) rfl ⟨rfl, rfl⟩ ⟨(Nat.le_of_ble_eq_true rfl), (Nat.le_of_ble_eq_true rfl)⟩ (Nat.le_of_ble_eq_true rfl) dX9_home_53 rfl (fun M8 => ?_)
      refine j_iload_n (pc := 56) hX 0 dX9_home_56 rfl rfl ?_
      exact j_iret (pc := 57) hX rfl dX9_home_57
    · refine j_bipush (pc := 25) (v := (-2 : Int32)) hX dX9_home_25 cb_m2 ?_
      exact j_iret (pc := 27) hX rfl dX9_home_27
  · refine j_iconst (pc := 11) (v := (-1 : Int32)) hX dX9_home_11 ci_m1 ?_
    exact j_iret (pc := 12) hX rfl dX9_home_12
theorem mX9_home (l : Launch) (E : jE) (hI : jInj (gX E)) (fu : Nat)  (x1 : Int32) (M : Mem) : jMet l (gX E) yX9_home cX9_home 3 (some .int) rX9_home [.ref (gad (gX E) 0), .int x1] M (pX9_home fu  x1 M) :=
  j_entry hI (by decide +kernel) (Nat.le_of_ble_eq_true rfl) rfl (fun X _ hX => wX9_home hX fu   x1 M)
theorem qX9_carrots : jYv yX9_carrots cX9_carrots 4 (some .int) 2 := ⟨tw_648, tw_649, tw_57, tw_650, ⟨by decide +kernel, by decide +kernel, by decide +kernel⟩⟩
abbrev rX9_carrots : Room := { frames := 3, cells := 0, slots := 0, locals := 122 }
def uX9_carrots : jM := (cX9_carrots, 4, RX9, (some .int), rX9_carrots)
def pX9_carrots (fu : Nat) (x1 : Int32) (x2 : Int32) (M : Mem) : Res :=
  bI (pX1_hasPlace fu 5 x1 M) fun r2 M1 =>
  if r2 = 0 then (
    some ((-1 : Int32), M1))
  else
  if x2 < 0 then (
    some ((-1 : Int32), M1))
  else
  if x2 ≤ (9 : Int32) then (
    bV (pX8_push fu 29 27 M1) fun M3 =>
    bI (pX4_carrotsIn fu 27 x1 M3) fun r5 M4 =>
    bV (pX4_putCarrots fu 27 x1 x2 M4) fun M6 =>
    some (r5, M6))
  else
  some ((-1 : Int32), M1)
set_option maxRecDepth 100000 in
theorem wX9_carrots {E : jE} {X : jC} (hX : jOk X uX9_carrots (gX E)) (fu : Nat)  (x1 : Int32) (x2 : Int32) (M : Mem) : J X uX9_carrots (gX E) 0 [(0, .ref (gad (gX E) 0)), (1, .int x1), (2, .int x2)] [] M (pX9_carrots fu  x1 x2 M) := by
  unfold pX9_carrots
  refine j_aload_n (pc := 0) hX 0 dX9_carrots_0 rfl rfl ?_
  refine j_getR (pc := 1) (t := 5) hX (jb rfl) rfl (ci := 8) (C := RX9) (T := TX9) (N := 10) rfl (jb rfl) inX9 (j := 2) (jb rfl) rfl tw_422 dX9_carrots_1 ?_
  refine j_iload_n (pc := 4) hX 1 dX9_carrots_4 rfl rfl ?_
  refine j_callV (pc := 5) hX [.int x1] (mX1_hasPlace _ E hX.2.2.2.2.2.2.2.2.1 fu 5 rfl x1 M) qX1_hasPlace tw_478 (jb rfl) rfl (ci := 1) (T := TX1) (N := 13) rfl (jb rfl) rfl ⟨rfl, rfl⟩ ⟨(Nat.le_of_ble_eq_true rfl), (Nat.le_of_ble_eq_true rfl)⟩ (Nat.le_of_ble_eq_true rfl) dX9_carrots_5 (fun _ => rfl) rfl (fun r2 M1 => ?_)
  refine j_if_eq (pc := 8) hX 21 dX9_carrots_8 (by decide) ?_ ?_
  · refine j_iconst (pc := 21) (v := (-1 : Int32)) hX dX9_carrots_21 ci_m1 ?_
    exact j_iret (pc := 22) hX rfl dX9_carrots_22
  · refine j_iload_n (pc := 11) hX 2 dX9_carrots_11 rfl rfl ?_
    refine j_if_lt (pc := 12) hX 21 dX9_carrots_12 (by decide) ?_ ?_
    · refine j_iconst (pc := 21) (v := (-1 : Int32)) hX dX9_carrots_21 ci_m1 ?_
      exact j_iret (pc := 22) hX rfl dX9_carrots_22
    · refine j_iload_n (pc := 15) hX 2 dX9_carrots_15 rfl rfl ?_
      refine j_bipush (pc := 16) (v := (9 : Int32)) hX dX9_carrots_16 cb_9 ?_
      refine j_icmp_le (pc := 18) hX 23 dX9_carrots_18 (by decide) ?_ ?_
      · refine j_aload_n (pc := 23) hX 0 dX9_carrots_23 rfl rfl ?_
        refine j_getR (pc := 24) (t := 29) hX (jb rfl) rfl (ci := 8) (C := RX9) (T := TX9) (N := 10) rfl (jb rfl) inX9 (j := 5) (jb rfl) rfl tw_425 dX9_carrots_24 ?_
        refine j_aload_n (pc := 27) hX 0 dX9_carrots_27 rfl rfl ?_
        refine j_getR (pc := 28) (t := 27) hX (jb rfl) rfl (ci := 8) (C := RX9) (T := TX9) (N := 10) rfl (jb rfl) inX9 (j := 4) (jb rfl) rfl tw_424 dX9_carrots_28 ?_
        refine j_callVv (pc := 31) hX [.ref (gad (gX E) 27)] (mX8_push _ E hX.2.2.2.2.2.2.2.2.1 fu 29 27 rfl rfl  M1) qX8_push tw_575 (jb rfl) rfl (ci := 7) (T := TX8) (N := 3) rfl (jb rfl) rfl ⟨rfl, rfl⟩ ⟨(Nat.le_of_ble_eq_true rfl), (Nat.le_of_ble_eq_true rfl)⟩ (Nat.le_of_ble_eq_true rfl) dX9_carrots_31 rfl (fun M3 => ?_)
        refine j_aload_n (pc := 34) hX 0 dX9_carrots_34 rfl rfl ?_
        refine j_getR (pc := 35) (t := 27) hX (jb rfl) rfl (ci := 8) (C := RX9) (T := TX9) (N := 10) rfl (jb rfl) inX9 (j := 4) (jb rfl) rfl tw_424 dX9_carrots_35 ?_
        refine j_iload_n (pc := 38) hX 1 dX9_carrots_38 rfl rfl ?_
        refine j_callV (pc := 39) hX [.int x1] (mX4_carrotsIn _ E hX.2.2.2.2.2.2.2.2.1 fu 27 rfl x1 M3) qX4_carrotsIn tw_479 (jb rfl) rfl (ci := 4) (T := TX4) (N := 2) rfl (jb rfl) rfl ⟨rfl, rfl⟩ ⟨(Nat.le_of_ble_eq_true rfl), (Nat.le_of_ble_eq_true rfl)⟩ (Nat.le_of_ble_eq_true rfl) dX9_carrots_39 (fun _ => rfl) rfl (fun r5 M4 => ?_)
        refine j_istore_n (pc := 42) (lv' := [(3, .int r5), (0, .ref (gad (gX E) 0)), (1, .int x1), (2, .int x2)]) hX dX9_carrots_42 rfl (jb rfl) rfl ?_
        refine j_aload_n (pc := 43) hX 1 dX9_carrots_43 rfl rfl ?_
        refine j_getR (pc := 44) (t := 27) hX (jb rfl) rfl (ci := 8) (C := RX9) (T := TX9) (N := 10) rfl (jb rfl) inX9 (j := 4) (jb rfl) rfl tw_424 dX9_carrots_44 ?_
        refine j_iload_n (pc := 47) hX 2 dX9_carrots_47 rfl rfl ?_
        refine j_iload_n (pc := 48) hX 3 dX9_carrots_48 rfl rfl ?_
        refine j_callVv (pc := 49) hX [.int x1, .int x2] (mX4_putCarrots _ E hX.2.2.2.2.2.2.2.2.1 fu 27 rfl x1 x2 M4) qX4_putCarrots tw_651 (jb rfl) rfl (ci := 4) (T := TX4) (N := 2) rfl (jb rfl) rfl ⟨rfl, rfl⟩ ⟨(Nat.le_of_ble_eq_true rfl), (Nat.le_of_ble_eq_true rfl)⟩ (Nat.le_of_ble_eq_true rfl) dX9_carrots_49 rfl (fun M6 => ?_)
        refine j_iload_n (pc := 52) hX 0 dX9_carrots_52 rfl rfl ?_
        exact j_iret (pc := 53) hX rfl dX9_carrots_53
      · refine j_iconst (pc := 21) (v := (-1 : Int32)) hX dX9_carrots_21 ci_m1 ?_
        exact j_iret (pc := 22) hX rfl dX9_carrots_22
theorem mX9_carrots (l : Launch) (E : jE) (hI : jInj (gX E)) (fu : Nat)  (x1 : Int32) (x2 : Int32) (M : Mem) : jMet l (gX E) yX9_carrots cX9_carrots 4 (some .int) rX9_carrots [.ref (gad (gX E) 0), .int x1, .int x2] M (pX9_carrots fu  x1 x2 M) :=
  j_entry hI (by decide +kernel) (Nat.le_of_ble_eq_true rfl) rfl (fun X _ hX => wX9_carrots hX fu   x1 x2 M)
theorem qX9_undo : jYv yX9_undo cX9_undo 1 (some .int) 0 := ⟨tw_653, tw_654, tw_57, tw_655, ⟨by decide +kernel, by decide +kernel, by decide +kernel⟩⟩
abbrev rX9_undo : Room := { frames := 3, cells := 0, slots := 0, locals := 122 }
def uX9_undo : jM := (cX9_undo, 1, RX9, (some .int), rX9_undo)
def pX9_undo (fu : Nat)  (M : Mem) : Res :=
  bI (pX8_pop fu 29 27 M) fun r2 M1 =>
  if r2 = 0 then (
    some ((-2 : Int32), M1))
  else
  bI (pX8_size fu 29 M1) fun r4 M3 =>
  some (r4, M3)
set_option maxRecDepth 100000 in
theorem wX9_undo {E : jE} {X : jC} (hX : jOk X uX9_undo (gX E)) (fu : Nat)   (M : Mem) : J X uX9_undo (gX E) 0 [(0, .ref (gad (gX E) 0))] [] M (pX9_undo fu   M) := by
  unfold pX9_undo
  refine j_aload_n (pc := 0) hX 0 dX9_undo_0 rfl rfl ?_
  refine j_getR (pc := 1) (t := 29) hX (jb rfl) rfl (ci := 8) (C := RX9) (T := TX9) (N := 10) rfl (jb rfl) inX9 (j := 5) (jb rfl) rfl tw_425 dX9_undo_1 ?_
  refine j_aload_n (pc := 4) hX 0 dX9_undo_4 rfl rfl ?_
  refine j_getR (pc := 5) (t := 27) hX (jb rfl) rfl (ci := 8) (C := RX9) (T := TX9) (N := 10) rfl (jb rfl) inX9 (j := 4) (jb rfl) rfl tw_424 dX9_undo_5 ?_
  refine j_callV (pc := 8) hX [.ref (gad (gX E) 27)] (mX8_pop _ E hX.2.2.2.2.2.2.2.2.1 fu 29 27 rfl rfl  M) qX8_pop tw_656 (jb rfl) rfl (ci := 7) (T := TX8) (N := 3) rfl (jb rfl) rfl ⟨rfl, rfl⟩ ⟨(Nat.le_of_ble_eq_true rfl), (Nat.le_of_ble_eq_true rfl)⟩ (Nat.le_of_ble_eq_true rfl) dX9_undo_8 (fun _ => rfl) rfl (fun r2 M1 => ?_)
  refine j_if_eq (pc := 11) hX 24 dX9_undo_11 (by decide) ?_ ?_
  · refine j_bipush (pc := 24) (v := (-2 : Int32)) hX dX9_undo_24 cb_m2 ?_
    exact j_iret (pc := 26) hX rfl dX9_undo_26
  · refine j_aload_n (pc := 14) hX 0 dX9_undo_14 rfl rfl ?_
    refine j_getR (pc := 15) (t := 29) hX (jb rfl) rfl (ci := 8) (C := RX9) (T := TX9) (N := 10) rfl (jb rfl) inX9 (j := 5) (jb rfl) rfl tw_425 dX9_undo_15 ?_
    refine j_callV (pc := 18) hX [] (mX8_size _ E hX.2.2.2.2.2.2.2.2.1 fu 29 rfl  M1) qX8_size tw_660 (jb rfl) rfl (ci := 7) (T := TX8) (N := 3) rfl (jb rfl) rfl ⟨rfl, rfl⟩ ⟨(Nat.le_of_ble_eq_true rfl), (Nat.le_of_ble_eq_true rfl)⟩ (Nat.le_of_ble_eq_true rfl) dX9_undo_18 (fun _ => rfl) rfl (fun r4 M3 => ?_)
    refine j_goto (pc := 21) hX 26 dX9_undo_21 (by decide) ?_
    exact j_iret (pc := 26) hX rfl dX9_undo_26
theorem mX9_undo (l : Launch) (E : jE) (hI : jInj (gX E)) (fu : Nat)   (M : Mem) : jMet l (gX E) yX9_undo cX9_undo 1 (some .int) rX9_undo [.ref (gad (gX E) 0)] M (pX9_undo fu   M) :=
  j_entry hI (by decide +kernel) (Nat.le_of_ble_eq_true rfl) rfl (fun X _ hX => wX9_undo hX fu    M)
theorem qX9_arrives : jYv yX9_arrives cX9_arrives 2 (some .int) 1 := ⟨tw_665, tw_666, tw_57, tw_667, ⟨by decide +kernel, by decide +kernel, by decide +kernel⟩⟩
abbrev rX9_arrives : Room := { frames := 7, cells := 0, slots := 0, locals := 161 }
def uX9_arrives : jM := (cX9_arrives, 2, RX9, (some .int), rX9_arrives)
def pX9_arrives (fu : Nat) (x1 : Int32) (M : Mem) : Res :=
  bI (pX1_hasBeast fu 5 x1 M) fun r2 M1 =>
  if r2 = 0 then (
    some ((-1 : Int32), M1))
  else
  bI (pX4_carries fu 27 x1 M1) fun r4 M3 =>
  if r4 = 0 then (
    some ((-2 : Int32), M3))
  else
  bI (pX3_hoursTill fu 27 x1 M3) fun r6 M5 =>
  some (r6, M5)
set_option maxRecDepth 100000 in
theorem wX9_arrives {E : jE} {X : jC} (hX : jOk X uX9_arrives (gX E)) (fu : Nat)  (x1 : Int32) (M : Mem) : J X uX9_arrives (gX E) 0 [(0, .ref (gad (gX E) 0)), (1, .int x1)] [] M (pX9_arrives fu  x1 M) := by
  unfold pX9_arrives
  refine j_aload_n (pc := 0) hX 0 dX9_arrives_0 rfl rfl ?_
  refine j_getR (pc := 1) (t := 5) hX (jb rfl) rfl (ci := 8) (C := RX9) (T := TX9) (N := 10) rfl (jb rfl) inX9 (j := 2) (jb rfl) rfl tw_422 dX9_arrives_1 ?_
  refine j_iload_n (pc := 4) hX 1 dX9_arrives_4 rfl rfl ?_
  refine j_callV (pc := 5) hX [.int x1] (mX1_hasBeast _ E hX.2.2.2.2.2.2.2.2.1 fu 5 rfl x1 M) qX1_hasBeast tw_525 (jb rfl) rfl (ci := 1) (T := TX1) (N := 13) rfl (jb rfl) rfl ⟨rfl, rfl⟩ ⟨(Nat.le_of_ble_eq_true rfl), (Nat.le_of_ble_eq_true rfl)⟩ (Nat.le_of_ble_eq_true rfl) dX9_arrives_5 (fun _ => rfl) rfl (fun r2 M1 => ?_)
  refine j_if_ne (pc := 8) hX 13 dX9_arrives_8 (by decide) ?_ ?_
  · refine j_aload_n (pc := 13) hX 0 dX9_arrives_13 rfl rfl ?_
    refine j_getR (pc := 14) (t := 27) hX (jb rfl) rfl (ci := 8) (C := RX9) (T := TX9) (N := 10) rfl (jb rfl) inX9 (j := 4) (jb rfl) rfl tw_424 dX9_arrives_14 ?_
    refine j_iload_n (pc := 17) hX 1 dX9_arrives_17 rfl rfl ?_
    refine j_callV (pc := 18) hX [.int x1] (mX4_carries _ E hX.2.2.2.2.2.2.2.2.1 fu 27 rfl x1 M1) qX4_carries tw_542 (jb rfl) rfl (ci := 4) (T := TX4) (N := 2) rfl (jb rfl) rfl ⟨rfl, rfl⟩ ⟨(Nat.le_of_ble_eq_true rfl), (Nat.le_of_ble_eq_true rfl)⟩ (Nat.le_of_ble_eq_true rfl) dX9_arrives_18 (fun _ => rfl) rfl (fun r4 M3 => ?_)
    refine j_if_eq (pc := 21) hX 39 dX9_arrives_21 (by decide) ?_ ?_
    · refine j_bipush (pc := 39) (v := (-2 : Int32)) hX dX9_arrives_39 cb_m2 ?_
      exact j_iret (pc := 41) hX rfl dX9_arrives_41
    · refine j_aload_n (pc := 24) hX 0 dX9_arrives_24 rfl rfl ?_
      refine j_getR (pc := 25) (t := 53) hX (jb rfl) rfl (ci := 8) (C := RX9) (T := TX9) (N := 10) rfl (jb rfl) inX9 (j := 7) (jb rfl) rfl tw_427 dX9_arrives_25 ?_
      refine j_aload_n (pc := 28) hX 0 dX9_arrives_28 rfl rfl ?_
      refine j_getR (pc := 29) (t := 27) hX (jb rfl) rfl (ci := 8) (C := RX9) (T := TX9) (N := 10) rfl (jb rfl) inX9 (j := 4) (jb rfl) rfl tw_424 dX9_arrives_29 ?_
      refine j_iload_n (pc := 32) hX 1 dX9_arrives_32 rfl rfl ?_
      refine j_callV (pc := 33) hX [.ref (gad (gX E) 27), .int x1] (mX3_hoursTill _ E hX.2.2.2.2.2.2.2.2.1 fu 27 rfl x1 M3) qX3_hoursTill tw_668 (jb rfl) rfl (ci := 3) (T := TX3) (N := 2) rfl (jb rfl) rfl ⟨rfl, rfl⟩ ⟨(Nat.le_of_ble_eq_true rfl), (Nat.le_of_ble_eq_true rfl)⟩ (Nat.le_of_ble_eq_true rfl) dX9_arrives_33 (fun _ => rfl) rfl (fun r6 M5 => ?_)
      refine j_goto (pc := 36) hX 41 dX9_arrives_36 (by decide) ?_
      exact j_iret (pc := 41) hX rfl dX9_arrives_41
  · refine j_iconst (pc := 11) (v := (-1 : Int32)) hX dX9_arrives_11 ci_m1 ?_
    exact j_iret (pc := 12) hX rfl dX9_arrives_12
theorem mX9_arrives (l : Launch) (E : jE) (hI : jInj (gX E)) (fu : Nat)  (x1 : Int32) (M : Mem) : jMet l (gX E) yX9_arrives cX9_arrives 2 (some .int) rX9_arrives [.ref (gad (gX E) 0), .int x1] M (pX9_arrives fu  x1 M) :=
  j_entry hI (by decide +kernel) (Nat.le_of_ble_eq_true rfl) rfl (fun X _ hX => wX9_arrives hX fu   x1 M)
