theorem dX1_beasts_0 : decode cX1_beasts 0 = .ok (.aload_n 0, 1) := by decide +kernel
theorem dX1_beasts_1 : decode cX1_beasts 1 = .ok (.getfield 49, 3) := by decide +kernel
theorem dX1_beasts_4 : decode cX1_beasts 4 = .ok (.ireturn, 1) := by decide +kernel
theorem dX1_pair_0 : decode cX1_pair 0 = .ok (.iload_n 0, 1) := by decide +kernel
theorem dX1_pair_1 : decode cX1_pair 1 = .ok (.bipush 8, 2) := by decide +kernel
theorem dX1_pair_3 : decode cX1_pair 3 = .ok (.imul, 1) := by decide +kernel
theorem dX1_pair_4 : decode cX1_pair 4 = .ok (.iload_n 1, 1) := by decide +kernel
theorem dX1_pair_5 : decode cX1_pair 5 = .ok (.iadd, 1) := by decide +kernel
theorem dX1_pair_6 : decode cX1_pair 6 = .ok (.ireturn, 1) := by decide +kernel
theorem dX1_hop_0 : decode cX1_hop 0 = .ok (.aload_n 0, 1) := by decide +kernel
theorem dX1_hop_1 : decode cX1_hop 1 = .ok (.getfield 18, 3) := by decide +kernel
theorem dX1_hop_4 : decode cX1_hop 4 = .ok (.iload_n 1, 1) := by decide +kernel
theorem dX1_hop_5 : decode cX1_hop 5 = .ok (.iload_n 2, 1) := by decide +kernel
theorem dX1_hop_6 : decode cX1_hop 6 = .ok (.invokestatic 62, 3) := by decide +kernel
theorem dX1_hop_9 : decode cX1_hop 9 = .ok (.invokestatic 84, 3) := by decide +kernel
theorem dX1_hop_12 : decode cX1_hop 12 = .ok (.ireturn, 1) := by decide +kernel
theorem dX1_lengthOf_0 : decode cX1_lengthOf 0 = .ok (.aload_n 0, 1) := by decide +kernel
theorem dX1_lengthOf_1 : decode cX1_lengthOf 1 = .ok (.getfield 9, 3) := by decide +kernel
theorem dX1_lengthOf_4 : decode cX1_lengthOf 4 = .ok (.iload_n 1, 1) := by decide +kernel
theorem dX1_lengthOf_5 : decode cX1_lengthOf 5 = .ok (.iload_n 2, 1) := by decide +kernel
theorem dX1_lengthOf_6 : decode cX1_lengthOf 6 = .ok (.invokestatic 62, 3) := by decide +kernel
theorem dX1_lengthOf_9 : decode cX1_lengthOf 9 = .ok (.invokestatic 84, 3) := by decide +kernel
theorem dX1_lengthOf_12 : decode cX1_lengthOf 12 = .ok (.ireturn, 1) := by decide +kernel
theorem dX1_pace_0 : decode cX1_pace 0 = .ok (.aload_n 0, 1) := by decide +kernel
theorem dX1_pace_1 : decode cX1_pace 1 = .ok (.getfield 30, 3) := by decide +kernel
theorem dX1_pace_4 : decode cX1_pace 4 = .ok (.iload_n 1, 1) := by decide +kernel
theorem dX1_pace_5 : decode cX1_pace 5 = .ok (.invokestatic 84, 3) := by decide +kernel
theorem dX1_pace_8 : decode cX1_pace 8 = .ok (.ireturn, 1) := by decide +kernel
theorem dX1_kind_0 : decode cX1_kind 0 = .ok (.aload_n 0, 1) := by decide +kernel
theorem dX1_kind_1 : decode cX1_kind 1 = .ok (.getfield 27, 3) := by decide +kernel
theorem dX1_kind_4 : decode cX1_kind 4 = .ok (.iload_n 1, 1) := by decide +kernel
theorem dX1_kind_5 : decode cX1_kind 5 = .ok (.invokestatic 84, 3) := by decide +kernel
theorem dX1_kind_8 : decode cX1_kind 8 = .ok (.ireturn, 1) := by decide +kernel
theorem dX1_hasMare_0 : decode cX1_hasMare 0 = .ok (.aload_n 0, 1) := by decide +kernel
theorem dX1_hasMare_1 : decode cX1_hasMare 1 = .ok (.getfield 39, 3) := by decide +kernel
theorem dX1_hasMare_4 : decode cX1_hasMare 4 = .ok (.iload_n 1, 1) := by decide +kernel
theorem dX1_hasMare_5 : decode cX1_hasMare 5 = .ok (.invokestatic 84, 3) := by decide +kernel
theorem dX1_hasMare_8 : decode cX1_hasMare 8 = .ok (.iconst 1, 1) := by decide +kernel
theorem dX1_hasMare_9 : decode cX1_hasMare 9 = .ok (.if_icmp .ne 7, 3) := by decide +kernel
theorem dX1_hasMare_12 : decode cX1_hasMare 12 = .ok (.iconst 1, 1) := by decide +kernel
theorem dX1_hasMare_13 : decode cX1_hasMare 13 = .ok (.goto 4, 3) := by decide +kernel
theorem dX1_hasMare_16 : decode cX1_hasMare 16 = .ok (.iconst 0, 1) := by decide +kernel
theorem dX1_hasMare_17 : decode cX1_hasMare 17 = .ok (.ireturn, 1) := by decide +kernel
theorem dX1_clear_0 : decode cX1_clear 0 = .ok (.aload_n 0, 1) := by decide +kernel
theorem dX1_clear_1 : decode cX1_clear 1 = .ok (.getfield 9, 3) := by decide +kernel
theorem dX1_clear_4 : decode cX1_clear 4 = .ok (.invokestatic 52, 3) := by decide +kernel
theorem dX1_clear_7 : decode cX1_clear 7 = .ok (.aload_n 0, 1) := by decide +kernel
theorem dX1_clear_8 : decode cX1_clear 8 = .ok (.getfield 36, 3) := by decide +kernel
theorem dX1_clear_11 : decode cX1_clear 11 = .ok (.invokestatic 52, 3) := by decide +kernel
theorem dX1_clear_14 : decode cX1_clear 14 = .ok (.aload_n 0, 1) := by decide +kernel
theorem dX1_clear_15 : decode cX1_clear 15 = .ok (.getfield 39, 3) := by decide +kernel
theorem dX1_clear_18 : decode cX1_clear 18 = .ok (.invokestatic 52, 3) := by decide +kernel
theorem dX1_clear_21 : decode cX1_clear 21 = .ok (.aload_n 0, 1) := by decide +kernel
theorem dX1_clear_22 : decode cX1_clear 22 = .ok (.iconst 5, 1) := by decide +kernel
theorem dX1_clear_23 : decode cX1_clear 23 = .ok (.putfield 42, 3) := by decide +kernel
theorem dX1_clear_26 : decode cX1_clear 26 = .ok (.aload_n 0, 1) := by decide +kernel
theorem dX1_clear_27 : decode cX1_clear 27 = .ok (.iconst 0, 1) := by decide +kernel
theorem dX1_clear_28 : decode cX1_clear 28 = .ok (.putfield 46, 3) := by decide +kernel
theorem dX1_clear_31 : decode cX1_clear 31 = .ok (.aload_n 0, 1) := by decide +kernel
theorem dX1_clear_32 : decode cX1_clear 32 = .ok (.iconst 0, 1) := by decide +kernel
theorem dX1_clear_33 : decode cX1_clear 33 = .ok (.putfield 49, 3) := by decide +kernel
theorem dX1_clear_36 : decode cX1_clear 36 = .ok (.return_, 1) := by decide +kernel
theorem dX1_takePlaces_0 : decode cX1_takePlaces 0 = .ok (.iload_n 1, 1) := by decide +kernel
theorem dX1_takePlaces_1 : decode cX1_takePlaces 1 = .ok (.iconst 1, 1) := by decide +kernel
theorem dX1_takePlaces_2 : decode cX1_takePlaces 2 = .ok (.if_icmp .lt 9, 3) := by decide +kernel
theorem dX1_takePlaces_5 : decode cX1_takePlaces 5 = .ok (.iload_n 1, 1) := by decide +kernel
theorem dX1_takePlaces_6 : decode cX1_takePlaces 6 = .ok (.bipush 8, 2) := by decide +kernel
theorem dX1_takePlaces_8 : decode cX1_takePlaces 8 = .ok (.if_icmp .le 5, 3) := by decide +kernel
theorem dX1_takePlaces_11 : decode cX1_takePlaces 11 = .ok (.iconst 0, 1) := by decide +kernel
theorem dX1_takePlaces_12 : decode cX1_takePlaces 12 = .ok (.ireturn, 1) := by decide +kernel
theorem dX1_takePlaces_13 : decode cX1_takePlaces 13 = .ok (.aload_n 0, 1) := by decide +kernel
theorem dX1_takePlaces_14 : decode cX1_takePlaces 14 = .ok (.iload_n 1, 1) := by decide +kernel
theorem dX1_takePlaces_15 : decode cX1_takePlaces 15 = .ok (.putfield 42, 3) := by decide +kernel
theorem dX1_takePlaces_18 : decode cX1_takePlaces 18 = .ok (.iconst 1, 1) := by decide +kernel
theorem dX1_takePlaces_19 : decode cX1_takePlaces 19 = .ok (.ireturn, 1) := by decide +kernel
theorem dX1_hasPlace_0 : decode cX1_hasPlace 0 = .ok (.iload_n 1, 1) := by decide +kernel
theorem dX1_hasPlace_1 : decode cX1_hasPlace 1 = .ok (.ifCond .lt 15, 3) := by decide +kernel
theorem dX1_hasPlace_4 : decode cX1_hasPlace 4 = .ok (.iload_n 1, 1) := by decide +kernel
theorem dX1_hasPlace_5 : decode cX1_hasPlace 5 = .ok (.aload_n 0, 1) := by decide +kernel
theorem dX1_hasPlace_6 : decode cX1_hasPlace 6 = .ok (.getfield 42, 3) := by decide +kernel
theorem dX1_hasPlace_9 : decode cX1_hasPlace 9 = .ok (.if_icmp .ge 7, 3) := by decide +kernel
theorem dX1_hasPlace_12 : decode cX1_hasPlace 12 = .ok (.iconst 1, 1) := by decide +kernel
theorem dX1_hasPlace_13 : decode cX1_hasPlace 13 = .ok (.goto 4, 3) := by decide +kernel
theorem dX1_hasPlace_16 : decode cX1_hasPlace 16 = .ok (.iconst 0, 1) := by decide +kernel
theorem dX1_hasPlace_17 : decode cX1_hasPlace 17 = .ok (.ireturn, 1) := by decide +kernel
theorem dX1_takeWay_0 : decode cX1_takeWay 0 = .ok (.aload_n 0, 1) := by decide +kernel
theorem dX1_takeWay_1 : decode cX1_takeWay 1 = .ok (.iload_n 1, 1) := by decide +kernel
theorem dX1_takeWay_2 : decode cX1_takeWay 2 = .ok (.invokevirtual 58, 3) := by decide +kernel
theorem dX1_takeWay_5 : decode cX1_takeWay 5 = .ok (.ifCond .eq 27, 3) := by decide +kernel
theorem dX1_takeWay_8 : decode cX1_takeWay 8 = .ok (.aload_n 0, 1) := by decide +kernel
theorem dX1_takeWay_9 : decode cX1_takeWay 9 = .ok (.iload_n 2, 1) := by decide +kernel
theorem dX1_takeWay_10 : decode cX1_takeWay 10 = .ok (.invokevirtual 58, 3) := by decide +kernel
theorem dX1_takeWay_13 : decode cX1_takeWay 13 = .ok (.ifCond .eq 19, 3) := by decide +kernel
theorem dX1_takeWay_16 : decode cX1_takeWay 16 = .ok (.iload_n 1, 1) := by decide +kernel
theorem dX1_takeWay_17 : decode cX1_takeWay 17 = .ok (.iload_n 2, 1) := by decide +kernel
theorem dX1_takeWay_18 : decode cX1_takeWay 18 = .ok (.if_icmp .eq 14, 3) := by decide +kernel
theorem dX1_takeWay_21 : decode cX1_takeWay 21 = .ok (.iload_n 3, 1) := by decide +kernel
theorem dX1_takeWay_22 : decode cX1_takeWay 22 = .ok (.iconst 1, 1) := by decide +kernel
theorem dX1_takeWay_23 : decode cX1_takeWay 23 = .ok (.if_icmp .lt 9, 3) := by decide +kernel
theorem dX1_takeWay_26 : decode cX1_takeWay 26 = .ok (.iload_n 3, 1) := by decide +kernel
theorem dX1_takeWay_27 : decode cX1_takeWay 27 = .ok (.bipush 9, 2) := by decide +kernel
theorem dX1_takeWay_29 : decode cX1_takeWay 29 = .ok (.if_icmp .le 5, 3) := by decide +kernel
theorem dX1_takeWay_32 : decode cX1_takeWay 32 = .ok (.iconst 0, 1) := by decide +kernel
theorem dX1_takeWay_33 : decode cX1_takeWay 33 = .ok (.ireturn, 1) := by decide +kernel
theorem dX1_takeWay_34 : decode cX1_takeWay 34 = .ok (.aload_n 0, 1) := by decide +kernel
theorem dX1_takeWay_35 : decode cX1_takeWay 35 = .ok (.getfield 9, 3) := by decide +kernel
theorem dX1_takeWay_38 : decode cX1_takeWay 38 = .ok (.iload_n 1, 1) := by decide +kernel
theorem dX1_takeWay_39 : decode cX1_takeWay 39 = .ok (.iload_n 2, 1) := by decide +kernel
theorem dX1_takeWay_40 : decode cX1_takeWay 40 = .ok (.invokestatic 62, 3) := by decide +kernel
theorem dX1_takeWay_43 : decode cX1_takeWay 43 = .ok (.iload_n 3, 1) := by decide +kernel
theorem dX1_takeWay_44 : decode cX1_takeWay 44 = .ok (.invokestatic 66, 3) := by decide +kernel
theorem dX1_takeWay_47 : decode cX1_takeWay 47 = .ok (.aload_n 0, 1) := by decide +kernel
theorem dX1_takeWay_48 : decode cX1_takeWay 48 = .ok (.getfield 9, 3) := by decide +kernel
theorem dX1_takeWay_51 : decode cX1_takeWay 51 = .ok (.iload_n 2, 1) := by decide +kernel
theorem dX1_takeWay_52 : decode cX1_takeWay 52 = .ok (.iload_n 1, 1) := by decide +kernel
theorem dX1_takeWay_53 : decode cX1_takeWay 53 = .ok (.invokestatic 62, 3) := by decide +kernel
theorem dX1_takeWay_56 : decode cX1_takeWay 56 = .ok (.iload_n 3, 1) := by decide +kernel
theorem dX1_takeWay_57 : decode cX1_takeWay 57 = .ok (.invokestatic 66, 3) := by decide +kernel
theorem dX1_takeWay_60 : decode cX1_takeWay 60 = .ok (.iconst 1, 1) := by decide +kernel
theorem dX1_takeWay_61 : decode cX1_takeWay 61 = .ok (.ireturn, 1) := by decide +kernel
theorem dX1_takeDoor_0 : decode cX1_takeDoor 0 = .ok (.aload_n 0, 1) := by decide +kernel
theorem dX1_takeDoor_1 : decode cX1_takeDoor 1 = .ok (.getfield 46, 3) := by decide +kernel
theorem dX1_takeDoor_4 : decode cX1_takeDoor 4 = .ok (.iconst 4, 1) := by decide +kernel
theorem dX1_takeDoor_5 : decode cX1_takeDoor 5 = .ok (.if_icmp .ge 20, 3) := by decide +kernel
theorem dX1_takeDoor_8 : decode cX1_takeDoor 8 = .ok (.iload_n 1, 1) := by decide +kernel
theorem dX1_takeDoor_9 : decode cX1_takeDoor 9 = .ok (.ifCond .lt 16, 3) := by decide +kernel
theorem dX1_takeDoor_12 : decode cX1_takeDoor 12 = .ok (.iload_n 1, 1) := by decide +kernel
theorem dX1_takeDoor_13 : decode cX1_takeDoor 13 = .ok (.iconst 3, 1) := by decide +kernel
theorem dX1_takeDoor_14 : decode cX1_takeDoor 14 = .ok (.if_icmp .gt 11, 3) := by decide +kernel
theorem dX1_takeDoor_17 : decode cX1_takeDoor 17 = .ok (.aload_n 0, 1) := by decide +kernel
theorem dX1_takeDoor_18 : decode cX1_takeDoor 18 = .ok (.iload_n 2, 1) := by decide +kernel
theorem dX1_takeDoor_19 : decode cX1_takeDoor 19 = .ok (.invokevirtual 58, 3) := by decide +kernel
theorem dX1_takeDoor_22 : decode cX1_takeDoor 22 = .ok (.ifCond .ne 5, 3) := by decide +kernel
theorem dX1_takeDoor_25 : decode cX1_takeDoor 25 = .ok (.iconst 0, 1) := by decide +kernel
theorem dX1_takeDoor_26 : decode cX1_takeDoor 26 = .ok (.ireturn, 1) := by decide +kernel
theorem dX1_takeDoor_27 : decode cX1_takeDoor 27 = .ok (.aload_n 0, 1) := by decide +kernel
theorem dX1_takeDoor_28 : decode cX1_takeDoor 28 = .ok (.getfield 21, 3) := by decide +kernel
theorem dX1_takeDoor_31 : decode cX1_takeDoor 31 = .ok (.aload_n 0, 1) := by decide +kernel
theorem dX1_takeDoor_32 : decode cX1_takeDoor 32 = .ok (.getfield 46, 3) := by decide +kernel
theorem dX1_takeDoor_35 : decode cX1_takeDoor 35 = .ok (.iload_n 1, 1) := by decide +kernel
theorem dX1_takeDoor_36 : decode cX1_takeDoor 36 = .ok (.invokestatic 66, 3) := by decide +kernel
theorem dX1_takeDoor_39 : decode cX1_takeDoor 39 = .ok (.aload_n 0, 1) := by decide +kernel
theorem dX1_takeDoor_40 : decode cX1_takeDoor 40 = .ok (.getfield 24, 3) := by decide +kernel
theorem dX1_takeDoor_43 : decode cX1_takeDoor 43 = .ok (.aload_n 0, 1) := by decide +kernel
theorem dX1_takeDoor_44 : decode cX1_takeDoor 44 = .ok (.getfield 46, 3) := by decide +kernel
theorem dX1_takeDoor_47 : decode cX1_takeDoor 47 = .ok (.iload_n 2, 1) := by decide +kernel
theorem dX1_takeDoor_48 : decode cX1_takeDoor 48 = .ok (.invokestatic 66, 3) := by decide +kernel
theorem dX1_takeDoor_51 : decode cX1_takeDoor 51 = .ok (.aload_n 0, 1) := by decide +kernel
theorem dX1_takeDoor_52 : decode cX1_takeDoor 52 = .ok (.dup, 1) := by decide +kernel
theorem dX1_takeDoor_53 : decode cX1_takeDoor 53 = .ok (.getfield 46, 3) := by decide +kernel
theorem dX1_takeDoor_56 : decode cX1_takeDoor 56 = .ok (.iconst 1, 1) := by decide +kernel
theorem dX1_takeDoor_57 : decode cX1_takeDoor 57 = .ok (.iadd, 1) := by decide +kernel
theorem dX1_takeDoor_58 : decode cX1_takeDoor 58 = .ok (.putfield 46, 3) := by decide +kernel
theorem dX1_takeDoor_61 : decode cX1_takeDoor 61 = .ok (.iconst 1, 1) := by decide +kernel
theorem dX1_takeDoor_62 : decode cX1_takeDoor 62 = .ok (.ireturn, 1) := by decide +kernel
theorem dX1_takeBeast_0 : decode cX1_takeBeast 0 = .ok (.aload_n 0, 1) := by decide +kernel
theorem dX1_takeBeast_1 : decode cX1_takeBeast 1 = .ok (.getfield 49, 3) := by decide +kernel
theorem dX1_takeBeast_4 : decode cX1_takeBeast 4 = .ok (.iconst 5, 1) := by decide +kernel
theorem dX1_takeBeast_5 : decode cX1_takeBeast 5 = .ok (.if_icmp .ge 32, 3) := by decide +kernel
theorem dX1_takeBeast_8 : decode cX1_takeBeast 8 = .ok (.iload_n 1, 1) := by decide +kernel
theorem dX1_takeBeast_9 : decode cX1_takeBeast 9 = .ok (.ifCond .lt 28, 3) := by decide +kernel
theorem dX1_takeBeast_12 : decode cX1_takeBeast 12 = .ok (.iload_n 1, 1) := by decide +kernel
theorem dX1_takeBeast_13 : decode cX1_takeBeast 13 = .ok (.iconst 3, 1) := by decide +kernel
theorem dX1_takeBeast_14 : decode cX1_takeBeast 14 = .ok (.if_icmp .gt 23, 3) := by decide +kernel
theorem dX1_takeBeast_17 : decode cX1_takeBeast 17 = .ok (.iload_n 2, 1) := by decide +kernel
theorem dX1_takeBeast_18 : decode cX1_takeBeast 18 = .ok (.iconst 1, 1) := by decide +kernel
theorem dX1_takeBeast_19 : decode cX1_takeBeast 19 = .ok (.if_icmp .lt 18, 3) := by decide +kernel
theorem dX1_takeBeast_22 : decode cX1_takeBeast 22 = .ok (.iload_n 2, 1) := by decide +kernel
theorem dX1_takeBeast_23 : decode cX1_takeBeast 23 = .ok (.iconst 3, 1) := by decide +kernel
theorem dX1_takeBeast_24 : decode cX1_takeBeast 24 = .ok (.if_icmp .gt 13, 3) := by decide +kernel
theorem dX1_takeBeast_27 : decode cX1_takeBeast 27 = .ok (.iload_n 3, 1) := by decide +kernel
theorem dX1_takeBeast_28 : decode cX1_takeBeast 28 = .ok (.ifCond .lt 9, 3) := by decide +kernel
theorem dX1_takeBeast_31 : decode cX1_takeBeast 31 = .ok (.iload_n 3, 1) := by decide +kernel
theorem dX1_takeBeast_32 : decode cX1_takeBeast 32 = .ok (.bipush 10, 2) := by decide +kernel
theorem dX1_takeBeast_34 : decode cX1_takeBeast 34 = .ok (.if_icmp .lt 5, 3) := by decide +kernel
theorem dX1_takeBeast_37 : decode cX1_takeBeast 37 = .ok (.iconst 0, 1) := by decide +kernel
theorem dX1_takeBeast_38 : decode cX1_takeBeast 38 = .ok (.ireturn, 1) := by decide +kernel
theorem dX1_takeBeast_39 : decode cX1_takeBeast 39 = .ok (.aload_n 0, 1) := by decide +kernel
theorem dX1_takeBeast_40 : decode cX1_takeBeast 40 = .ok (.getfield 27, 3) := by decide +kernel
theorem dX1_takeBeast_43 : decode cX1_takeBeast 43 = .ok (.aload_n 0, 1) := by decide +kernel
theorem dX1_takeBeast_44 : decode cX1_takeBeast 44 = .ok (.getfield 49, 3) := by decide +kernel
theorem dX1_takeBeast_47 : decode cX1_takeBeast 47 = .ok (.iload_n 1, 1) := by decide +kernel
theorem dX1_takeBeast_48 : decode cX1_takeBeast 48 = .ok (.invokestatic 66, 3) := by decide +kernel
theorem dX1_takeBeast_51 : decode cX1_takeBeast 51 = .ok (.aload_n 0, 1) := by decide +kernel
theorem dX1_takeBeast_52 : decode cX1_takeBeast 52 = .ok (.getfield 30, 3) := by decide +kernel
theorem dX1_takeBeast_55 : decode cX1_takeBeast 55 = .ok (.aload_n 0, 1) := by decide +kernel
theorem dX1_takeBeast_56 : decode cX1_takeBeast 56 = .ok (.getfield 49, 3) := by decide +kernel
theorem dX1_takeBeast_59 : decode cX1_takeBeast 59 = .ok (.iload_n 2, 1) := by decide +kernel
theorem dX1_takeBeast_60 : decode cX1_takeBeast 60 = .ok (.invokestatic 66, 3) := by decide +kernel
theorem dX1_takeBeast_63 : decode cX1_takeBeast 63 = .ok (.aload_n 0, 1) := by decide +kernel
theorem dX1_takeBeast_64 : decode cX1_takeBeast 64 = .ok (.getfield 33, 3) := by decide +kernel
theorem dX1_takeBeast_67 : decode cX1_takeBeast 67 = .ok (.aload_n 0, 1) := by decide +kernel
theorem dX1_takeBeast_68 : decode cX1_takeBeast 68 = .ok (.getfield 49, 3) := by decide +kernel
theorem dX1_takeBeast_71 : decode cX1_takeBeast 71 = .ok (.iload_n 3, 1) := by decide +kernel
theorem dX1_takeBeast_72 : decode cX1_takeBeast 72 = .ok (.invokestatic 66, 3) := by decide +kernel
theorem dX1_takeBeast_75 : decode cX1_takeBeast 75 = .ok (.aload_n 0, 1) := by decide +kernel
theorem dX1_takeBeast_76 : decode cX1_takeBeast 76 = .ok (.dup, 1) := by decide +kernel
theorem dX1_takeBeast_77 : decode cX1_takeBeast 77 = .ok (.getfield 49, 3) := by decide +kernel
theorem dX1_takeBeast_80 : decode cX1_takeBeast 80 = .ok (.iconst 1, 1) := by decide +kernel
theorem dX1_takeBeast_81 : decode cX1_takeBeast 81 = .ok (.iadd, 1) := by decide +kernel
theorem dX1_takeBeast_82 : decode cX1_takeBeast 82 = .ok (.putfield 49, 3) := by decide +kernel
theorem dX1_takeBeast_85 : decode cX1_takeBeast 85 = .ok (.iconst 1, 1) := by decide +kernel
theorem dX1_takeBeast_86 : decode cX1_takeBeast 86 = .ok (.ireturn, 1) := by decide +kernel
theorem dX1_takeCarrots_0 : decode cX1_takeCarrots 0 = .ok (.aload_n 0, 1) := by decide +kernel
theorem dX1_takeCarrots_1 : decode cX1_takeCarrots 1 = .ok (.iload_n 1, 1) := by decide +kernel
theorem dX1_takeCarrots_2 : decode cX1_takeCarrots 2 = .ok (.invokevirtual 58, 3) := by decide +kernel
theorem dX1_takeCarrots_5 : decode cX1_takeCarrots 5 = .ok (.ifCond .eq 13, 3) := by decide +kernel
theorem dX1_takeCarrots_8 : decode cX1_takeCarrots 8 = .ok (.iload_n 2, 1) := by decide +kernel
theorem dX1_takeCarrots_9 : decode cX1_takeCarrots 9 = .ok (.ifCond .lt 9, 3) := by decide +kernel
theorem dX1_takeCarrots_12 : decode cX1_takeCarrots 12 = .ok (.iload_n 2, 1) := by decide +kernel
theorem dX1_takeCarrots_13 : decode cX1_takeCarrots 13 = .ok (.bipush 9, 2) := by decide +kernel
theorem dX1_takeCarrots_15 : decode cX1_takeCarrots 15 = .ok (.if_icmp .le 5, 3) := by decide +kernel
theorem dX1_takeCarrots_18 : decode cX1_takeCarrots 18 = .ok (.iconst 0, 1) := by decide +kernel
theorem dX1_takeCarrots_19 : decode cX1_takeCarrots 19 = .ok (.ireturn, 1) := by decide +kernel
theorem dX1_takeCarrots_20 : decode cX1_takeCarrots 20 = .ok (.aload_n 0, 1) := by decide +kernel
theorem dX1_takeCarrots_21 : decode cX1_takeCarrots 21 = .ok (.getfield 36, 3) := by decide +kernel
theorem dX1_takeCarrots_24 : decode cX1_takeCarrots 24 = .ok (.iload_n 1, 1) := by decide +kernel
theorem dX1_takeCarrots_25 : decode cX1_takeCarrots 25 = .ok (.iload_n 2, 1) := by decide +kernel
theorem dX1_takeCarrots_26 : decode cX1_takeCarrots 26 = .ok (.invokestatic 66, 3) := by decide +kernel
theorem dX1_takeCarrots_29 : decode cX1_takeCarrots 29 = .ok (.iconst 1, 1) := by decide +kernel
theorem dX1_takeCarrots_30 : decode cX1_takeCarrots 30 = .ok (.ireturn, 1) := by decide +kernel
theorem dX1_takeMare_0 : decode cX1_takeMare 0 = .ok (.aload_n 0, 1) := by decide +kernel
theorem dX1_takeMare_1 : decode cX1_takeMare 1 = .ok (.iload_n 1, 1) := by decide +kernel
theorem dX1_takeMare_2 : decode cX1_takeMare 2 = .ok (.invokevirtual 58, 3) := by decide +kernel
theorem dX1_takeMare_5 : decode cX1_takeMare 5 = .ok (.ifCond .ne 5, 3) := by decide +kernel
theorem dX1_takeMare_8 : decode cX1_takeMare 8 = .ok (.iconst 0, 1) := by decide +kernel
theorem dX1_takeMare_9 : decode cX1_takeMare 9 = .ok (.ireturn, 1) := by decide +kernel
theorem dX1_takeMare_10 : decode cX1_takeMare 10 = .ok (.aload_n 0, 1) := by decide +kernel
theorem dX1_takeMare_11 : decode cX1_takeMare 11 = .ok (.getfield 39, 3) := by decide +kernel
theorem dX1_takeMare_14 : decode cX1_takeMare 14 = .ok (.iload_n 1, 1) := by decide +kernel
theorem dX1_takeMare_15 : decode cX1_takeMare 15 = .ok (.iconst 1, 1) := by decide +kernel
theorem dX1_takeMare_16 : decode cX1_takeMare 16 = .ok (.invokestatic 66, 3) := by decide +kernel
theorem dX1_takeMare_19 : decode cX1_takeMare 19 = .ok (.iconst 1, 1) := by decide +kernel
theorem dX1_takeMare_20 : decode cX1_takeMare 20 = .ok (.ireturn, 1) := by decide +kernel
theorem dX1_distance_0 : decode cX1_distance 0 = .ok (.aload_n 0, 1) := by decide +kernel
theorem dX1_distance_1 : decode cX1_distance 1 = .ok (.getfield 15, 3) := by decide +kernel
theorem dX1_distance_4 : decode cX1_distance 4 = .ok (.iload_n 1, 1) := by decide +kernel
theorem dX1_distance_5 : decode cX1_distance 5 = .ok (.iload_n 2, 1) := by decide +kernel
theorem dX1_distance_6 : decode cX1_distance 6 = .ok (.invokestatic 62, 3) := by decide +kernel
theorem dX1_distance_9 : decode cX1_distance 9 = .ok (.invokestatic 84, 3) := by decide +kernel
theorem dX1_distance_12 : decode cX1_distance 12 = .ok (.ireturn, 1) := by decide +kernel
theorem dX1_lowestHop_0 : decode cX1_lowestHop 0 = .ok (.iconst 0, 1) := by decide +kernel
theorem dX1_lowestHop_1 : decode cX1_lowestHop 1 = .ok (.istore_n 3, 1) := by decide +kernel
theorem dX1_lowestHop_2 : decode cX1_lowestHop 2 = .ok (.iload_n 3, 1) := by decide +kernel
theorem dX1_lowestHop_3 : decode cX1_lowestHop 3 = .ok (.aload_n 0, 1) := by decide +kernel
theorem dX1_lowestHop_4 : decode cX1_lowestHop 4 = .ok (.getfield 42, 3) := by decide +kernel
theorem dX1_lowestHop_7 : decode cX1_lowestHop 7 = .ok (.if_icmp .ge 42, 3) := by decide +kernel
theorem dX1_lowestHop_10 : decode cX1_lowestHop 10 = .ok (.aload_n 0, 1) := by decide +kernel
theorem dX1_lowestHop_11 : decode cX1_lowestHop 11 = .ok (.iload_n 1, 1) := by decide +kernel
theorem dX1_lowestHop_12 : decode cX1_lowestHop 12 = .ok (.iload_n 3, 1) := by decide +kernel
theorem dX1_lowestHop_13 : decode cX1_lowestHop 13 = .ok (.invokevirtual 70, 3) := by decide +kernel
theorem dX1_lowestHop_16 : decode cX1_lowestHop 16 = .ok (.istore 4, 2) := by decide +kernel
theorem dX1_lowestHop_18 : decode cX1_lowestHop 18 = .ok (.iload 4, 2) := by decide +kernel
theorem dX1_lowestHop_20 : decode cX1_lowestHop 20 = .ok (.ifCond .le 23, 3) := by decide +kernel
theorem dX1_lowestHop_23 : decode cX1_lowestHop 23 = .ok (.iload 4, 2) := by decide +kernel
theorem dX1_lowestHop_25 : decode cX1_lowestHop 25 = .ok (.aload_n 0, 1) := by decide +kernel
theorem dX1_lowestHop_26 : decode cX1_lowestHop 26 = .ok (.iload_n 3, 1) := by decide +kernel
theorem dX1_lowestHop_27 : decode cX1_lowestHop 27 = .ok (.iload_n 2, 1) := by decide +kernel
theorem dX1_lowestHop_28 : decode cX1_lowestHop 28 = .ok (.invokevirtual 73, 3) := by decide +kernel
theorem dX1_lowestHop_31 : decode cX1_lowestHop 31 = .ok (.iadd, 1) := by decide +kernel
theorem dX1_lowestHop_32 : decode cX1_lowestHop 32 = .ok (.aload_n 0, 1) := by decide +kernel
theorem dX1_lowestHop_33 : decode cX1_lowestHop 33 = .ok (.iload_n 1, 1) := by decide +kernel
theorem dX1_lowestHop_34 : decode cX1_lowestHop 34 = .ok (.iload_n 2, 1) := by decide +kernel
theorem dX1_lowestHop_35 : decode cX1_lowestHop 35 = .ok (.invokevirtual 73, 3) := by decide +kernel
theorem dX1_lowestHop_38 : decode cX1_lowestHop 38 = .ok (.if_icmp .ne 5, 3) := by decide +kernel
theorem dX1_lowestHop_41 : decode cX1_lowestHop 41 = .ok (.iload_n 3, 1) := by decide +kernel
theorem dX1_lowestHop_42 : decode cX1_lowestHop 42 = .ok (.ireturn, 1) := by decide +kernel
theorem dX1_lowestHop_43 : decode cX1_lowestHop 43 = .ok (.iinc 3 1, 3) := by decide +kernel
theorem dX1_lowestHop_46 : decode cX1_lowestHop 46 = .ok (.goto (-44), 3) := by decide +kernel
theorem dX1_lowestHop_49 : decode cX1_lowestHop 49 = .ok (.bipush (-4), 2) := by decide +kernel
theorem dX1_lowestHop_51 : decode cX1_lowestHop 51 = .ok (.ireturn, 1) := by decide +kernel
theorem dX1_measure_0 : decode cX1_measure 0 = .ok (.iconst 0, 1) := by decide +kernel
theorem dX1_measure_1 : decode cX1_measure 1 = .ok (.istore_n 1, 1) := by decide +kernel
theorem dX1_measure_2 : decode cX1_measure 2 = .ok (.iload_n 1, 1) := by decide +kernel
theorem dX1_measure_3 : decode cX1_measure 3 = .ok (.aload_n 0, 1) := by decide +kernel
theorem dX1_measure_4 : decode cX1_measure 4 = .ok (.getfield 42, 3) := by decide +kernel
theorem dX1_measure_7 : decode cX1_measure 7 = .ok (.if_icmp .ge 64, 3) := by decide +kernel
theorem dX1_measure_10 : decode cX1_measure 10 = .ok (.iconst 0, 1) := by decide +kernel
theorem dX1_measure_11 : decode cX1_measure 11 = .ok (.istore_n 2, 1) := by decide +kernel
theorem dX1_measure_12 : decode cX1_measure 12 = .ok (.iload_n 2, 1) := by decide +kernel
theorem dX1_measure_13 : decode cX1_measure 13 = .ok (.aload_n 0, 1) := by decide +kernel
theorem dX1_measure_14 : decode cX1_measure 14 = .ok (.getfield 42, 3) := by decide +kernel
theorem dX1_measure_17 : decode cX1_measure 17 = .ok (.if_icmp .ge 48, 3) := by decide +kernel
theorem dX1_measure_20 : decode cX1_measure 20 = .ok (.aload_n 0, 1) := by decide +kernel
theorem dX1_measure_21 : decode cX1_measure 21 = .ok (.iload_n 1, 1) := by decide +kernel
theorem dX1_measure_22 : decode cX1_measure 22 = .ok (.iload_n 2, 1) := by decide +kernel
theorem dX1_measure_23 : decode cX1_measure 23 = .ok (.invokevirtual 70, 3) := by decide +kernel
theorem dX1_measure_26 : decode cX1_measure 26 = .ok (.istore_n 3, 1) := by decide +kernel
theorem dX1_measure_27 : decode cX1_measure 27 = .ok (.aload_n 0, 1) := by decide +kernel
theorem dX1_measure_28 : decode cX1_measure 28 = .ok (.getfield 15, 3) := by decide +kernel
theorem dX1_measure_31 : decode cX1_measure 31 = .ok (.iload_n 1, 1) := by decide +kernel
theorem dX1_measure_32 : decode cX1_measure 32 = .ok (.iload_n 2, 1) := by decide +kernel
theorem dX1_measure_33 : decode cX1_measure 33 = .ok (.invokestatic 62, 3) := by decide +kernel
theorem dX1_measure_36 : decode cX1_measure 36 = .ok (.iload_n 1, 1) := by decide +kernel
theorem dX1_measure_37 : decode cX1_measure 37 = .ok (.iload_n 2, 1) := by decide +kernel
theorem dX1_measure_38 : decode cX1_measure 38 = .ok (.if_icmp .ne 7, 3) := by decide +kernel
theorem dX1_measure_41 : decode cX1_measure 41 = .ok (.iconst 0, 1) := by decide +kernel
theorem dX1_measure_42 : decode cX1_measure 42 = .ok (.goto 14, 3) := by decide +kernel
theorem dX1_measure_45 : decode cX1_measure 45 = .ok (.iload_n 3, 1) := by decide +kernel
theorem dX1_measure_46 : decode cX1_measure 46 = .ok (.ifCond .ne 9, 3) := by decide +kernel
theorem dX1_measure_49 : decode cX1_measure 49 = .ok (.sipush 1000, 3) := by decide +kernel
theorem dX1_measure_52 : decode cX1_measure 52 = .ok (.goto 4, 3) := by decide +kernel
theorem dX1_measure_55 : decode cX1_measure 55 = .ok (.iload_n 3, 1) := by decide +kernel
theorem dX1_measure_56 : decode cX1_measure 56 = .ok (.invokestatic 66, 3) := by decide +kernel
theorem dX1_measure_59 : decode cX1_measure 59 = .ok (.iinc 2 1, 3) := by decide +kernel
theorem dX1_measure_62 : decode cX1_measure 62 = .ok (.goto (-50), 3) := by decide +kernel
theorem dX1_measure_65 : decode cX1_measure 65 = .ok (.iinc 1 1, 3) := by decide +kernel
theorem dX1_measure_68 : decode cX1_measure 68 = .ok (.goto (-66), 3) := by decide +kernel
theorem dX1_measure_71 : decode cX1_measure 71 = .ok (.iconst 0, 1) := by decide +kernel
theorem dX1_measure_72 : decode cX1_measure 72 = .ok (.istore_n 1, 1) := by decide +kernel
theorem dX1_measure_73 : decode cX1_measure 73 = .ok (.iload_n 1, 1) := by decide +kernel
theorem dX1_measure_74 : decode cX1_measure 74 = .ok (.aload_n 0, 1) := by decide +kernel
theorem dX1_measure_75 : decode cX1_measure 75 = .ok (.getfield 42, 3) := by decide +kernel
theorem dX1_measure_78 : decode cX1_measure 78 = .ok (.if_icmp .ge 79, 3) := by decide +kernel
theorem dX1_measure_81 : decode cX1_measure 81 = .ok (.iconst 0, 1) := by decide +kernel
theorem dX1_measure_82 : decode cX1_measure 82 = .ok (.istore_n 2, 1) := by decide +kernel
theorem dX1_measure_83 : decode cX1_measure 83 = .ok (.iload_n 2, 1) := by decide +kernel
theorem dX1_measure_84 : decode cX1_measure 84 = .ok (.aload_n 0, 1) := by decide +kernel
theorem dX1_measure_85 : decode cX1_measure 85 = .ok (.getfield 42, 3) := by decide +kernel
theorem dX1_measure_88 : decode cX1_measure 88 = .ok (.if_icmp .ge 63, 3) := by decide +kernel
theorem dX1_measure_91 : decode cX1_measure 91 = .ok (.iconst 0, 1) := by decide +kernel
theorem dX1_measure_92 : decode cX1_measure 92 = .ok (.istore_n 3, 1) := by decide +kernel
theorem dX1_measure_93 : decode cX1_measure 93 = .ok (.iload_n 3, 1) := by decide +kernel
theorem dX1_measure_94 : decode cX1_measure 94 = .ok (.aload_n 0, 1) := by decide +kernel
theorem dX1_measure_95 : decode cX1_measure 95 = .ok (.getfield 42, 3) := by decide +kernel
theorem dX1_measure_98 : decode cX1_measure 98 = .ok (.if_icmp .ge 47, 3) := by decide +kernel
theorem dX1_measure_101 : decode cX1_measure 101 = .ok (.aload_n 0, 1) := by decide +kernel
theorem dX1_measure_102 : decode cX1_measure 102 = .ok (.iload_n 2, 1) := by decide +kernel
theorem dX1_measure_103 : decode cX1_measure 103 = .ok (.iload_n 1, 1) := by decide +kernel
theorem dX1_measure_104 : decode cX1_measure 104 = .ok (.invokevirtual 73, 3) := by decide +kernel
theorem dX1_measure_107 : decode cX1_measure 107 = .ok (.aload_n 0, 1) := by decide +kernel
theorem dX1_measure_108 : decode cX1_measure 108 = .ok (.iload_n 1, 1) := by decide +kernel
theorem dX1_measure_109 : decode cX1_measure 109 = .ok (.iload_n 3, 1) := by decide +kernel
theorem dX1_measure_110 : decode cX1_measure 110 = .ok (.invokevirtual 73, 3) := by decide +kernel
theorem dX1_measure_113 : decode cX1_measure 113 = .ok (.iadd, 1) := by decide +kernel
theorem dX1_measure_114 : decode cX1_measure 114 = .ok (.istore 4, 2) := by decide +kernel
theorem dX1_measure_116 : decode cX1_measure 116 = .ok (.aload_n 0, 1) := by decide +kernel
theorem dX1_measure_117 : decode cX1_measure 117 = .ok (.getfield 15, 3) := by decide +kernel
theorem dX1_measure_120 : decode cX1_measure 120 = .ok (.iload_n 2, 1) := by decide +kernel
theorem dX1_measure_121 : decode cX1_measure 121 = .ok (.iload_n 3, 1) := by decide +kernel
theorem dX1_measure_122 : decode cX1_measure 122 = .ok (.invokestatic 62, 3) := by decide +kernel
theorem dX1_measure_125 : decode cX1_measure 125 = .ok (.iload 4, 2) := by decide +kernel
theorem dX1_measure_127 : decode cX1_measure 127 = .ok (.aload_n 0, 1) := by decide +kernel
theorem dX1_measure_128 : decode cX1_measure 128 = .ok (.iload_n 2, 1) := by decide +kernel
theorem dX1_measure_129 : decode cX1_measure 129 = .ok (.iload_n 3, 1) := by decide +kernel
theorem dX1_measure_130 : decode cX1_measure 130 = .ok (.invokevirtual 73, 3) := by decide +kernel
theorem dX1_measure_133 : decode cX1_measure 133 = .ok (.invokestatic 76, 3) := by decide +kernel
theorem dX1_measure_136 : decode cX1_measure 136 = .ok (.invokestatic 66, 3) := by decide +kernel
theorem dX1_measure_139 : decode cX1_measure 139 = .ok (.iinc 3 1, 3) := by decide +kernel
theorem dX1_measure_142 : decode cX1_measure 142 = .ok (.goto (-49), 3) := by decide +kernel
theorem dX1_measure_145 : decode cX1_measure 145 = .ok (.iinc 2 1, 3) := by decide +kernel
theorem dX1_measure_148 : decode cX1_measure 148 = .ok (.goto (-65), 3) := by decide +kernel
theorem dX1_measure_151 : decode cX1_measure 151 = .ok (.iinc 1 1, 3) := by decide +kernel
theorem dX1_measure_154 : decode cX1_measure 154 = .ok (.goto (-81), 3) := by decide +kernel
theorem dX1_measure_157 : decode cX1_measure 157 = .ok (.iconst 0, 1) := by decide +kernel
theorem dX1_measure_158 : decode cX1_measure 158 = .ok (.istore_n 1, 1) := by decide +kernel
theorem dX1_measure_159 : decode cX1_measure 159 = .ok (.iload_n 1, 1) := by decide +kernel
theorem dX1_measure_160 : decode cX1_measure 160 = .ok (.aload_n 0, 1) := by decide +kernel
theorem dX1_measure_161 : decode cX1_measure 161 = .ok (.getfield 42, 3) := by decide +kernel
theorem dX1_measure_164 : decode cX1_measure 164 = .ok (.if_icmp .ge 43, 3) := by decide +kernel
theorem dX1_measure_167 : decode cX1_measure 167 = .ok (.iconst 0, 1) := by decide +kernel
theorem dX1_measure_168 : decode cX1_measure 168 = .ok (.istore_n 2, 1) := by decide +kernel
theorem dX1_measure_169 : decode cX1_measure 169 = .ok (.iload_n 2, 1) := by decide +kernel
theorem dX1_measure_170 : decode cX1_measure 170 = .ok (.aload_n 0, 1) := by decide +kernel
theorem dX1_measure_171 : decode cX1_measure 171 = .ok (.getfield 42, 3) := by decide +kernel
theorem dX1_measure_174 : decode cX1_measure 174 = .ok (.if_icmp .ge 27, 3) := by decide +kernel
theorem dX1_measure_177 : decode cX1_measure 177 = .ok (.aload_n 0, 1) := by decide +kernel
theorem dX1_measure_178 : decode cX1_measure 178 = .ok (.getfield 18, 3) := by decide +kernel
theorem dX1_measure_181 : decode cX1_measure 181 = .ok (.iload_n 1, 1) := by decide +kernel
theorem dX1_measure_182 : decode cX1_measure 182 = .ok (.iload_n 2, 1) := by decide +kernel
theorem dX1_measure_183 : decode cX1_measure 183 = .ok (.invokestatic 62, 3) := by decide +kernel
theorem dX1_measure_186 : decode cX1_measure 186 = .ok (.aload_n 0, 1) := by decide +kernel
theorem dX1_measure_187 : decode cX1_measure 187 = .ok (.iload_n 1, 1) := by decide +kernel
theorem dX1_measure_188 : decode cX1_measure 188 = .ok (.iload_n 2, 1) := by decide +kernel
theorem dX1_measure_189 : decode cX1_measure 189 = .ok (.invokevirtual 81, 3) := by decide +kernel
theorem dX1_measure_192 : decode cX1_measure 192 = .ok (.invokestatic 66, 3) := by decide +kernel
theorem dX1_measure_195 : decode cX1_measure 195 = .ok (.iinc 2 1, 3) := by decide +kernel
theorem dX1_measure_198 : decode cX1_measure 198 = .ok (.goto (-29), 3) := by decide +kernel
theorem dX1_measure_201 : decode cX1_measure 201 = .ok (.iinc 1 1, 3) := by decide +kernel
theorem dX1_measure_204 : decode cX1_measure 204 = .ok (.goto (-45), 3) := by decide +kernel
theorem dX1_measure_207 : decode cX1_measure 207 = .ok (.return_, 1) := by decide +kernel
theorem dX1_isReached_0 : decode cX1_isReached 0 = .ok (.aload_n 0, 1) := by decide +kernel
theorem dX1_isReached_1 : decode cX1_isReached 1 = .ok (.iload_n 1, 1) := by decide +kernel
theorem dX1_isReached_2 : decode cX1_isReached 2 = .ok (.iload_n 2, 1) := by decide +kernel
theorem dX1_isReached_3 : decode cX1_isReached 3 = .ok (.invokevirtual 73, 3) := by decide +kernel
theorem dX1_isReached_6 : decode cX1_isReached 6 = .ok (.sipush 1000, 3) := by decide +kernel
theorem dX1_isReached_9 : decode cX1_isReached 9 = .ok (.if_icmp .ge 7, 3) := by decide +kernel
theorem dX1_isReached_12 : decode cX1_isReached 12 = .ok (.iconst 1, 1) := by decide +kernel
theorem dX1_isReached_13 : decode cX1_isReached 13 = .ok (.goto 4, 3) := by decide +kernel
theorem dX1_isReached_16 : decode cX1_isReached 16 = .ok (.iconst 0, 1) := by decide +kernel
theorem dX1_isReached_17 : decode cX1_isReached 17 = .ok (.ireturn, 1) := by decide +kernel
theorem dX1_ways_0 : decode cX1_ways 0 = .ok (.iconst 0, 1) := by decide +kernel
theorem dX1_ways_1 : decode cX1_ways 1 = .ok (.istore_n 1, 1) := by decide +kernel
theorem dX1_ways_2 : decode cX1_ways 2 = .ok (.iconst 0, 1) := by decide +kernel
theorem dX1_ways_3 : decode cX1_ways 3 = .ok (.istore_n 2, 1) := by decide +kernel
theorem dX1_ways_4 : decode cX1_ways 4 = .ok (.iload_n 2, 1) := by decide +kernel
theorem dX1_ways_5 : decode cX1_ways 5 = .ok (.aload_n 0, 1) := by decide +kernel
theorem dX1_ways_6 : decode cX1_ways 6 = .ok (.getfield 42, 3) := by decide +kernel
theorem dX1_ways_9 : decode cX1_ways 9 = .ok (.if_icmp .ge 44, 3) := by decide +kernel
theorem dX1_ways_12 : decode cX1_ways 12 = .ok (.iload_n 2, 1) := by decide +kernel
theorem dX1_ways_13 : decode cX1_ways 13 = .ok (.iconst 1, 1) := by decide +kernel
theorem dX1_ways_14 : decode cX1_ways 14 = .ok (.iadd, 1) := by decide +kernel
theorem dX1_ways_15 : decode cX1_ways 15 = .ok (.istore_n 3, 1) := by decide +kernel
theorem dX1_ways_16 : decode cX1_ways 16 = .ok (.iload_n 3, 1) := by decide +kernel
theorem dX1_ways_17 : decode cX1_ways 17 = .ok (.aload_n 0, 1) := by decide +kernel
theorem dX1_ways_18 : decode cX1_ways 18 = .ok (.getfield 42, 3) := by decide +kernel
theorem dX1_ways_21 : decode cX1_ways 21 = .ok (.if_icmp .ge 26, 3) := by decide +kernel
theorem dX1_ways_24 : decode cX1_ways 24 = .ok (.iload_n 1, 1) := by decide +kernel
theorem dX1_ways_25 : decode cX1_ways 25 = .ok (.aload_n 0, 1) := by decide +kernel
theorem dX1_ways_26 : decode cX1_ways 26 = .ok (.iload_n 2, 1) := by decide +kernel
theorem dX1_ways_27 : decode cX1_ways 27 = .ok (.iload_n 3, 1) := by decide +kernel
theorem dX1_ways_28 : decode cX1_ways 28 = .ok (.invokevirtual 70, 3) := by decide +kernel
theorem dX1_ways_31 : decode cX1_ways 31 = .ok (.ifCond .le 7, 3) := by decide +kernel
theorem dX1_ways_34 : decode cX1_ways 34 = .ok (.iconst 1, 1) := by decide +kernel
theorem dX1_ways_35 : decode cX1_ways 35 = .ok (.goto 4, 3) := by decide +kernel
theorem dX1_ways_38 : decode cX1_ways 38 = .ok (.iconst 0, 1) := by decide +kernel
theorem dX1_ways_39 : decode cX1_ways 39 = .ok (.iadd, 1) := by decide +kernel
theorem dX1_ways_40 : decode cX1_ways 40 = .ok (.istore_n 1, 1) := by decide +kernel
theorem dX1_ways_41 : decode cX1_ways 41 = .ok (.iinc 3 1, 3) := by decide +kernel
theorem dX1_ways_44 : decode cX1_ways 44 = .ok (.goto (-28), 3) := by decide +kernel
theorem dX1_ways_47 : decode cX1_ways 47 = .ok (.iinc 2 1, 3) := by decide +kernel
theorem dX1_ways_50 : decode cX1_ways 50 = .ok (.goto (-46), 3) := by decide +kernel
theorem dX1_ways_53 : decode cX1_ways 53 = .ok (.iload_n 1, 1) := by decide +kernel
theorem dX1_ways_54 : decode cX1_ways 54 = .ok (.ireturn, 1) := by decide +kernel
theorem dX1_places_0 : decode cX1_places 0 = .ok (.aload_n 0, 1) := by decide +kernel
theorem dX1_places_1 : decode cX1_places 1 = .ok (.getfield 42, 3) := by decide +kernel
theorem dX1_places_4 : decode cX1_places 4 = .ok (.ireturn, 1) := by decide +kernel
theorem dX1_doors_0 : decode cX1_doors 0 = .ok (.aload_n 0, 1) := by decide +kernel
theorem dX1_doors_1 : decode cX1_doors 1 = .ok (.getfield 46, 3) := by decide +kernel
theorem dX1_doors_4 : decode cX1_doors 4 = .ok (.ireturn, 1) := by decide +kernel
theorem dX1_hasDoor_0 : decode cX1_hasDoor 0 = .ok (.iload_n 1, 1) := by decide +kernel
theorem dX1_hasDoor_1 : decode cX1_hasDoor 1 = .ok (.ifCond .lt 15, 3) := by decide +kernel
theorem dX1_hasDoor_4 : decode cX1_hasDoor 4 = .ok (.iload_n 1, 1) := by decide +kernel
theorem dX1_hasDoor_5 : decode cX1_hasDoor 5 = .ok (.aload_n 0, 1) := by decide +kernel
theorem dX1_hasDoor_6 : decode cX1_hasDoor 6 = .ok (.getfield 46, 3) := by decide +kernel
theorem dX1_hasDoor_9 : decode cX1_hasDoor 9 = .ok (.if_icmp .ge 7, 3) := by decide +kernel
theorem dX1_hasDoor_12 : decode cX1_hasDoor 12 = .ok (.iconst 1, 1) := by decide +kernel
theorem dX1_hasDoor_13 : decode cX1_hasDoor 13 = .ok (.goto 4, 3) := by decide +kernel
theorem dX1_hasDoor_16 : decode cX1_hasDoor 16 = .ok (.iconst 0, 1) := by decide +kernel
theorem dX1_hasDoor_17 : decode cX1_hasDoor 17 = .ok (.ireturn, 1) := by decide +kernel
theorem dX1_hasBeast_0 : decode cX1_hasBeast 0 = .ok (.iload_n 1, 1) := by decide +kernel
theorem dX1_hasBeast_1 : decode cX1_hasBeast 1 = .ok (.ifCond .lt 15, 3) := by decide +kernel
theorem dX1_hasBeast_4 : decode cX1_hasBeast 4 = .ok (.iload_n 1, 1) := by decide +kernel
theorem dX1_hasBeast_5 : decode cX1_hasBeast 5 = .ok (.aload_n 0, 1) := by decide +kernel
theorem dX1_hasBeast_6 : decode cX1_hasBeast 6 = .ok (.getfield 49, 3) := by decide +kernel
theorem dX1_hasBeast_9 : decode cX1_hasBeast 9 = .ok (.if_icmp .ge 7, 3) := by decide +kernel
theorem dX1_hasBeast_12 : decode cX1_hasBeast 12 = .ok (.iconst 1, 1) := by decide +kernel
theorem dX1_hasBeast_13 : decode cX1_hasBeast 13 = .ok (.goto 4, 3) := by decide +kernel
theorem dX1_hasBeast_16 : decode cX1_hasBeast 16 = .ok (.iconst 0, 1) := by decide +kernel
theorem dX1_hasBeast_17 : decode cX1_hasBeast 17 = .ok (.ireturn, 1) := by decide +kernel
theorem qX1_beasts : jYv yX1_beasts cX1_beasts 1 (some .int) 0 := ⟨tw_388, tw_389, tw_60, tw_390, ⟨by decide +kernel, by decide +kernel, by decide +kernel⟩⟩
abbrev rX1_beasts : Room := { frames := 0, cells := 0, slots := 0, locals := 0 }
def uX1_beasts : jM := (cX1_beasts, 1, RX1, (some .int), rX1_beasts)
def pX1_beasts (fu : Nat) (k0 : Nat)  (M : Mem) : Res :=
  some ((M k0 12), M)
set_option maxRecDepth 100000 in
theorem wX1_beasts {E : jE} {X : jC} (hX : jOk X uX1_beasts (gX E)) (fu : Nat) (k0 : Nat) (hk0 : tX k0 = 1)  (M : Mem) : J X uX1_beasts (gX E) 0 [(0, .ref (gad (gX E) k0))] [] M (pX1_beasts fu k0  M) := by
  unfold pX1_beasts
  refine j_aload_n (pc := 0) hX 0 dX1_beasts_0 rfl rfl ?_
  refine j_getI (pc := 1) hX (hc hk0) hk0 (ci := 1) (C := RX1) (T := TX1) (N := 13) rfl (jb rfl) inX1 (j := 12) (jb rfl) (rf_cn hk0 (by decide)) tw_132 dX1_beasts_1 ?_
  exact j_iret (pc := 4) hX rfl dX1_beasts_4
theorem mX1_beasts (l : Launch) (E : jE) (hI : jInj (gX E)) (fu : Nat) (k0 : Nat) (hk0 : tX k0 = 1)  (M : Mem) : jMet l (gX E) yX1_beasts cX1_beasts 1 (some .int) rX1_beasts [.ref (gad (gX E) k0)] M (pX1_beasts fu k0  M) :=
  j_entry hI (by decide +kernel) (Nat.le_of_ble_eq_true rfl) rfl (fun X _ hX => wX1_beasts hX fu k0 hk0  M)
theorem qX1_pair : jYs yX1_pair cX1_pair 2 (some .int) 2 := ⟨tw_343, tw_60, tw_344, ⟨by decide +kernel, by decide +kernel, by decide +kernel⟩⟩
abbrev rX1_pair : Room := { frames := 0, cells := 0, slots := 0, locals := 0 }
def uX1_pair : jM := (cX1_pair, 2, RX1, (some .int), rX1_pair)
def pX1_pair (fu : Nat) (x0 : Int32) (x1 : Int32) (M : Mem) : Res :=
  some (((x0 * (8 : Int32)) + x1), M)
set_option maxRecDepth 100000 in
theorem wX1_pair {E : jE} {X : jC} (hX : jOk X uX1_pair (gX E)) (fu : Nat)  (x0 : Int32) (x1 : Int32) (M : Mem) : J X uX1_pair (gX E) 0 [(0, .int x0), (1, .int x1)] [] M (pX1_pair fu  x0 x1 M) := by
  unfold pX1_pair
  refine j_iload_n (pc := 0) hX 0 dX1_pair_0 rfl rfl ?_
  refine j_bipush (pc := 1) (v := (8 : Int32)) hX dX1_pair_1 cb_8 ?_
  refine j_imul (pc := 3) hX dX1_pair_3 ?_
  refine j_iload_n (pc := 4) hX 1 dX1_pair_4 rfl rfl ?_
  refine j_iadd (pc := 5) hX dX1_pair_5 ?_
  exact j_iret (pc := 6) hX rfl dX1_pair_6
theorem mX1_pair (l : Launch) (E : jE) (hI : jInj (gX E)) (fu : Nat)  (x0 : Int32) (x1 : Int32) (M : Mem) : jMet l (gX E) yX1_pair cX1_pair 2 (some .int) rX1_pair [.int x0, .int x1] M (pX1_pair fu  x0 x1 M) :=
  j_entry hI (by decide +kernel) (Nat.le_of_ble_eq_true rfl) rfl (fun X _ hX => wX1_pair hX fu   x0 x1 M)
theorem qX1_hop : jYv yX1_hop cX1_hop 3 (some .int) 2 := ⟨tw_612, tw_613, tw_60, tw_614, ⟨by decide +kernel, by decide +kernel, by decide +kernel⟩⟩
abbrev rX1_hop : Room := { frames := 1, cells := 0, slots := 0, locals := 21 }
def uX1_hop : jM := (cX1_hop, 3, RX1, (some .int), rX1_hop)
def pX1_hop (fu : Nat) (k0 : Nat) (x1 : Int32) (x2 : Int32) (M : Mem) : Res :=
  bI (pX1_pair fu x1 x2 M) fun r2 M1 =>
  bI (pX6_at fu (k0 + 1 + 2) 64 r2 M1) fun r4 M3 =>
  some (r4, M3)
set_option maxRecDepth 100000 in
theorem wX1_hop {E : jE} {X : jC} (hX : jOk X uX1_hop (gX E)) (fu : Nat) (k0 : Nat) (hk0 : tX k0 = 1) (x1 : Int32) (x2 : Int32) (M : Mem) : J X uX1_hop (gX E) 0 [(0, .ref (gad (gX E) k0)), (1, .int x1), (2, .int x2)] [] M (pX1_hop fu k0 x1 x2 M) := by
  unfold pX1_hop
  refine j_aload_n (pc := 0) hX 0 dX1_hop_0 rfl rfl ?_
  refine j_getR (pc := 1) (t := (k0 + 1 + 2)) hX (hc hk0) hk0 (ci := 1) (C := RX1) (T := TX1) (N := 13) rfl (jb rfl) inX1 (j := 2) (jb rfl) (rf_c hk0 (by decide)) tw_122 dX1_hop_1 ?_
  refine j_iload_n (pc := 4) hX 1 dX1_hop_4 rfl rfl ?_
  refine j_iload_n (pc := 5) hX 2 dX1_hop_5 rfl rfl ?_
  refine j_callS (pc := 6) hX [.int x1, .int x2] (mX1_pair _ E hX.2.2.2.2.2.2.2.2.1 fu   x1 x2 M) qX1_pair tw_342 rfl ⟨rfl, rfl⟩ ⟨(Nat.le_of_ble_eq_true rfl), (Nat.le_of_ble_eq_true rfl)⟩ (Nat.le_of_ble_eq_true rfl) dX1_hop_6 (fun _ => rfl) rfl (fun r2 M1 => ?_)
  refine j_callS (pc := 9) hX [.ref (gad (gX E) (k0 + 1 + 2)), .int r2] (mX6_at _ E hX.2.2.2.2.2.2.2.2.1 fu (k0 + 1 + 2) 64 (hcj hk0 (by decide)).1 (hcj (j := 2) hk0 (by decide)).2.2 r2 M1) qX6_at tw_370 rfl ⟨rfl, rfl⟩ ⟨(Nat.le_of_ble_eq_true rfl), (Nat.le_of_ble_eq_true rfl)⟩ (Nat.le_of_ble_eq_true rfl) dX1_hop_9 (fun _ => rfl) rfl (fun r4 M3 => ?_)
  exact j_iret (pc := 12) hX rfl dX1_hop_12
theorem mX1_hop (l : Launch) (E : jE) (hI : jInj (gX E)) (fu : Nat) (k0 : Nat) (hk0 : tX k0 = 1) (x1 : Int32) (x2 : Int32) (M : Mem) : jMet l (gX E) yX1_hop cX1_hop 3 (some .int) rX1_hop [.ref (gad (gX E) k0), .int x1, .int x2] M (pX1_hop fu k0 x1 x2 M) :=
  j_entry hI (by decide +kernel) (Nat.le_of_ble_eq_true rfl) rfl (fun X _ hX => wX1_hop hX fu k0 hk0 x1 x2 M)
theorem qX1_lengthOf : jYv yX1_lengthOf cX1_lengthOf 3 (some .int) 2 := ⟨tw_367, tw_368, tw_60, tw_369, ⟨by decide +kernel, by decide +kernel, by decide +kernel⟩⟩
abbrev rX1_lengthOf : Room := { frames := 1, cells := 0, slots := 0, locals := 21 }
def uX1_lengthOf : jM := (cX1_lengthOf, 3, RX1, (some .int), rX1_lengthOf)
def pX1_lengthOf (fu : Nat) (k0 : Nat) (x1 : Int32) (x2 : Int32) (M : Mem) : Res :=
  bI (pX1_pair fu x1 x2 M) fun r2 M1 =>
  bI (pX6_at fu (k0 + 1 + 0) 64 r2 M1) fun r4 M3 =>
  some (r4, M3)
set_option maxRecDepth 100000 in
theorem wX1_lengthOf {E : jE} {X : jC} (hX : jOk X uX1_lengthOf (gX E)) (fu : Nat) (k0 : Nat) (hk0 : tX k0 = 1) (x1 : Int32) (x2 : Int32) (M : Mem) : J X uX1_lengthOf (gX E) 0 [(0, .ref (gad (gX E) k0)), (1, .int x1), (2, .int x2)] [] M (pX1_lengthOf fu k0 x1 x2 M) := by
  unfold pX1_lengthOf
  refine j_aload_n (pc := 0) hX 0 dX1_lengthOf_0 rfl rfl ?_
  refine j_getR (pc := 1) (t := (k0 + 1 + 0)) hX (hc hk0) hk0 (ci := 1) (C := RX1) (T := TX1) (N := 13) rfl (jb rfl) inX1 (j := 0) (jb rfl) (rf_c hk0 (by decide)) tw_120 dX1_lengthOf_1 ?_
  refine j_iload_n (pc := 4) hX 1 dX1_lengthOf_4 rfl rfl ?_
  refine j_iload_n (pc := 5) hX 2 dX1_lengthOf_5 rfl rfl ?_
  refine j_callS (pc := 6) hX [.int x1, .int x2] (mX1_pair _ E hX.2.2.2.2.2.2.2.2.1 fu   x1 x2 M) qX1_pair tw_342 rfl ⟨rfl, rfl⟩ ⟨(Nat.le_of_ble_eq_true rfl), (Nat.le_of_ble_eq_true rfl)⟩ (Nat.le_of_ble_eq_true rfl) dX1_lengthOf_6 (fun _ => rfl) rfl (fun r2 M1 => ?_)
  refine j_callS (pc := 9) hX [.ref (gad (gX E) (k0 + 1 + 0)), .int r2] (mX6_at _ E hX.2.2.2.2.2.2.2.2.1 fu (k0 + 1 + 0) 64 (hcj hk0 (by decide)).1 (hcj (j := 0) hk0 (by decide)).2.2 r2 M1) qX6_at tw_370 rfl ⟨rfl, rfl⟩ ⟨(Nat.le_of_ble_eq_true rfl), (Nat.le_of_ble_eq_true rfl)⟩ (Nat.le_of_ble_eq_true rfl) dX1_lengthOf_9 (fun _ => rfl) rfl (fun r4 M3 => ?_)
  exact j_iret (pc := 12) hX rfl dX1_lengthOf_12
theorem mX1_lengthOf (l : Launch) (E : jE) (hI : jInj (gX E)) (fu : Nat) (k0 : Nat) (hk0 : tX k0 = 1) (x1 : Int32) (x2 : Int32) (M : Mem) : jMet l (gX E) yX1_lengthOf cX1_lengthOf 3 (some .int) rX1_lengthOf [.ref (gad (gX E) k0), .int x1, .int x2] M (pX1_lengthOf fu k0 x1 x2 M) :=
  j_entry hI (by decide +kernel) (Nat.le_of_ble_eq_true rfl) rfl (fun X _ hX => wX1_lengthOf hX fu k0 hk0 x1 x2 M)
theorem qX1_pace : jYv yX1_pace cX1_pace 2 (some .int) 1 := ⟨tw_534, tw_535, tw_60, tw_536, ⟨by decide +kernel, by decide +kernel, by decide +kernel⟩⟩
abbrev rX1_pace : Room := { frames := 1, cells := 0, slots := 0, locals := 21 }
def uX1_pace : jM := (cX1_pace, 2, RX1, (some .int), rX1_pace)
def pX1_pace (fu : Nat) (k0 : Nat) (x1 : Int32) (M : Mem) : Res :=
  bI (pX6_at fu (k0 + 1 + 6) 5 x1 M) fun r2 M1 =>
  some (r2, M1)
set_option maxRecDepth 100000 in
theorem wX1_pace {E : jE} {X : jC} (hX : jOk X uX1_pace (gX E)) (fu : Nat) (k0 : Nat) (hk0 : tX k0 = 1) (x1 : Int32) (M : Mem) : J X uX1_pace (gX E) 0 [(0, .ref (gad (gX E) k0)), (1, .int x1)] [] M (pX1_pace fu k0 x1 M) := by
  unfold pX1_pace
  refine j_aload_n (pc := 0) hX 0 dX1_pace_0 rfl rfl ?_
  refine j_getR (pc := 1) (t := (k0 + 1 + 6)) hX (hc hk0) hk0 (ci := 1) (C := RX1) (T := TX1) (N := 13) rfl (jb rfl) inX1 (j := 6) (jb rfl) (rf_c hk0 (by decide)) tw_126 dX1_pace_1 ?_
  refine j_iload_n (pc := 4) hX 1 dX1_pace_4 rfl rfl ?_
  refine j_callS (pc := 5) hX [.ref (gad (gX E) (k0 + 1 + 6)), .int x1] (mX6_at _ E hX.2.2.2.2.2.2.2.2.1 fu (k0 + 1 + 6) 5 (hcj hk0 (by decide)).1 (hcj (j := 6) hk0 (by decide)).2.2 x1 M) qX6_at tw_370 rfl ⟨rfl, rfl⟩ ⟨(Nat.le_of_ble_eq_true rfl), (Nat.le_of_ble_eq_true rfl)⟩ (Nat.le_of_ble_eq_true rfl) dX1_pace_5 (fun _ => rfl) rfl (fun r2 M1 => ?_)
  exact j_iret (pc := 8) hX rfl dX1_pace_8
theorem mX1_pace (l : Launch) (E : jE) (hI : jInj (gX E)) (fu : Nat) (k0 : Nat) (hk0 : tX k0 = 1) (x1 : Int32) (M : Mem) : jMet l (gX E) yX1_pace cX1_pace 2 (some .int) rX1_pace [.ref (gad (gX E) k0), .int x1] M (pX1_pace fu k0 x1 M) :=
  j_entry hI (by decide +kernel) (Nat.le_of_ble_eq_true rfl) rfl (fun X _ hX => wX1_pace hX fu k0 hk0 x1 M)
theorem qX1_kind : jYv yX1_kind cX1_kind 2 (some .int) 1 := ⟨tw_530, tw_531, tw_60, tw_532, ⟨by decide +kernel, by decide +kernel, by decide +kernel⟩⟩
abbrev rX1_kind : Room := { frames := 1, cells := 0, slots := 0, locals := 21 }
def uX1_kind : jM := (cX1_kind, 2, RX1, (some .int), rX1_kind)
def pX1_kind (fu : Nat) (k0 : Nat) (x1 : Int32) (M : Mem) : Res :=
  bI (pX6_at fu (k0 + 1 + 5) 5 x1 M) fun r2 M1 =>
  some (r2, M1)
set_option maxRecDepth 100000 in
theorem wX1_kind {E : jE} {X : jC} (hX : jOk X uX1_kind (gX E)) (fu : Nat) (k0 : Nat) (hk0 : tX k0 = 1) (x1 : Int32) (M : Mem) : J X uX1_kind (gX E) 0 [(0, .ref (gad (gX E) k0)), (1, .int x1)] [] M (pX1_kind fu k0 x1 M) := by
  unfold pX1_kind
  refine j_aload_n (pc := 0) hX 0 dX1_kind_0 rfl rfl ?_
  refine j_getR (pc := 1) (t := (k0 + 1 + 5)) hX (hc hk0) hk0 (ci := 1) (C := RX1) (T := TX1) (N := 13) rfl (jb rfl) inX1 (j := 5) (jb rfl) (rf_c hk0 (by decide)) tw_125 dX1_kind_1 ?_
  refine j_iload_n (pc := 4) hX 1 dX1_kind_4 rfl rfl ?_
  refine j_callS (pc := 5) hX [.ref (gad (gX E) (k0 + 1 + 5)), .int x1] (mX6_at _ E hX.2.2.2.2.2.2.2.2.1 fu (k0 + 1 + 5) 5 (hcj hk0 (by decide)).1 (hcj (j := 5) hk0 (by decide)).2.2 x1 M) qX6_at tw_370 rfl ⟨rfl, rfl⟩ ⟨(Nat.le_of_ble_eq_true rfl), (Nat.le_of_ble_eq_true rfl)⟩ (Nat.le_of_ble_eq_true rfl) dX1_kind_5 (fun _ => rfl) rfl (fun r2 M1 => ?_)
  exact j_iret (pc := 8) hX rfl dX1_kind_8
theorem mX1_kind (l : Launch) (E : jE) (hI : jInj (gX E)) (fu : Nat) (k0 : Nat) (hk0 : tX k0 = 1) (x1 : Int32) (M : Mem) : jMet l (gX E) yX1_kind cX1_kind 2 (some .int) rX1_kind [.ref (gad (gX E) k0), .int x1] M (pX1_kind fu k0 x1 M) :=
  j_entry hI (by decide +kernel) (Nat.le_of_ble_eq_true rfl) rfl (fun X _ hX => wX1_kind hX fu k0 hk0 x1 M)
theorem qX1_hasMare : jYv yX1_hasMare cX1_hasMare 2 (some .boolean) 1 := ⟨tw_485, tw_486, tw_60, tw_487, ⟨by decide +kernel, by decide +kernel, by decide +kernel⟩⟩
abbrev rX1_hasMare : Room := { frames := 1, cells := 0, slots := 0, locals := 21 }
def uX1_hasMare : jM := (cX1_hasMare, 2, RX1, (some .boolean), rX1_hasMare)
def pX1_hasMare (fu : Nat) (k0 : Nat) (x1 : Int32) (M : Mem) : Res :=
  bI (pX6_at fu (k0 + 1 + 9) 8 x1 M) fun r2 M1 =>
  if r2 = (1 : Int32) then (
    rtz (1 : Int32) M1)
  else
  rtz (0 : Int32) M1
set_option maxRecDepth 100000 in
theorem wX1_hasMare {E : jE} {X : jC} (hX : jOk X uX1_hasMare (gX E)) (fu : Nat) (k0 : Nat) (hk0 : tX k0 = 1) (x1 : Int32) (M : Mem) : J X uX1_hasMare (gX E) 0 [(0, .ref (gad (gX E) k0)), (1, .int x1)] [] M (pX1_hasMare fu k0 x1 M) := by
  unfold pX1_hasMare
  refine j_aload_n (pc := 0) hX 0 dX1_hasMare_0 rfl rfl ?_
  refine j_getR (pc := 1) (t := (k0 + 1 + 9)) hX (hc hk0) hk0 (ci := 1) (C := RX1) (T := TX1) (N := 13) rfl (jb rfl) inX1 (j := 9) (jb rfl) (rf_c hk0 (by decide)) tw_129 dX1_hasMare_1 ?_
  refine j_iload_n (pc := 4) hX 1 dX1_hasMare_4 rfl rfl ?_
  refine j_callS (pc := 5) hX [.ref (gad (gX E) (k0 + 1 + 9)), .int x1] (mX6_at _ E hX.2.2.2.2.2.2.2.2.1 fu (k0 + 1 + 9) 8 (hcj hk0 (by decide)).1 (hcj (j := 9) hk0 (by decide)).2.2 x1 M) qX6_at tw_370 rfl ⟨rfl, rfl⟩ ⟨(Nat.le_of_ble_eq_true rfl), (Nat.le_of_ble_eq_true rfl)⟩ (Nat.le_of_ble_eq_true rfl) dX1_hasMare_5 (fun _ => rfl) rfl (fun r2 M1 => ?_)
  refine j_iconst (pc := 8) (v := (1 : Int32)) hX dX1_hasMare_8 ci_1 ?_
  refine j_icmp_ne (pc := 9) hX 16 dX1_hasMare_9 (by decide) ?_ ?_
  · refine j_iconst (pc := 16) (v := (0 : Int32)) hX dX1_hasMare_16 ci_0 ?_
    exact j_zret (pc := 17) hX rfl dX1_hasMare_17
  · refine j_iconst (pc := 12) (v := (1 : Int32)) hX dX1_hasMare_12 ci_1 ?_
    refine j_goto (pc := 13) hX 17 dX1_hasMare_13 (by decide) ?_
    exact j_zret (pc := 17) hX rfl dX1_hasMare_17
theorem mX1_hasMare (l : Launch) (E : jE) (hI : jInj (gX E)) (fu : Nat) (k0 : Nat) (hk0 : tX k0 = 1) (x1 : Int32) (M : Mem) : jMet l (gX E) yX1_hasMare cX1_hasMare 2 (some .boolean) rX1_hasMare [.ref (gad (gX E) k0), .int x1] M (pX1_hasMare fu k0 x1 M) :=
  j_entry hI (by decide +kernel) (Nat.le_of_ble_eq_true rfl) rfl (fun X _ hX => wX1_hasMare hX fu k0 hk0 x1 M)
theorem qX1_clear : jYv yX1_clear cX1_clear 1 none 0 := ⟨tw_302, tw_303, tw_60, tw_304, ⟨by decide +kernel, by decide +kernel, by decide +kernel⟩⟩
abbrev rX1_clear : Room := { frames := 1, cells := 0, slots := 0, locals := 21 }
def uX1_clear : jM := (cX1_clear, 1, RX1, none, rX1_clear)
def pX1_clear (fu : Nat) (k0 : Nat)  (M : Mem) : Res :=
  bV (pX6_clear fu (k0 + 1 + 0) 64 M) fun M1 =>
  bV (pX6_clear fu (k0 + 1 + 8) 8 M1) fun M2 =>
  bV (pX6_clear fu (k0 + 1 + 9) 8 M2) fun M3 =>
  fpt M3 k0 10 (5 : Int32) fun M4 =>
  fpt M4 k0 11 (0 : Int32) fun M5 =>
  fpt M5 k0 12 (0 : Int32) fun M6 =>
  some (0, M6)
set_option maxRecDepth 100000 in
theorem wX1_clear {E : jE} {X : jC} (hX : jOk X uX1_clear (gX E)) (fu : Nat) (k0 : Nat) (hk0 : tX k0 = 1)  (M : Mem) : J X uX1_clear (gX E) 0 [(0, .ref (gad (gX E) k0))] [] M (pX1_clear fu k0  M) := by
  unfold pX1_clear
  refine j_aload_n (pc := 0) hX 0 dX1_clear_0 rfl rfl ?_
  refine j_getR (pc := 1) (t := (k0 + 1 + 0)) hX (hc hk0) hk0 (ci := 1) (C := RX1) (T := TX1) (N := 13) rfl (jb rfl) inX1 (j := 0) (jb rfl) (rf_c hk0 (by decide)) tw_120 dX1_clear_1 ?_
  refine j_callSv (pc := 4) hX [.ref (gad (gX E) (k0 + 1 + 0))] (mX6_clear _ E hX.2.2.2.2.2.2.2.2.1 fu (k0 + 1 + 0) 64 (hcj hk0 (by decide)).1 (hcj (j := 0) hk0 (by decide)).2.2  M) qX6_clear tw_305 rfl ⟨rfl, rfl⟩ ⟨(Nat.le_of_ble_eq_true rfl), (Nat.le_of_ble_eq_true rfl)⟩ (Nat.le_of_ble_eq_true rfl) dX1_clear_4 rfl (fun M1 => ?_)
  refine j_aload_n (pc := 7) hX 0 dX1_clear_7 rfl rfl ?_
  refine j_getR (pc := 8) (t := (k0 + 1 + 8)) hX (hc hk0) hk0 (ci := 1) (C := RX1) (T := TX1) (N := 13) rfl (jb rfl) inX1 (j := 8) (jb rfl) (rf_c hk0 (by decide)) tw_128 dX1_clear_8 ?_
  refine j_callSv (pc := 11) hX [.ref (gad (gX E) (k0 + 1 + 8))] (mX6_clear _ E hX.2.2.2.2.2.2.2.2.1 fu (k0 + 1 + 8) 8 (hcj hk0 (by decide)).1 (hcj (j := 8) hk0 (by decide)).2.2  M1) qX6_clear tw_305 rfl ⟨rfl, rfl⟩ ⟨(Nat.le_of_ble_eq_true rfl), (Nat.le_of_ble_eq_true rfl)⟩ (Nat.le_of_ble_eq_true rfl) dX1_clear_11 rfl (fun M2 => ?_)
  refine j_aload_n (pc := 14) hX 0 dX1_clear_14 rfl rfl ?_
  refine j_getR (pc := 15) (t := (k0 + 1 + 9)) hX (hc hk0) hk0 (ci := 1) (C := RX1) (T := TX1) (N := 13) rfl (jb rfl) inX1 (j := 9) (jb rfl) (rf_c hk0 (by decide)) tw_129 dX1_clear_15 ?_
  refine j_callSv (pc := 18) hX [.ref (gad (gX E) (k0 + 1 + 9))] (mX6_clear _ E hX.2.2.2.2.2.2.2.2.1 fu (k0 + 1 + 9) 8 (hcj hk0 (by decide)).1 (hcj (j := 9) hk0 (by decide)).2.2  M2) qX6_clear tw_305 rfl ⟨rfl, rfl⟩ ⟨(Nat.le_of_ble_eq_true rfl), (Nat.le_of_ble_eq_true rfl)⟩ (Nat.le_of_ble_eq_true rfl) dX1_clear_18 rfl (fun M3 => ?_)
  refine j_aload_n (pc := 21) hX 0 dX1_clear_21 rfl rfl ?_
  refine j_iconst (pc := 22) (v := (5 : Int32)) hX dX1_clear_22 ci_5 ?_
  refine j_putI (pc := 23) hX (hc hk0) hk0 (ci := 1) (C := RX1) (T := TX1) (N := 13) rfl (jb rfl) inX1 tyX1 tyX1_ok nmX1 (j := 10) (jb rfl) (rf_cn hk0 (by decide)) tw_130 rfl (tyX1_ok 10 (jb rfl)) dX1_clear_23 (fun M4 => ?_)
  refine j_aload_n (pc := 26) hX 0 dX1_clear_26 rfl rfl ?_
  refine j_iconst (pc := 27) (v := (0 : Int32)) hX dX1_clear_27 ci_0 ?_
  refine j_putI (pc := 28) hX (hc hk0) hk0 (ci := 1) (C := RX1) (T := TX1) (N := 13) rfl (jb rfl) inX1 tyX1 tyX1_ok nmX1 (j := 11) (jb rfl) (rf_cn hk0 (by decide)) tw_131 rfl (tyX1_ok 11 (jb rfl)) dX1_clear_28 (fun M5 => ?_)
  refine j_aload_n (pc := 31) hX 0 dX1_clear_31 rfl rfl ?_
  refine j_iconst (pc := 32) (v := (0 : Int32)) hX dX1_clear_32 ci_0 ?_
  refine j_putI (pc := 33) hX (hc hk0) hk0 (ci := 1) (C := RX1) (T := TX1) (N := 13) rfl (jb rfl) inX1 tyX1 tyX1_ok nmX1 (j := 12) (jb rfl) (rf_cn hk0 (by decide)) tw_132 rfl (tyX1_ok 12 (jb rfl)) dX1_clear_33 (fun M6 => ?_)
  exact j_vret (pc := 36) hX rfl dX1_clear_36
theorem mX1_clear (l : Launch) (E : jE) (hI : jInj (gX E)) (fu : Nat) (k0 : Nat) (hk0 : tX k0 = 1)  (M : Mem) : jMet l (gX E) yX1_clear cX1_clear 1 none rX1_clear [.ref (gad (gX E) k0)] M (pX1_clear fu k0  M) :=
  j_entry hI (by decide +kernel) (Nat.le_of_ble_eq_true rfl) rfl (fun X _ hX => wX1_clear hX fu k0 hk0  M)
theorem qX1_takePlaces : jYv yX1_takePlaces cX1_takePlaces 2 (some .boolean) 1 := ⟨tw_331, tw_332, tw_60, tw_333, ⟨by decide +kernel, by decide +kernel, by decide +kernel⟩⟩
abbrev rX1_takePlaces : Room := { frames := 0, cells := 0, slots := 0, locals := 0 }
def uX1_takePlaces : jM := (cX1_takePlaces, 2, RX1, (some .boolean), rX1_takePlaces)
def pX1_takePlaces (fu : Nat) (k0 : Nat) (x1 : Int32) (M : Mem) : Res :=
  if x1 < (1 : Int32) then (
    rtz (0 : Int32) M)
  else
  if x1 ≤ (8 : Int32) then (
    fpt M k0 10 x1 fun M1 =>
    rtz (1 : Int32) M1)
  else
  rtz (0 : Int32) M
set_option maxRecDepth 100000 in
theorem wX1_takePlaces {E : jE} {X : jC} (hX : jOk X uX1_takePlaces (gX E)) (fu : Nat) (k0 : Nat) (hk0 : tX k0 = 1) (x1 : Int32) (M : Mem) : J X uX1_takePlaces (gX E) 0 [(0, .ref (gad (gX E) k0)), (1, .int x1)] [] M (pX1_takePlaces fu k0 x1 M) := by
  unfold pX1_takePlaces
  refine j_iload_n (pc := 0) hX 1 dX1_takePlaces_0 rfl rfl ?_
  refine j_iconst (pc := 1) (v := (1 : Int32)) hX dX1_takePlaces_1 ci_1 ?_
  refine j_icmp_lt (pc := 2) hX 11 dX1_takePlaces_2 (by decide) ?_ ?_
  · refine j_iconst (pc := 11) (v := (0 : Int32)) hX dX1_takePlaces_11 ci_0 ?_
    exact j_zret (pc := 12) hX rfl dX1_takePlaces_12
  · refine j_iload_n (pc := 5) hX 1 dX1_takePlaces_5 rfl rfl ?_
    refine j_bipush (pc := 6) (v := (8 : Int32)) hX dX1_takePlaces_6 cb_8 ?_
    refine j_icmp_le (pc := 8) hX 13 dX1_takePlaces_8 (by decide) ?_ ?_
    · refine j_aload_n (pc := 13) hX 0 dX1_takePlaces_13 rfl rfl ?_
      refine j_iload_n (pc := 14) hX 1 dX1_takePlaces_14 rfl rfl ?_
      refine j_putI (pc := 15) hX (hc hk0) hk0 (ci := 1) (C := RX1) (T := TX1) (N := 13) rfl (jb rfl) inX1 tyX1 tyX1_ok nmX1 (j := 10) (jb rfl) (rf_cn hk0 (by decide)) tw_130 rfl (tyX1_ok 10 (jb rfl)) dX1_takePlaces_15 (fun M1 => ?_)
      refine j_iconst (pc := 18) (v := (1 : Int32)) hX dX1_takePlaces_18 ci_1 ?_
      exact j_zret (pc := 19) hX rfl dX1_takePlaces_19
    · refine j_iconst (pc := 11) (v := (0 : Int32)) hX dX1_takePlaces_11 ci_0 ?_
      exact j_zret (pc := 12) hX rfl dX1_takePlaces_12
theorem mX1_takePlaces (l : Launch) (E : jE) (hI : jInj (gX E)) (fu : Nat) (k0 : Nat) (hk0 : tX k0 = 1) (x1 : Int32) (M : Mem) : jMet l (gX E) yX1_takePlaces cX1_takePlaces 2 (some .boolean) rX1_takePlaces [.ref (gad (gX E) k0), .int x1] M (pX1_takePlaces fu k0 x1 M) :=
  j_entry hI (by decide +kernel) (Nat.le_of_ble_eq_true rfl) rfl (fun X _ hX => wX1_takePlaces hX fu k0 hk0 x1 M)
theorem qX1_hasPlace : jYv yX1_hasPlace cX1_hasPlace 2 (some .boolean) 1 := ⟨tw_339, tw_340, tw_60, tw_341, ⟨by decide +kernel, by decide +kernel, by decide +kernel⟩⟩
abbrev rX1_hasPlace : Room := { frames := 0, cells := 0, slots := 0, locals := 0 }
def uX1_hasPlace : jM := (cX1_hasPlace, 2, RX1, (some .boolean), rX1_hasPlace)
def pX1_hasPlace (fu : Nat) (k0 : Nat) (x1 : Int32) (M : Mem) : Res :=
  if x1 < 0 then (
    rtz (0 : Int32) M)
  else
  if (M k0 10) ≤ x1 then (
    rtz (0 : Int32) M)
  else
  rtz (1 : Int32) M
set_option maxRecDepth 100000 in
theorem wX1_hasPlace {E : jE} {X : jC} (hX : jOk X uX1_hasPlace (gX E)) (fu : Nat) (k0 : Nat) (hk0 : tX k0 = 1) (x1 : Int32) (M : Mem) : J X uX1_hasPlace (gX E) 0 [(0, .ref (gad (gX E) k0)), (1, .int x1)] [] M (pX1_hasPlace fu k0 x1 M) := by
  unfold pX1_hasPlace
  refine j_iload_n (pc := 0) hX 1 dX1_hasPlace_0 rfl rfl ?_
  refine j_if_lt (pc := 1) hX 16 dX1_hasPlace_1 (by decide) ?_ ?_
  · refine j_iconst (pc := 16) (v := (0 : Int32)) hX dX1_hasPlace_16 ci_0 ?_
    exact j_zret (pc := 17) hX rfl dX1_hasPlace_17
  · refine j_iload_n (pc := 4) hX 1 dX1_hasPlace_4 rfl rfl ?_
    refine j_aload_n (pc := 5) hX 0 dX1_hasPlace_5 rfl rfl ?_
    refine j_getI (pc := 6) hX (hc hk0) hk0 (ci := 1) (C := RX1) (T := TX1) (N := 13) rfl (jb rfl) inX1 (j := 10) (jb rfl) (rf_cn hk0 (by decide)) tw_130 dX1_hasPlace_6 ?_
    refine j_icmp_ge (pc := 9) hX 16 dX1_hasPlace_9 (by decide) ?_ ?_
    · refine j_iconst (pc := 16) (v := (0 : Int32)) hX dX1_hasPlace_16 ci_0 ?_
      exact j_zret (pc := 17) hX rfl dX1_hasPlace_17
    · refine j_iconst (pc := 12) (v := (1 : Int32)) hX dX1_hasPlace_12 ci_1 ?_
      refine j_goto (pc := 13) hX 17 dX1_hasPlace_13 (by decide) ?_
      exact j_zret (pc := 17) hX rfl dX1_hasPlace_17
theorem mX1_hasPlace (l : Launch) (E : jE) (hI : jInj (gX E)) (fu : Nat) (k0 : Nat) (hk0 : tX k0 = 1) (x1 : Int32) (M : Mem) : jMet l (gX E) yX1_hasPlace cX1_hasPlace 2 (some .boolean) rX1_hasPlace [.ref (gad (gX E) k0), .int x1] M (pX1_hasPlace fu k0 x1 M) :=
  j_entry hI (by decide +kernel) (Nat.le_of_ble_eq_true rfl) rfl (fun X _ hX => wX1_hasPlace hX fu k0 hk0 x1 M)
theorem qX1_takeWay : jYv yX1_takeWay cX1_takeWay 4 (some .boolean) 3 := ⟨tw_335, tw_336, tw_60, tw_337, ⟨by decide +kernel, by decide +kernel, by decide +kernel⟩⟩
abbrev rX1_takeWay : Room := { frames := 1, cells := 0, slots := 0, locals := 22 }
def uX1_takeWay : jM := (cX1_takeWay, 4, RX1, (some .boolean), rX1_takeWay)
def pX1_takeWay (fu : Nat) (k0 : Nat) (x1 : Int32) (x2 : Int32) (x3 : Int32) (M : Mem) : Res :=
  bI (pX1_hasPlace fu k0 x1 M) fun r2 M1 =>
  if r2 = 0 then (
    rtz (0 : Int32) M1)
  else
  bI (pX1_hasPlace fu k0 x2 M1) fun r4 M3 =>
  if r4 = 0 then (
    rtz (0 : Int32) M3)
  else
  if x1 = x2 then (
    rtz (0 : Int32) M3)
  else
  if x3 < (1 : Int32) then (
    rtz (0 : Int32) M3)
  else
  if x3 ≤ (9 : Int32) then (
    bI (pX1_pair fu x1 x2 M3) fun r6 M5 =>
    bV (pX6_put fu (k0 + 1 + 0) 64 r6 x3 M5) fun M7 =>
    bI (pX1_pair fu x2 x1 M7) fun r9 M8 =>
    bV (pX6_put fu (k0 + 1 + 0) 64 r9 x3 M8) fun M10 =>
    rtz (1 : Int32) M10)
  else
  rtz (0 : Int32) M3
set_option maxRecDepth 100000 in
theorem wX1_takeWay {E : jE} {X : jC} (hX : jOk X uX1_takeWay (gX E)) (fu : Nat) (k0 : Nat) (hk0 : tX k0 = 1) (x1 : Int32) (x2 : Int32) (x3 : Int32) (M : Mem) : J X uX1_takeWay (gX E) 0 [(0, .ref (gad (gX E) k0)), (1, .int x1), (2, .int x2), (3, .int x3)] [] M (pX1_takeWay fu k0 x1 x2 x3 M) := by
  unfold pX1_takeWay
  refine j_aload_n (pc := 0) hX 0 dX1_takeWay_0 rfl rfl ?_
  refine j_iload_n (pc := 1) hX 1 dX1_takeWay_1 rfl rfl ?_
  refine j_callV (pc := 2) hX [.int x1] (mX1_hasPlace _ E hX.2.2.2.2.2.2.2.2.1 fu k0 hk0 x1 M) qX1_hasPlace tw_338 (hc hk0) hk0 (ci := 1) (T := TX1) (N := 13) rfl (jb rfl) rfl ⟨rfl, rfl⟩ ⟨(Nat.le_of_ble_eq_true rfl), (Nat.le_of_ble_eq_true rfl)⟩ (Nat.le_of_ble_eq_true rfl) dX1_takeWay_2 (fun _ => rfl) rfl (fun r2 M1 => ?_)
  refine j_if_eq (pc := 5) hX 32 dX1_takeWay_5 (by decide) ?_ ?_
  · refine j_iconst (pc := 32) (v := (0 : Int32)) hX dX1_takeWay_32 ci_0 ?_
    exact j_zret (pc := 33) hX rfl dX1_takeWay_33
  · refine j_aload_n (pc := 8) hX 0 dX1_takeWay_8 rfl rfl ?_
    refine j_iload_n (pc := 9) hX 2 dX1_takeWay_9 rfl rfl ?_
    refine j_callV (pc := 10) hX [.int x2] (mX1_hasPlace _ E hX.2.2.2.2.2.2.2.2.1 fu k0 hk0 x2 M1) qX1_hasPlace tw_338 (hc hk0) hk0 (ci := 1) (T := TX1) (N := 13) rfl (jb rfl) rfl ⟨rfl, rfl⟩ ⟨(Nat.le_of_ble_eq_true rfl), (Nat.le_of_ble_eq_true rfl)⟩ (Nat.le_of_ble_eq_true rfl) dX1_takeWay_10 (fun _ => rfl) rfl (fun r4 M3 => ?_)
    refine j_if_eq (pc := 13) hX 32 dX1_takeWay_13 (by decide) ?_ ?_
    · refine j_iconst (pc := 32) (v := (0 : Int32)) hX dX1_takeWay_32 ci_0 ?_
      exact j_zret (pc := 33) hX rfl dX1_takeWay_33
    · refine j_iload_n (pc := 16) hX 1 dX1_takeWay_16 rfl rfl ?_
      refine j_iload_n (pc := 17) hX 2 dX1_takeWay_17 rfl rfl ?_
      refine j_icmp_eq (pc := 18) hX 32 dX1_takeWay_18 (by decide) ?_ ?_
      · refine j_iconst (pc := 32) (v := (0 : Int32)) hX dX1_takeWay_32 ci_0 ?_
        exact j_zret (pc := 33) hX rfl dX1_takeWay_33
      · refine j_iload_n (pc := 21) hX 3 dX1_takeWay_21 rfl rfl ?_
        refine j_iconst (pc := 22) (v := (1 : Int32)) hX dX1_takeWay_22 ci_1 ?_
        refine j_icmp_lt (pc := 23) hX 32 dX1_takeWay_23 (by decide) ?_ ?_
        · refine j_iconst (pc := 32) (v := (0 : Int32)) hX dX1_takeWay_32 ci_0 ?_
          exact j_zret (pc := 33) hX rfl dX1_takeWay_33
        · refine j_iload_n (pc := 26) hX 3 dX1_takeWay_26 rfl rfl ?_
          refine j_bipush (pc := 27) (v := (9 : Int32)) hX dX1_takeWay_27 cb_9 ?_
          refine j_icmp_le (pc := 29) hX 34 dX1_takeWay_29 (by decide) ?_ ?_
          · refine j_aload_n (pc := 34) hX 0 dX1_takeWay_34 rfl rfl ?_
            refine j_getR (pc := 35) (t := (k0 + 1 + 0)) hX (hc hk0) hk0 (ci := 1) (C := RX1) (T := TX1) (N := 13) rfl (jb rfl) inX1 (j := 0) (jb rfl) (rf_c hk0 (by decide)) tw_120 dX1_takeWay_35 ?_
            refine j_iload_n (pc := 38) hX 1 dX1_takeWay_38 rfl rfl ?_
            refine j_iload_n (pc := 39) hX 2 dX1_takeWay_39 rfl rfl ?_
            refine j_callS (pc := 40) hX [.int x1, .int x2] (mX1_pair _ E hX.2.2.2.2.2.2.2.2.1 fu   x1 x2 M3) qX1_pair tw_342 rfl ⟨rfl, rfl⟩ ⟨(Nat.le_of_ble_eq_true rfl), (Nat.le_of_ble_eq_true rfl)⟩ (Nat.le_of_ble_eq_true rfl) dX1_takeWay_40 (fun _ => rfl) rfl (fun r6 M5 => ?_)
            refine j_iload_n (pc := 43) hX 3 dX1_takeWay_43 rfl rfl ?_
            refine j_callSv (pc := 44) hX [.ref (gad (gX E) (k0 + 1 + 0)), .int r6, .int x3] (mX6_put _ E hX.2.2.2.2.2.2.2.2.1 fu (k0 + 1 + 0) 64 (hcj hk0 (by decide)).1 (hcj (j := 0) hk0 (by decide)).2.2 r6 x3 M5) qX6_put tw_345 rfl ⟨rfl, rfl⟩ ⟨(Nat.le_of_ble_eq_true rfl), (Nat.le_of_ble_eq_true rfl)⟩ (Nat.le_of_ble_eq_true rfl) dX1_takeWay_44 rfl (fun M7 => ?_)
            refine j_aload_n (pc := 47) hX 0 dX1_takeWay_47 rfl rfl ?_
            refine j_getR (pc := 48) (t := (k0 + 1 + 0)) hX (hc hk0) hk0 (ci := 1) (C := RX1) (T := TX1) (N := 13) rfl (jb rfl) inX1 (j := 0) (jb rfl) (rf_c hk0 (by decide)) tw_120 dX1_takeWay_48 ?_
            refine j_iload_n (pc := 51) hX 2 dX1_takeWay_51 rfl rfl ?_
            refine j_iload_n (pc := 52) hX 1 dX1_takeWay_52 rfl rfl ?_
            refine j_callS (pc := 53) hX [.int x2, .int x1] (mX1_pair _ E hX.2.2.2.2.2.2.2.2.1 fu   x2 x1 M7) qX1_pair tw_342 rfl ⟨rfl, rfl⟩ ⟨(Nat.le_of_ble_eq_true rfl), (Nat.le_of_ble_eq_true rfl)⟩ (Nat.le_of_ble_eq_true rfl) dX1_takeWay_53 (fun _ => rfl) rfl (fun r9 M8 => ?_)
            refine j_iload_n (pc := 56) hX 3 dX1_takeWay_56 rfl rfl ?_
            refine j_callSv (pc := 57) hX [.ref (gad (gX E) (k0 + 1 + 0)), .int r9, .int x3] (mX6_put _ E hX.2.2.2.2.2.2.2.2.1 fu (k0 + 1 + 0) 64 (hcj hk0 (by decide)).1 (hcj (j := 0) hk0 (by decide)).2.2 r9 x3 M8) qX6_put tw_345 rfl ⟨rfl, rfl⟩ ⟨(Nat.le_of_ble_eq_true rfl), (Nat.le_of_ble_eq_true rfl)⟩ (Nat.le_of_ble_eq_true rfl) dX1_takeWay_57 rfl (fun M10 => ?_)
            refine j_iconst (pc := 60) (v := (1 : Int32)) hX dX1_takeWay_60 ci_1 ?_
            exact j_zret (pc := 61) hX rfl dX1_takeWay_61
          · refine j_iconst (pc := 32) (v := (0 : Int32)) hX dX1_takeWay_32 ci_0 ?_
            exact j_zret (pc := 33) hX rfl dX1_takeWay_33
theorem mX1_takeWay (l : Launch) (E : jE) (hI : jInj (gX E)) (fu : Nat) (k0 : Nat) (hk0 : tX k0 = 1) (x1 : Int32) (x2 : Int32) (x3 : Int32) (M : Mem) : jMet l (gX E) yX1_takeWay cX1_takeWay 4 (some .boolean) rX1_takeWay [.ref (gad (gX E) k0), .int x1, .int x2, .int x3] M (pX1_takeWay fu k0 x1 x2 x3 M) :=
  j_entry hI (by decide +kernel) (Nat.le_of_ble_eq_true rfl) rfl (fun X _ hX => wX1_takeWay hX fu k0 hk0 x1 x2 x3 M)
theorem qX1_takeDoor : jYv yX1_takeDoor cX1_takeDoor 3 (some .boolean) 2 := ⟨tw_347, tw_348, tw_60, tw_349, ⟨by decide +kernel, by decide +kernel, by decide +kernel⟩⟩
abbrev rX1_takeDoor : Room := { frames := 1, cells := 0, slots := 0, locals := 22 }
def uX1_takeDoor : jM := (cX1_takeDoor, 3, RX1, (some .boolean), rX1_takeDoor)
def pX1_takeDoor (fu : Nat) (k0 : Nat) (x1 : Int32) (x2 : Int32) (M : Mem) : Res :=
  if (4 : Int32) ≤ (M k0 11) then (
    rtz (0 : Int32) M)
  else
  if x1 < 0 then (
    rtz (0 : Int32) M)
  else
  if (3 : Int32) < x1 then (
    rtz (0 : Int32) M)
  else
  bI (pX1_hasPlace fu k0 x2 M) fun r2 M1 =>
  if r2 = 0 then (
    rtz (0 : Int32) M1)
  else
  bV (pX6_put fu (k0 + 1 + 3) 4 (M1 k0 11) x1 M1) fun M3 =>
  bV (pX6_put fu (k0 + 1 + 4) 4 (M3 k0 11) x2 M3) fun M4 =>
  fpt M4 k0 11 ((M4 k0 11) + (1 : Int32)) fun M5 =>
  rtz (1 : Int32) M5
set_option maxRecDepth 100000 in
theorem wX1_takeDoor {E : jE} {X : jC} (hX : jOk X uX1_takeDoor (gX E)) (fu : Nat) (k0 : Nat) (hk0 : tX k0 = 1) (x1 : Int32) (x2 : Int32) (M : Mem) : J X uX1_takeDoor (gX E) 0 [(0, .ref (gad (gX E) k0)), (1, .int x1), (2, .int x2)] [] M (pX1_takeDoor fu k0 x1 x2 M) := by
  unfold pX1_takeDoor
  refine j_aload_n (pc := 0) hX 0 dX1_takeDoor_0 rfl rfl ?_
  refine j_getI (pc := 1) hX (hc hk0) hk0 (ci := 1) (C := RX1) (T := TX1) (N := 13) rfl (jb rfl) inX1 (j := 11) (jb rfl) (rf_cn hk0 (by decide)) tw_131 dX1_takeDoor_1 ?_
  refine j_iconst (pc := 4) (v := (4 : Int32)) hX dX1_takeDoor_4 ci_4 ?_
  refine j_icmp_ge (pc := 5) hX 25 dX1_takeDoor_5 (by decide) ?_ ?_
  · refine j_iconst (pc := 25) (v := (0 : Int32)) hX dX1_takeDoor_25 ci_0 ?_
    exact j_zret (pc := 26) hX rfl dX1_takeDoor_26
  · refine j_iload_n (pc := 8) hX 1 dX1_takeDoor_8 rfl rfl ?_
    refine j_if_lt (pc := 9) hX 25 dX1_takeDoor_9 (by decide) ?_ ?_
    · refine j_iconst (pc := 25) (v := (0 : Int32)) hX dX1_takeDoor_25 ci_0 ?_
      exact j_zret (pc := 26) hX rfl dX1_takeDoor_26
    · refine j_iload_n (pc := 12) hX 1 dX1_takeDoor_12 rfl rfl ?_
      refine j_iconst (pc := 13) (v := (3 : Int32)) hX dX1_takeDoor_13 ci_3 ?_
      refine j_icmp_gt (pc := 14) hX 25 dX1_takeDoor_14 (by decide) ?_ ?_
      · refine j_iconst (pc := 25) (v := (0 : Int32)) hX dX1_takeDoor_25 ci_0 ?_
        exact j_zret (pc := 26) hX rfl dX1_takeDoor_26
      · refine j_aload_n (pc := 17) hX 0 dX1_takeDoor_17 rfl rfl ?_
        refine j_iload_n (pc := 18) hX 2 dX1_takeDoor_18 rfl rfl ?_
        refine j_callV (pc := 19) hX [.int x2] (mX1_hasPlace _ E hX.2.2.2.2.2.2.2.2.1 fu k0 hk0 x2 M) qX1_hasPlace tw_338 (hc hk0) hk0 (ci := 1) (T := TX1) (N := 13) rfl (jb rfl) rfl ⟨rfl, rfl⟩ ⟨(Nat.le_of_ble_eq_true rfl), (Nat.le_of_ble_eq_true rfl)⟩ (Nat.le_of_ble_eq_true rfl) dX1_takeDoor_19 (fun _ => rfl) rfl (fun r2 M1 => ?_)
        refine j_if_ne (pc := 22) hX 27 dX1_takeDoor_22 (by decide) ?_ ?_
        · refine j_aload_n (pc := 27) hX 0 dX1_takeDoor_27 rfl rfl ?_
          refine j_getR (pc := 28) (t := (k0 + 1 + 3)) hX (hc hk0) hk0 (ci := 1) (C := RX1) (T := TX1) (N := 13) rfl (jb rfl) inX1 (j := 3) (jb rfl) (rf_c hk0 (by decide)) tw_123 dX1_takeDoor_28 ?_
          refine j_aload_n (pc := 31) hX 0 dX1_takeDoor_31 rfl rfl ?_
          refine j_getI (pc := 32) hX (hc hk0) hk0 (ci := 1) (C := RX1) (T := TX1) (N := 13) rfl (jb rfl) inX1 (j := 11) (jb rfl) (rf_cn hk0 (by decide)) tw_131 dX1_takeDoor_32 ?_
          refine j_iload_n (pc := 35) hX 1 dX1_takeDoor_35 rfl rfl ?_
          refine j_callSv (pc := 36) hX [.ref (gad (gX E) (k0 + 1 + 3)), .int (M1 k0 11), .int x1] (mX6_put _ E hX.2.2.2.2.2.2.2.2.1 fu (k0 + 1 + 3) 4 (hcj hk0 (by decide)).1 (hcj (j := 3) hk0 (by decide)).2.2 (M1 k0 11) x1 M1) qX6_put tw_345 rfl ⟨rfl, rfl⟩ ⟨(Nat.le_of_ble_eq_true rfl), (Nat.le_of_ble_eq_true rfl)⟩ (Nat.le_of_ble_eq_true rfl) dX1_takeDoor_36 rfl (fun M3 => ?_)
          refine j_aload_n (pc := 39) hX 0 dX1_takeDoor_39 rfl rfl ?_
          refine j_getR (pc := 40) (t := (k0 + 1 + 4)) hX (hc hk0) hk0 (ci := 1) (C := RX1) (T := TX1) (N := 13) rfl (jb rfl) inX1 (j := 4) (jb rfl) (rf_c hk0 (by decide)) tw_124 dX1_takeDoor_40 ?_
          refine j_aload_n (pc := 43) hX 0 dX1_takeDoor_43 rfl rfl ?_
          refine j_getI (pc := 44) hX (hc hk0) hk0 (ci := 1) (C := RX1) (T := TX1) (N := 13) rfl (jb rfl) inX1 (j := 11) (jb rfl) (rf_cn hk0 (by decide)) tw_131 dX1_takeDoor_44 ?_
          refine j_iload_n (pc := 47) hX 2 dX1_takeDoor_47 rfl rfl ?_
          refine j_callSv (pc := 48) hX [.ref (gad (gX E) (k0 + 1 + 4)), .int (M3 k0 11), .int x2] (mX6_put _ E hX.2.2.2.2.2.2.2.2.1 fu (k0 + 1 + 4) 4 (hcj hk0 (by decide)).1 (hcj (j := 4) hk0 (by decide)).2.2 (M3 k0 11) x2 M3) qX6_put tw_345 rfl ⟨rfl, rfl⟩ ⟨(Nat.le_of_ble_eq_true rfl), (Nat.le_of_ble_eq_true rfl)⟩ (Nat.le_of_ble_eq_true rfl) dX1_takeDoor_48 rfl (fun M4 => ?_)
          refine j_aload_n (pc := 51) hX 0 dX1_takeDoor_51 rfl rfl ?_
          refine j_dup (pc := 52) hX dX1_takeDoor_52 rfl ?_
          refine j_getI (pc := 53) hX (hc hk0) hk0 (ci := 1) (C := RX1) (T := TX1) (N := 13) rfl (jb rfl) inX1 (j := 11) (jb rfl) (rf_cn hk0 (by decide)) tw_131 dX1_takeDoor_53 ?_
          refine j_iconst (pc := 56) (v := (1 : Int32)) hX dX1_takeDoor_56 ci_1 ?_
          refine j_iadd (pc := 57) hX dX1_takeDoor_57 ?_
          refine j_putI (pc := 58) hX (hc hk0) hk0 (ci := 1) (C := RX1) (T := TX1) (N := 13) rfl (jb rfl) inX1 tyX1 tyX1_ok nmX1 (j := 11) (jb rfl) (rf_cn hk0 (by decide)) tw_131 rfl (tyX1_ok 11 (jb rfl)) dX1_takeDoor_58 (fun M5 => ?_)
          refine j_iconst (pc := 61) (v := (1 : Int32)) hX dX1_takeDoor_61 ci_1 ?_
          exact j_zret (pc := 62) hX rfl dX1_takeDoor_62
        · refine j_iconst (pc := 25) (v := (0 : Int32)) hX dX1_takeDoor_25 ci_0 ?_
          exact j_zret (pc := 26) hX rfl dX1_takeDoor_26
theorem mX1_takeDoor (l : Launch) (E : jE) (hI : jInj (gX E)) (fu : Nat) (k0 : Nat) (hk0 : tX k0 = 1) (x1 : Int32) (x2 : Int32) (M : Mem) : jMet l (gX E) yX1_takeDoor cX1_takeDoor 3 (some .boolean) rX1_takeDoor [.ref (gad (gX E) k0), .int x1, .int x2] M (pX1_takeDoor fu k0 x1 x2 M) :=
  j_entry hI (by decide +kernel) (Nat.le_of_ble_eq_true rfl) rfl (fun X _ hX => wX1_takeDoor hX fu k0 hk0 x1 x2 M)
theorem qX1_takeBeast : jYv yX1_takeBeast cX1_takeBeast 4 (some .boolean) 3 := ⟨tw_351, tw_352, tw_60, tw_353, ⟨by decide +kernel, by decide +kernel, by decide +kernel⟩⟩
abbrev rX1_takeBeast : Room := { frames := 1, cells := 0, slots := 0, locals := 22 }
def uX1_takeBeast : jM := (cX1_takeBeast, 4, RX1, (some .boolean), rX1_takeBeast)
def pX1_takeBeast (fu : Nat) (k0 : Nat) (x1 : Int32) (x2 : Int32) (x3 : Int32) (M : Mem) : Res :=
  if (5 : Int32) ≤ (M k0 12) then (
    rtz (0 : Int32) M)
  else
  if x1 < 0 then (
    rtz (0 : Int32) M)
  else
  if (3 : Int32) < x1 then (
    rtz (0 : Int32) M)
  else
  if x2 < (1 : Int32) then (
    rtz (0 : Int32) M)
  else
  if (3 : Int32) < x2 then (
    rtz (0 : Int32) M)
  else
  if x3 < 0 then (
    rtz (0 : Int32) M)
  else
  if x3 < (10 : Int32) then (
    bV (pX6_put fu (k0 + 1 + 5) 5 (M k0 12) x1 M) fun M1 =>
    bV (pX6_put fu (k0 + 1 + 6) 5 (M1 k0 12) x2 M1) fun M2 =>
    bV (pX6_put fu (k0 + 1 + 7) 5 (M2 k0 12) x3 M2) fun M3 =>
    fpt M3 k0 12 ((M3 k0 12) + (1 : Int32)) fun M4 =>
    rtz (1 : Int32) M4)
  else
  rtz (0 : Int32) M
set_option maxRecDepth 100000 in
theorem wX1_takeBeast {E : jE} {X : jC} (hX : jOk X uX1_takeBeast (gX E)) (fu : Nat) (k0 : Nat) (hk0 : tX k0 = 1) (x1 : Int32) (x2 : Int32) (x3 : Int32) (M : Mem) : J X uX1_takeBeast (gX E) 0 [(0, .ref (gad (gX E) k0)), (1, .int x1), (2, .int x2), (3, .int x3)] [] M (pX1_takeBeast fu k0 x1 x2 x3 M) := by
  unfold pX1_takeBeast
  refine j_aload_n (pc := 0) hX 0 dX1_takeBeast_0 rfl rfl ?_
  refine j_getI (pc := 1) hX (hc hk0) hk0 (ci := 1) (C := RX1) (T := TX1) (N := 13) rfl (jb rfl) inX1 (j := 12) (jb rfl) (rf_cn hk0 (by decide)) tw_132 dX1_takeBeast_1 ?_
  refine j_iconst (pc := 4) (v := (5 : Int32)) hX dX1_takeBeast_4 ci_5 ?_
  refine j_icmp_ge (pc := 5) hX 37 dX1_takeBeast_5 (by decide) ?_ ?_
  · refine j_iconst (pc := 37) (v := (0 : Int32)) hX dX1_takeBeast_37 ci_0 ?_
    exact j_zret (pc := 38) hX rfl dX1_takeBeast_38
  · refine j_iload_n (pc := 8) hX 1 dX1_takeBeast_8 rfl rfl ?_
    refine j_if_lt (pc := 9) hX 37 dX1_takeBeast_9 (by decide) ?_ ?_
    · refine j_iconst (pc := 37) (v := (0 : Int32)) hX dX1_takeBeast_37 ci_0 ?_
      exact j_zret (pc := 38) hX rfl dX1_takeBeast_38
    · refine j_iload_n (pc := 12) hX 1 dX1_takeBeast_12 rfl rfl ?_
      refine j_iconst (pc := 13) (v := (3 : Int32)) hX dX1_takeBeast_13 ci_3 ?_
      refine j_icmp_gt (pc := 14) hX 37 dX1_takeBeast_14 (by decide) ?_ ?_
      · refine j_iconst (pc := 37) (v := (0 : Int32)) hX dX1_takeBeast_37 ci_0 ?_
        exact j_zret (pc := 38) hX rfl dX1_takeBeast_38
      · refine j_iload_n (pc := 17) hX 2 dX1_takeBeast_17 rfl rfl ?_
        refine j_iconst (pc := 18) (v := (1 : Int32)) hX dX1_takeBeast_18 ci_1 ?_
        refine j_icmp_lt (pc := 19) hX 37 dX1_takeBeast_19 (by decide) ?_ ?_
        · refine j_iconst (pc := 37) (v := (0 : Int32)) hX dX1_takeBeast_37 ci_0 ?_
          exact j_zret (pc := 38) hX rfl dX1_takeBeast_38
        · refine j_iload_n (pc := 22) hX 2 dX1_takeBeast_22 rfl rfl ?_
          refine j_iconst (pc := 23) (v := (3 : Int32)) hX dX1_takeBeast_23 ci_3 ?_
          refine j_icmp_gt (pc := 24) hX 37 dX1_takeBeast_24 (by decide) ?_ ?_
          · refine j_iconst (pc := 37) (v := (0 : Int32)) hX dX1_takeBeast_37 ci_0 ?_
            exact j_zret (pc := 38) hX rfl dX1_takeBeast_38
          · refine j_iload_n (pc := 27) hX 3 dX1_takeBeast_27 rfl rfl ?_
            refine j_if_lt (pc := 28) hX 37 dX1_takeBeast_28 (by decide) ?_ ?_
            · refine j_iconst (pc := 37) (v := (0 : Int32)) hX dX1_takeBeast_37 ci_0 ?_
              exact j_zret (pc := 38) hX rfl dX1_takeBeast_38
            · refine j_iload_n (pc := 31) hX 3 dX1_takeBeast_31 rfl rfl ?_
              refine j_bipush (pc := 32) (v := (10 : Int32)) hX dX1_takeBeast_32 cb_10 ?_
              refine j_icmp_lt (pc := 34) hX 39 dX1_takeBeast_34 (by decide) ?_ ?_
              · refine j_aload_n (pc := 39) hX 0 dX1_takeBeast_39 rfl rfl ?_
                refine j_getR (pc := 40) (t := (k0 + 1 + 5)) hX (hc hk0) hk0 (ci := 1) (C := RX1) (T := TX1) (N := 13) rfl (jb rfl) inX1 (j := 5) (jb rfl) (rf_c hk0 (by decide)) tw_125 dX1_takeBeast_40 ?_
                refine j_aload_n (pc := 43) hX 0 dX1_takeBeast_43 rfl rfl ?_
                refine j_getI (pc := 44) hX (hc hk0) hk0 (ci := 1) (C := RX1) (T := TX1) (N := 13) rfl (jb rfl) inX1 (j := 12) (jb rfl) (rf_cn hk0 (by decide)) tw_132 dX1_takeBeast_44 ?_
                refine j_iload_n (pc := 47) hX 1 dX1_takeBeast_47 rfl rfl ?_
                refine j_callSv (pc := 48) hX [.ref (gad (gX E) (k0 + 1 + 5)), .int (M k0 12), .int x1] (mX6_put _ E hX.2.2.2.2.2.2.2.2.1 fu (k0 + 1 + 5) 5 (hcj hk0 (by decide)).1 (hcj (j := 5) hk0 (by decide)).2.2 (M k0 12) x1 M) qX6_put tw_345 rfl ⟨rfl, rfl⟩ ⟨(Nat.le_of_ble_eq_true rfl), (Nat.le_of_ble_eq_true rfl)⟩ (Nat.le_of_ble_eq_true rfl) dX1_takeBeast_48 rfl (fun M1 => ?_)
                refine j_aload_n (pc := 51) hX 0 dX1_takeBeast_51 rfl rfl ?_
                refine j_getR (pc := 52) (t := (k0 + 1 + 6)) hX (hc hk0) hk0 (ci := 1) (C := RX1) (T := TX1) (N := 13) rfl (jb rfl) inX1 (j := 6) (jb rfl) (rf_c hk0 (by decide)) tw_126 dX1_takeBeast_52 ?_
                refine j_aload_n (pc := 55) hX 0 dX1_takeBeast_55 rfl rfl ?_
                refine j_getI (pc := 56) hX (hc hk0) hk0 (ci := 1) (C := RX1) (T := TX1) (N := 13) rfl (jb rfl) inX1 (j := 12) (jb rfl) (rf_cn hk0 (by decide)) tw_132 dX1_takeBeast_56 ?_
                refine j_iload_n (pc := 59) hX 2 dX1_takeBeast_59 rfl rfl ?_
                refine j_callSv (pc := 60) hX [.ref (gad (gX E) (k0 + 1 + 6)), .int (M1 k0 12), .int x2] (mX6_put _ E hX.2.2.2.2.2.2.2.2.1 fu (k0 + 1 + 6) 5 (hcj hk0 (by decide)).1 (hcj (j := 6) hk0 (by decide)).2.2 (M1 k0 12) x2 M1) qX6_put tw_345 rfl ⟨rfl, rfl⟩ ⟨(Nat.le_of_ble_eq_true rfl), (Nat.le_of_ble_eq_true rfl)⟩ (Nat.le_of_ble_eq_true rfl) dX1_takeBeast_60 rfl (fun M2 => ?_)
                refine j_aload_n (pc := 63) hX 0 dX1_takeBeast_63 rfl rfl ?_
                refine j_getR (pc := 64) (t := (k0 + 1 + 7)) hX (hc hk0) hk0 (ci := 1) (C := RX1) (T := TX1) (N := 13) rfl (jb rfl) inX1 (j := 7) (jb rfl) (rf_c hk0 (by decide)) tw_127 dX1_takeBeast_64 ?_
                refine j_aload_n (pc := 67) hX 0 dX1_takeBeast_67 rfl rfl ?_
                refine j_getI (pc := 68) hX (hc hk0) hk0 (ci := 1) (C := RX1) (T := TX1) (N := 13) rfl (jb rfl) inX1 (j := 12) (jb rfl) (rf_cn hk0 (by decide)) tw_132 dX1_takeBeast_68 ?_
                refine j_iload_n (pc := 71) hX 3 dX1_takeBeast_71 rfl rfl ?_
                refine j_callSv (pc := 72) hX [.ref (gad (gX E) (k0 + 1 + 7)), .int (M2 k0 12), .int x3] (mX6_put _ E hX.2.2.2.2.2.2.2.2.1 fu (k0 + 1 + 7) 5 (hcj hk0 (by decide)).1 (hcj (j := 7) hk0 (by decide)).2.2 (M2 k0 12) x3 M2) qX6_put tw_345 rfl ⟨rfl, rfl⟩ ⟨(Nat.le_of_ble_eq_true rfl), (Nat.le_of_ble_eq_true rfl)⟩ (Nat.le_of_ble_eq_true rfl) dX1_takeBeast_72 rfl (fun M3 => ?_)
                refine j_aload_n (pc := 75) hX 0 dX1_takeBeast_75 rfl rfl ?_
                refine j_dup (pc := 76) hX dX1_takeBeast_76 rfl ?_
                refine j_getI (pc := 77) hX (hc hk0) hk0 (ci := 1) (C := RX1) (T := TX1) (N := 13) rfl (jb rfl) inX1 (j := 12) (jb rfl) (rf_cn hk0 (by decide)) tw_132 dX1_takeBeast_77 ?_
                refine j_iconst (pc := 80) (v := (1 : Int32)) hX dX1_takeBeast_80 ci_1 ?_
                refine j_iadd (pc := 81) hX dX1_takeBeast_81 ?_
                refine j_putI (pc := 82) hX (hc hk0) hk0 (ci := 1) (C := RX1) (T := TX1) (N := 13) rfl (jb rfl) inX1 tyX1 tyX1_ok nmX1 (j := 12) (jb rfl) (rf_cn hk0 (by decide)) tw_132 rfl (tyX1_ok 12 (jb rfl)) dX1_takeBeast_82 (fun M4 => ?_)
                refine j_iconst (pc := 85) (v := (1 : Int32)) hX dX1_takeBeast_85 ci_1 ?_
                exact j_zret (pc := 86) hX rfl dX1_takeBeast_86
              · refine j_iconst (pc := 37) (v := (0 : Int32)) hX dX1_takeBeast_37 ci_0 ?_
                exact j_zret (pc := 38) hX rfl dX1_takeBeast_38
theorem mX1_takeBeast (l : Launch) (E : jE) (hI : jInj (gX E)) (fu : Nat) (k0 : Nat) (hk0 : tX k0 = 1) (x1 : Int32) (x2 : Int32) (x3 : Int32) (M : Mem) : jMet l (gX E) yX1_takeBeast cX1_takeBeast 4 (some .boolean) rX1_takeBeast [.ref (gad (gX E) k0), .int x1, .int x2, .int x3] M (pX1_takeBeast fu k0 x1 x2 x3 M) :=
  j_entry hI (by decide +kernel) (Nat.le_of_ble_eq_true rfl) rfl (fun X _ hX => wX1_takeBeast hX fu k0 hk0 x1 x2 x3 M)
theorem qX1_takeCarrots : jYv yX1_takeCarrots cX1_takeCarrots 3 (some .boolean) 2 := ⟨tw_355, tw_356, tw_60, tw_357, ⟨by decide +kernel, by decide +kernel, by decide +kernel⟩⟩
abbrev rX1_takeCarrots : Room := { frames := 1, cells := 0, slots := 0, locals := 22 }
def uX1_takeCarrots : jM := (cX1_takeCarrots, 3, RX1, (some .boolean), rX1_takeCarrots)
def pX1_takeCarrots (fu : Nat) (k0 : Nat) (x1 : Int32) (x2 : Int32) (M : Mem) : Res :=
  bI (pX1_hasPlace fu k0 x1 M) fun r2 M1 =>
  if r2 = 0 then (
    rtz (0 : Int32) M1)
  else
  if x2 < 0 then (
    rtz (0 : Int32) M1)
  else
  if x2 ≤ (9 : Int32) then (
    bV (pX6_put fu (k0 + 1 + 8) 8 x1 x2 M1) fun M3 =>
    rtz (1 : Int32) M3)
  else
  rtz (0 : Int32) M1
set_option maxRecDepth 100000 in
theorem wX1_takeCarrots {E : jE} {X : jC} (hX : jOk X uX1_takeCarrots (gX E)) (fu : Nat) (k0 : Nat) (hk0 : tX k0 = 1) (x1 : Int32) (x2 : Int32) (M : Mem) : J X uX1_takeCarrots (gX E) 0 [(0, .ref (gad (gX E) k0)), (1, .int x1), (2, .int x2)] [] M (pX1_takeCarrots fu k0 x1 x2 M) := by
  unfold pX1_takeCarrots
  refine j_aload_n (pc := 0) hX 0 dX1_takeCarrots_0 rfl rfl ?_
  refine j_iload_n (pc := 1) hX 1 dX1_takeCarrots_1 rfl rfl ?_
  refine j_callV (pc := 2) hX [.int x1] (mX1_hasPlace _ E hX.2.2.2.2.2.2.2.2.1 fu k0 hk0 x1 M) qX1_hasPlace tw_338 (hc hk0) hk0 (ci := 1) (T := TX1) (N := 13) rfl (jb rfl) rfl ⟨rfl, rfl⟩ ⟨(Nat.le_of_ble_eq_true rfl), (Nat.le_of_ble_eq_true rfl)⟩ (Nat.le_of_ble_eq_true rfl) dX1_takeCarrots_2 (fun _ => rfl) rfl (fun r2 M1 => ?_)
  refine j_if_eq (pc := 5) hX 18 dX1_takeCarrots_5 (by decide) ?_ ?_
  · refine j_iconst (pc := 18) (v := (0 : Int32)) hX dX1_takeCarrots_18 ci_0 ?_
    exact j_zret (pc := 19) hX rfl dX1_takeCarrots_19
  · refine j_iload_n (pc := 8) hX 2 dX1_takeCarrots_8 rfl rfl ?_
    refine j_if_lt (pc := 9) hX 18 dX1_takeCarrots_9 (by decide) ?_ ?_
    · refine j_iconst (pc := 18) (v := (0 : Int32)) hX dX1_takeCarrots_18 ci_0 ?_
      exact j_zret (pc := 19) hX rfl dX1_takeCarrots_19
    · refine j_iload_n (pc := 12) hX 2 dX1_takeCarrots_12 rfl rfl ?_
      refine j_bipush (pc := 13) (v := (9 : Int32)) hX dX1_takeCarrots_13 cb_9 ?_
      refine j_icmp_le (pc := 15) hX 20 dX1_takeCarrots_15 (by decide) ?_ ?_
      · refine j_aload_n (pc := 20) hX 0 dX1_takeCarrots_20 rfl rfl ?_
        refine j_getR (pc := 21) (t := (k0 + 1 + 8)) hX (hc hk0) hk0 (ci := 1) (C := RX1) (T := TX1) (N := 13) rfl (jb rfl) inX1 (j := 8) (jb rfl) (rf_c hk0 (by decide)) tw_128 dX1_takeCarrots_21 ?_
        refine j_iload_n (pc := 24) hX 1 dX1_takeCarrots_24 rfl rfl ?_
        refine j_iload_n (pc := 25) hX 2 dX1_takeCarrots_25 rfl rfl ?_
        refine j_callSv (pc := 26) hX [.ref (gad (gX E) (k0 + 1 + 8)), .int x1, .int x2] (mX6_put _ E hX.2.2.2.2.2.2.2.2.1 fu (k0 + 1 + 8) 8 (hcj hk0 (by decide)).1 (hcj (j := 8) hk0 (by decide)).2.2 x1 x2 M1) qX6_put tw_345 rfl ⟨rfl, rfl⟩ ⟨(Nat.le_of_ble_eq_true rfl), (Nat.le_of_ble_eq_true rfl)⟩ (Nat.le_of_ble_eq_true rfl) dX1_takeCarrots_26 rfl (fun M3 => ?_)
        refine j_iconst (pc := 29) (v := (1 : Int32)) hX dX1_takeCarrots_29 ci_1 ?_
        exact j_zret (pc := 30) hX rfl dX1_takeCarrots_30
      · refine j_iconst (pc := 18) (v := (0 : Int32)) hX dX1_takeCarrots_18 ci_0 ?_
        exact j_zret (pc := 19) hX rfl dX1_takeCarrots_19
theorem mX1_takeCarrots (l : Launch) (E : jE) (hI : jInj (gX E)) (fu : Nat) (k0 : Nat) (hk0 : tX k0 = 1) (x1 : Int32) (x2 : Int32) (M : Mem) : jMet l (gX E) yX1_takeCarrots cX1_takeCarrots 3 (some .boolean) rX1_takeCarrots [.ref (gad (gX E) k0), .int x1, .int x2] M (pX1_takeCarrots fu k0 x1 x2 M) :=
  j_entry hI (by decide +kernel) (Nat.le_of_ble_eq_true rfl) rfl (fun X _ hX => wX1_takeCarrots hX fu k0 hk0 x1 x2 M)
theorem qX1_takeMare : jYv yX1_takeMare cX1_takeMare 2 (some .boolean) 1 := ⟨tw_359, tw_360, tw_60, tw_361, ⟨by decide +kernel, by decide +kernel, by decide +kernel⟩⟩
abbrev rX1_takeMare : Room := { frames := 1, cells := 0, slots := 0, locals := 22 }
def uX1_takeMare : jM := (cX1_takeMare, 2, RX1, (some .boolean), rX1_takeMare)
def pX1_takeMare (fu : Nat) (k0 : Nat) (x1 : Int32) (M : Mem) : Res :=
  bI (pX1_hasPlace fu k0 x1 M) fun r2 M1 =>
  if r2 = 0 then (
    rtz (0 : Int32) M1)
  else
  bV (pX6_put fu (k0 + 1 + 9) 8 x1 (1 : Int32) M1) fun M3 =>
  rtz (1 : Int32) M3
set_option maxRecDepth 100000 in
theorem wX1_takeMare {E : jE} {X : jC} (hX : jOk X uX1_takeMare (gX E)) (fu : Nat) (k0 : Nat) (hk0 : tX k0 = 1) (x1 : Int32) (M : Mem) : J X uX1_takeMare (gX E) 0 [(0, .ref (gad (gX E) k0)), (1, .int x1)] [] M (pX1_takeMare fu k0 x1 M) := by
  unfold pX1_takeMare
  refine j_aload_n (pc := 0) hX 0 dX1_takeMare_0 rfl rfl ?_
  refine j_iload_n (pc := 1) hX 1 dX1_takeMare_1 rfl rfl ?_
  refine j_callV (pc := 2) hX [.int x1] (mX1_hasPlace _ E hX.2.2.2.2.2.2.2.2.1 fu k0 hk0 x1 M) qX1_hasPlace tw_338 (hc hk0) hk0 (ci := 1) (T := TX1) (N := 13) rfl (jb rfl) rfl ⟨rfl, rfl⟩ ⟨(Nat.le_of_ble_eq_true rfl), (Nat.le_of_ble_eq_true rfl)⟩ (Nat.le_of_ble_eq_true rfl) dX1_takeMare_2 (fun _ => rfl) rfl (fun r2 M1 => ?_)
  refine j_if_ne (pc := 5) hX 10 dX1_takeMare_5 (by decide) ?_ ?_
  · refine j_aload_n (pc := 10) hX 0 dX1_takeMare_10 rfl rfl ?_
    refine j_getR (pc := 11) (t := (k0 + 1 + 9)) hX (hc hk0) hk0 (ci := 1) (C := RX1) (T := TX1) (N := 13) rfl (jb rfl) inX1 (j := 9) (jb rfl) (rf_c hk0 (by decide)) tw_129 dX1_takeMare_11 ?_
    refine j_iload_n (pc := 14) hX 1 dX1_takeMare_14 rfl rfl ?_
    refine j_iconst (pc := 15) (v := (1 : Int32)) hX dX1_takeMare_15 ci_1 ?_
    refine j_callSv (pc := 16) hX [.ref (gad (gX E) (k0 + 1 + 9)), .int x1, .int (1 : Int32)] (mX6_put _ E hX.2.2.2.2.2.2.2.2.1 fu (k0 + 1 + 9) 8 (hcj hk0 (by decide)).1 (hcj (j := 9) hk0 (by decide)).2.2 x1 (1 : Int32) M1) qX6_put tw_345 rfl ⟨rfl, rfl⟩ ⟨(Nat.le_of_ble_eq_true rfl), (Nat.le_of_ble_eq_true rfl)⟩ (Nat.le_of_ble_eq_true rfl) dX1_takeMare_16 rfl (fun M3 => ?_)
    refine j_iconst (pc := 19) (v := (1 : Int32)) hX dX1_takeMare_19 ci_1 ?_
    exact j_zret (pc := 20) hX rfl dX1_takeMare_20
  · refine j_iconst (pc := 8) (v := (0 : Int32)) hX dX1_takeMare_8 ci_0 ?_
    exact j_zret (pc := 9) hX rfl dX1_takeMare_9
theorem mX1_takeMare (l : Launch) (E : jE) (hI : jInj (gX E)) (fu : Nat) (k0 : Nat) (hk0 : tX k0 = 1) (x1 : Int32) (M : Mem) : jMet l (gX E) yX1_takeMare cX1_takeMare 2 (some .boolean) rX1_takeMare [.ref (gad (gX E) k0), .int x1] M (pX1_takeMare fu k0 x1 M) :=
  j_entry hI (by decide +kernel) (Nat.le_of_ble_eq_true rfl) rfl (fun X _ hX => wX1_takeMare hX fu k0 hk0 x1 M)
theorem qX1_distance : jYv yX1_distance cX1_distance 3 (some .int) 2 := ⟨tw_373, tw_3, tw_60, tw_374, ⟨by decide +kernel, by decide +kernel, by decide +kernel⟩⟩
abbrev rX1_distance : Room := { frames := 1, cells := 0, slots := 0, locals := 21 }
def uX1_distance : jM := (cX1_distance, 3, RX1, (some .int), rX1_distance)
def pX1_distance (fu : Nat) (k0 : Nat) (x1 : Int32) (x2 : Int32) (M : Mem) : Res :=
  bI (pX1_pair fu x1 x2 M) fun r2 M1 =>
  bI (pX6_at fu (k0 + 1 + 1) 64 r2 M1) fun r4 M3 =>
  some (r4, M3)
set_option maxRecDepth 100000 in
theorem wX1_distance {E : jE} {X : jC} (hX : jOk X uX1_distance (gX E)) (fu : Nat) (k0 : Nat) (hk0 : tX k0 = 1) (x1 : Int32) (x2 : Int32) (M : Mem) : J X uX1_distance (gX E) 0 [(0, .ref (gad (gX E) k0)), (1, .int x1), (2, .int x2)] [] M (pX1_distance fu k0 x1 x2 M) := by
  unfold pX1_distance
  refine j_aload_n (pc := 0) hX 0 dX1_distance_0 rfl rfl ?_
  refine j_getR (pc := 1) (t := (k0 + 1 + 1)) hX (hc hk0) hk0 (ci := 1) (C := RX1) (T := TX1) (N := 13) rfl (jb rfl) inX1 (j := 1) (jb rfl) (rf_c hk0 (by decide)) tw_121 dX1_distance_1 ?_
  refine j_iload_n (pc := 4) hX 1 dX1_distance_4 rfl rfl ?_
  refine j_iload_n (pc := 5) hX 2 dX1_distance_5 rfl rfl ?_
  refine j_callS (pc := 6) hX [.int x1, .int x2] (mX1_pair _ E hX.2.2.2.2.2.2.2.2.1 fu   x1 x2 M) qX1_pair tw_342 rfl ⟨rfl, rfl⟩ ⟨(Nat.le_of_ble_eq_true rfl), (Nat.le_of_ble_eq_true rfl)⟩ (Nat.le_of_ble_eq_true rfl) dX1_distance_6 (fun _ => rfl) rfl (fun r2 M1 => ?_)
  refine j_callS (pc := 9) hX [.ref (gad (gX E) (k0 + 1 + 1)), .int r2] (mX6_at _ E hX.2.2.2.2.2.2.2.2.1 fu (k0 + 1 + 1) 64 (hcj hk0 (by decide)).1 (hcj (j := 1) hk0 (by decide)).2.2 r2 M1) qX6_at tw_370 rfl ⟨rfl, rfl⟩ ⟨(Nat.le_of_ble_eq_true rfl), (Nat.le_of_ble_eq_true rfl)⟩ (Nat.le_of_ble_eq_true rfl) dX1_distance_9 (fun _ => rfl) rfl (fun r4 M3 => ?_)
  exact j_iret (pc := 12) hX rfl dX1_distance_12
theorem mX1_distance (l : Launch) (E : jE) (hI : jInj (gX E)) (fu : Nat) (k0 : Nat) (hk0 : tX k0 = 1) (x1 : Int32) (x2 : Int32) (M : Mem) : jMet l (gX E) yX1_distance cX1_distance 3 (some .int) rX1_distance [.ref (gad (gX E) k0), .int x1, .int x2] M (pX1_distance fu k0 x1 x2 M) :=
  j_entry hI (by decide +kernel) (Nat.le_of_ble_eq_true rfl) rfl (fun X _ hX => wX1_distance hX fu k0 hk0 x1 x2 M)
theorem qX1_lowestHop : jYv yX1_lowestHop cX1_lowestHop 5 (some .int) 2 := ⟨tw_380, tw_4, tw_60, tw_381, ⟨by decide +kernel, by decide +kernel, by decide +kernel⟩⟩
abbrev rX1_lowestHop : Room := { frames := 2, cells := 0, slots := 0, locals := 43 }
def uX1_lowestHop : jM := (cX1_lowestHop, 5, RX1, (some .int), rX1_lowestHop)
def pX1_lowestHop_43 (fu : Nat) (k0 : Nat) (x1 : Int32) (x2 : Int32) (x3 : Int32) (M : Mem) (c2 : Int32 → Int32 → Int32 → Mem → Res) : Res :=
  c2 x1 x2 (x3 + (1 : Int32)) M
set_option maxRecDepth 100000 in
theorem wX1_lowestHop_43 {E : jE} {X : jC} (hX : jOk X uX1_lowestHop (gX E)) (fu : Nat) (k0 : Nat) (hk0 : tX k0 = 1) (x1 : Int32) (x2 : Int32) (x3 : Int32) (M : Mem) (c2 : Int32 → Int32 → Int32 → Mem → Res) (hc2 : ∀ (x1 : Int32) (x2 : Int32) (x3 : Int32) (M : Mem), J X uX1_lowestHop (gX E) 2 [(0, .ref (gad (gX E) k0)), (1, .int x1), (2, .int x2), (3, .int x3)] [] M (c2 x1 x2 x3 M)) : J X uX1_lowestHop (gX E) 43 [(0, .ref (gad (gX E) k0)), (1, .int x1), (2, .int x2), (3, .int x3)] [] M (pX1_lowestHop_43 fu k0 x1 x2 x3 M c2) := by
  unfold pX1_lowestHop_43
  refine j_iinc (pc := 43) (v := (x3 + (1 : Int32))) (lv' := [(3, .int (x3 + (1 : Int32))), (0, .ref (gad (gX E) k0)), (1, .int x1), (2, .int x2)]) hX 3 dX1_lowestHop_43 rfl (by rw [ci_1]) (jb rfl) rfl ?_
  refine j_goto (pc := 46) hX 2 dX1_lowestHop_46 (by decide) ?_
  exact j_sub [1, 2, 3, 0] rfl (hc2 x1 x2 (x3 + (1 : Int32)) M)
def pX1_lowestHop_2b (fu : Nat) (k0 : Nat) (x1 : Int32) (x2 : Int32) (x3 : Int32) (M : Mem) (c2 : Int32 → Int32 → Int32 → Mem → Res) : Res :=
  if (M k0 10) ≤ x3 then (
    some ((-4 : Int32), M))
  else
  bI (pX1_lengthOf fu k0 x1 x3 M) fun r2 M1 =>
  if r2 ≤ 0 then (
    pX1_lowestHop_43 fu k0 x1 x2 x3 M1 c2)
  else
  bI (pX1_distance fu k0 x3 x2 M1) fun r4 M3 =>
  bI (pX1_distance fu k0 x1 x2 M3) fun r6 M5 =>
  if (r2 + r4) = r6 then (
    some (x3, M5))
  else
  pX1_lowestHop_43 fu k0 x1 x2 x3 M5 c2
set_option maxRecDepth 100000 in
theorem wX1_lowestHop_2b {E : jE} {X : jC} (hX : jOk X uX1_lowestHop (gX E)) (fu : Nat) (k0 : Nat) (hk0 : tX k0 = 1) (x1 : Int32) (x2 : Int32) (x3 : Int32) (M : Mem) (c2 : Int32 → Int32 → Int32 → Mem → Res) (hc2 : ∀ (x1 : Int32) (x2 : Int32) (x3 : Int32) (M : Mem), J X uX1_lowestHop (gX E) 2 [(0, .ref (gad (gX E) k0)), (1, .int x1), (2, .int x2), (3, .int x3)] [] M (c2 x1 x2 x3 M)) : J X uX1_lowestHop (gX E) 2 [(0, .ref (gad (gX E) k0)), (1, .int x1), (2, .int x2), (3, .int x3)] [] M (pX1_lowestHop_2b fu k0 x1 x2 x3 M c2) := by
  unfold pX1_lowestHop_2b
  refine j_iload_n (pc := 2) hX 3 dX1_lowestHop_2 rfl rfl ?_
  refine j_aload_n (pc := 3) hX 0 dX1_lowestHop_3 rfl rfl ?_
  refine j_getI (pc := 4) hX (hc hk0) hk0 (ci := 1) (C := RX1) (T := TX1) (N := 13) rfl (jb rfl) inX1 (j := 10) (jb rfl) (rf_cn hk0 (by decide)) tw_130 dX1_lowestHop_4 ?_
  refine j_icmp_ge (pc := 7) hX 49 dX1_lowestHop_7 (by decide) ?_ ?_
  · refine j_bipush (pc := 49) (v := (-4 : Int32)) hX dX1_lowestHop_49 cb_m4 ?_
    exact j_iret (pc := 51) hX rfl dX1_lowestHop_51
  · refine j_aload_n (pc := 10) hX 0 dX1_lowestHop_10 rfl rfl ?_
    refine j_iload_n (pc := 11) hX 1 dX1_lowestHop_11 rfl rfl ?_
    refine j_iload_n (pc := 12) hX 3 dX1_lowestHop_12 rfl rfl ?_
    refine j_callV (pc := 13) hX [.int x1, .int x3] (mX1_lengthOf _ E hX.2.2.2.2.2.2.2.2.1 fu k0 hk0 x1 x3 M) qX1_lengthOf tw_366 (hc hk0) hk0 (ci := 1) (T := TX1) (N := 13) rfl (jb rfl) rfl ⟨rfl, rfl⟩ ⟨(Nat.le_of_ble_eq_true rfl), (Nat.le_of_ble_eq_true rfl)⟩ (Nat.le_of_ble_eq_true rfl) dX1_lowestHop_13 (fun _ => rfl) rfl (fun r2 M1 => ?_)
    refine j_istore (pc := 16) (lv' := [(4, .int r2), (0, .ref (gad (gX E) k0)), (1, .int x1), (2, .int x2), (3, .int x3)]) hX dX1_lowestHop_16 (jb rfl) rfl ?_
    refine j_iload (pc := 18) hX 0 dX1_lowestHop_18 rfl ?_
    refine j_if_le (pc := 20) hX 43 dX1_lowestHop_20 (by decide) ?_ ?_
    · exact j_sub [1, 2, 3, 4] rfl (wX1_lowestHop_43 hX fu k0 hk0 x1 x2 x3 M1 c2 hc2)
    · refine j_iload (pc := 23) hX 0 dX1_lowestHop_23 rfl ?_
      refine j_aload_n (pc := 25) hX 1 dX1_lowestHop_25 rfl rfl ?_
      refine j_iload_n (pc := 26) hX 4 dX1_lowestHop_26 rfl rfl ?_
      refine j_iload_n (pc := 27) hX 3 dX1_lowestHop_27 rfl rfl ?_
      refine j_callV (pc := 28) hX [.int x3, .int x2] (mX1_distance _ E hX.2.2.2.2.2.2.2.2.1 fu k0 hk0 x3 x2 M1) qX1_distance tw_371 (hc hk0) hk0 (ci := 1) (T := TX1) (N := 13) rfl (jb rfl) rfl ⟨rfl, rfl⟩ ⟨(Nat.le_of_ble_eq_true rfl), (Nat.le_of_ble_eq_true rfl)⟩ (Nat.le_of_ble_eq_true rfl) dX1_lowestHop_28 (fun _ => rfl) rfl (fun r4 M3 => ?_)
      refine j_iadd (pc := 31) hX dX1_lowestHop_31 ?_
      refine j_aload_n (pc := 32) hX 1 dX1_lowestHop_32 rfl rfl ?_
      refine j_iload_n (pc := 33) hX 2 dX1_lowestHop_33 rfl rfl ?_
      refine j_iload_n (pc := 34) hX 3 dX1_lowestHop_34 rfl rfl ?_
      refine j_callV (pc := 35) hX [.int x1, .int x2] (mX1_distance _ E hX.2.2.2.2.2.2.2.2.1 fu k0 hk0 x1 x2 M3) qX1_distance tw_371 (hc hk0) hk0 (ci := 1) (T := TX1) (N := 13) rfl (jb rfl) rfl ⟨rfl, rfl⟩ ⟨(Nat.le_of_ble_eq_true rfl), (Nat.le_of_ble_eq_true rfl)⟩ (Nat.le_of_ble_eq_true rfl) dX1_lowestHop_35 (fun _ => rfl) rfl (fun r6 M5 => ?_)
      refine j_icmp_ne (pc := 38) hX 43 dX1_lowestHop_38 (by decide) ?_ ?_
      · exact j_sub [1, 2, 3, 4] rfl (wX1_lowestHop_43 hX fu k0 hk0 x1 x2 x3 M5 c2 hc2)
      · refine j_iload_n (pc := 41) hX 4 dX1_lowestHop_41 rfl rfl ?_
        exact j_iret (pc := 42) hX rfl dX1_lowestHop_42
def pX1_lowestHop_2 (fu : Nat) (k0 : Nat)  : Nat → Int32 → Int32 → Int32 → Mem → Res
  | 0, _, _, _, _ => none
  | n + 1, x1, x2, x3, M => pX1_lowestHop_2b fu k0 x1 x2 x3 M (pX1_lowestHop_2 fu k0  n)
theorem wX1_lowestHop_2 {E : jE} {X : jC} (hX : jOk X uX1_lowestHop (gX E)) (fu : Nat) (k0 : Nat) (hk0 : tX k0 = 1)   : ∀ (n : Nat) (x1 : Int32) (x2 : Int32) (x3 : Int32) (M : Mem), J X uX1_lowestHop (gX E) 2 [(0, .ref (gad (gX E) k0)), (1, .int x1), (2, .int x2), (3, .int x3)] [] M (pX1_lowestHop_2 fu k0  n x1 x2 x3 M) := by
  intro n
  induction n with
  | zero => intro x1 x2 x3 M; exact j_none
  | succ n ih => intro x1 x2 x3 M; exact wX1_lowestHop_2b hX fu k0 hk0 x1 x2 x3 M (pX1_lowestHop_2 fu k0  n) ih
def pX1_lowestHop (fu : Nat) (k0 : Nat) (x1 : Int32) (x2 : Int32) (M : Mem) : Res :=
  pX1_lowestHop_2 fu k0
    fu x1 x2 (0 : Int32) M
set_option maxRecDepth 100000 in
theorem wX1_lowestHop {E : jE} {X : jC} (hX : jOk X uX1_lowestHop (gX E)) (fu : Nat) (k0 : Nat) (hk0 : tX k0 = 1) (x1 : Int32) (x2 : Int32) (M : Mem) : J X uX1_lowestHop (gX E) 0 [(0, .ref (gad (gX E) k0)), (1, .int x1), (2, .int x2)] [] M (pX1_lowestHop fu k0 x1 x2 M) := by
  unfold pX1_lowestHop
  refine j_iconst (pc := 0) (v := (0 : Int32)) hX dX1_lowestHop_0 ci_0 ?_
  refine j_istore_n (pc := 1) (lv' := [(3, .int (0 : Int32)), (0, .ref (gad (gX E) k0)), (1, .int x1), (2, .int x2)]) hX dX1_lowestHop_1 rfl (jb rfl) rfl ?_
  refine j_sub [1, 2, 3, 0] rfl (wX1_lowestHop_2 hX fu k0 hk0   fu x1 x2 (0 : Int32) M)
theorem mX1_lowestHop (l : Launch) (E : jE) (hI : jInj (gX E)) (fu : Nat) (k0 : Nat) (hk0 : tX k0 = 1) (x1 : Int32) (x2 : Int32) (M : Mem) : jMet l (gX E) yX1_lowestHop cX1_lowestHop 5 (some .int) rX1_lowestHop [.ref (gad (gX E) k0), .int x1, .int x2] M (pX1_lowestHop fu k0 x1 x2 M) :=
  j_entry hI (by decide +kernel) (Nat.le_of_ble_eq_true rfl) rfl (fun X _ hX => wX1_lowestHop hX fu k0 hk0 x1 x2 M)
theorem qX1_measure : jYv yX1_measure cX1_measure 5 none 0 := ⟨tw_363, tw_364, tw_60, tw_365, ⟨by decide +kernel, by decide +kernel, by decide +kernel⟩⟩
abbrev rX1_measure : Room := { frames := 3, cells := 0, slots := 0, locals := 67 }
def uX1_measure : jM := (cX1_measure, 5, RX1, none, rX1_measure)
def pX1_measure_56 (fu : Nat) (k0 : Nat) (x1 : Int32) (x2 : Int32) (s0 : Int32) (s1 : Int32) (M : Mem) (c12 : Int32 → Int32 → Mem → Res) : Res :=
  bV (pX6_put fu (k0 + 1 + 1) 64 s1 s0 M) fun M5 =>
  c12 x1 (x2 + (1 : Int32)) M5
set_option maxRecDepth 100000 in
theorem wX1_measure_56 {E : jE} {X : jC} (hX : jOk X uX1_measure (gX E)) (fu : Nat) (k0 : Nat) (hk0 : tX k0 = 1) (x1 : Int32) (x2 : Int32) (s0 : Int32) (s1 : Int32) (M : Mem) (c12 : Int32 → Int32 → Mem → Res) (hc12 : ∀ (x1 : Int32) (x2 : Int32) (M : Mem), J X uX1_measure (gX E) 12 [(0, .ref (gad (gX E) k0)), (1, .int x1), (2, .int x2)] [] M (c12 x1 x2 M)) : J X uX1_measure (gX E) 56 [(0, .ref (gad (gX E) k0)), (1, .int x1), (2, .int x2)] [.int s0, .int s1, .ref (gad (gX E) (k0 + 1 + 1))] M (pX1_measure_56 fu k0 x1 x2 s0 s1 M c12) := by
  unfold pX1_measure_56
  refine j_callSv (pc := 56) hX [.ref (gad (gX E) (k0 + 1 + 1)), .int s1, .int s0] (mX6_put _ E hX.2.2.2.2.2.2.2.2.1 fu (k0 + 1 + 1) 64 (hcj hk0 (by decide)).1 (hcj (j := 1) hk0 (by decide)).2.2 s1 s0 M) qX6_put tw_345 rfl ⟨rfl, rfl⟩ ⟨(Nat.le_of_ble_eq_true rfl), (Nat.le_of_ble_eq_true rfl)⟩ (Nat.le_of_ble_eq_true rfl) dX1_measure_56 rfl (fun M5 => ?_)
  refine j_iinc (pc := 59) (v := (x2 + (1 : Int32))) (lv' := [(2, .int (x2 + (1 : Int32))), (0, .ref (gad (gX E) k0)), (1, .int x1)]) hX 2 dX1_measure_59 rfl (by rw [ci_1]) (jb rfl) rfl ?_
  refine j_goto (pc := 62) hX 12 dX1_measure_62 (by decide) ?_
  exact j_sub [1, 2, 0] rfl (hc12 x1 (x2 + (1 : Int32)) M5)
def pX1_measure_12b (fu : Nat) (k0 : Nat) (x1 : Int32) (x2 : Int32) (M : Mem) (c12 : Int32 → Int32 → Mem → Res) (c65 : Int32 → Mem → Res) : Res :=
  if (M k0 10) ≤ x2 then (
    c65 x1 M)
  else
  bI (pX1_lengthOf fu k0 x1 x2 M) fun r2 M1 =>
  bI (pX1_pair fu x1 x2 M1) fun r4 M3 =>
  if x1 = x2 then (
    pX1_measure_56 fu k0 x1 x2 (0 : Int32) r4 M3 c12)
  else
  if r2 = 0 then (
    pX1_measure_56 fu k0 x1 x2 (1000 : Int32) r4 M3 c12)
  else
  pX1_measure_56 fu k0 x1 x2 r2 r4 M3 c12
set_option maxRecDepth 100000 in
theorem wX1_measure_12b {E : jE} {X : jC} (hX : jOk X uX1_measure (gX E)) (fu : Nat) (k0 : Nat) (hk0 : tX k0 = 1) (x1 : Int32) (x2 : Int32) (M : Mem) (c12 : Int32 → Int32 → Mem → Res) (c65 : Int32 → Mem → Res) (hc12 : ∀ (x1 : Int32) (x2 : Int32) (M : Mem), J X uX1_measure (gX E) 12 [(0, .ref (gad (gX E) k0)), (1, .int x1), (2, .int x2)] [] M (c12 x1 x2 M)) (hc65 : ∀ (x1 : Int32) (M : Mem), J X uX1_measure (gX E) 65 [(0, .ref (gad (gX E) k0)), (1, .int x1)] [] M (c65 x1 M)) : J X uX1_measure (gX E) 12 [(0, .ref (gad (gX E) k0)), (1, .int x1), (2, .int x2)] [] M (pX1_measure_12b fu k0 x1 x2 M c12 c65) := by
  unfold pX1_measure_12b
  refine j_iload_n (pc := 12) hX 2 dX1_measure_12 rfl rfl ?_
  refine j_aload_n (pc := 13) hX 0 dX1_measure_13 rfl rfl ?_
  refine j_getI (pc := 14) hX (hc hk0) hk0 (ci := 1) (C := RX1) (T := TX1) (N := 13) rfl (jb rfl) inX1 (j := 10) (jb rfl) (rf_cn hk0 (by decide)) tw_130 dX1_measure_14 ?_
  refine j_icmp_ge (pc := 17) hX 65 dX1_measure_17 (by decide) ?_ ?_
  · exact j_sub [0, 1] rfl (hc65 x1 M)
  · refine j_aload_n (pc := 20) hX 0 dX1_measure_20 rfl rfl ?_
    refine j_iload_n (pc := 21) hX 1 dX1_measure_21 rfl rfl ?_
    refine j_iload_n (pc := 22) hX 2 dX1_measure_22 rfl rfl ?_
    refine j_callV (pc := 23) hX [.int x1, .int x2] (mX1_lengthOf _ E hX.2.2.2.2.2.2.2.2.1 fu k0 hk0 x1 x2 M) qX1_lengthOf tw_366 (hc hk0) hk0 (ci := 1) (T := TX1) (N := 13) rfl (jb rfl) rfl ⟨rfl, rfl⟩ ⟨(Nat.le_of_ble_eq_true rfl), (Nat.le_of_ble_eq_true rfl)⟩ (Nat.le_of_ble_eq_true rfl) dX1_measure_23 (fun _ => rfl) rfl (fun r2 M1 => ?_)
    refine j_istore_n (pc := 26) (lv' := [(3, .int r2), (0, .ref (gad (gX E) k0)), (1, .int x1), (2, .int x2)]) hX dX1_measure_26 rfl (jb rfl) rfl ?_
    refine j_aload_n (pc := 27) hX 1 dX1_measure_27 rfl rfl ?_
    refine j_getR (pc := 28) (t := (k0 + 1 + 1)) hX (hc hk0) hk0 (ci := 1) (C := RX1) (T := TX1) (N := 13) rfl (jb rfl) inX1 (j := 1) (jb rfl) (rf_c hk0 (by decide)) tw_121 dX1_measure_28 ?_
    refine j_iload_n (pc := 31) hX 2 dX1_measure_31 rfl rfl ?_
    refine j_iload_n (pc := 32) hX 3 dX1_measure_32 rfl rfl ?_
    refine j_callS (pc := 33) hX [.int x1, .int x2] (mX1_pair _ E hX.2.2.2.2.2.2.2.2.1 fu   x1 x2 M1) qX1_pair tw_342 rfl ⟨rfl, rfl⟩ ⟨(Nat.le_of_ble_eq_true rfl), (Nat.le_of_ble_eq_true rfl)⟩ (Nat.le_of_ble_eq_true rfl) dX1_measure_33 (fun _ => rfl) rfl (fun r4 M3 => ?_)
    refine j_iload_n (pc := 36) hX 2 dX1_measure_36 rfl rfl ?_
    refine j_iload_n (pc := 37) hX 3 dX1_measure_37 rfl rfl ?_
    refine j_icmp_ne (pc := 38) hX 45 dX1_measure_38 (by decide) ?_ ?_
    · refine j_iload_n (pc := 45) hX 0 dX1_measure_45 rfl rfl ?_
      refine j_if_ne (pc := 46) hX 55 dX1_measure_46 (by decide) ?_ ?_
      · refine j_iload_n (pc := 55) hX 0 dX1_measure_55 rfl rfl ?_
        exact j_sub [1, 2, 3] rfl (wX1_measure_56 hX fu k0 hk0 x1 x2 r2 r4 M3 c12 hc12)
      · refine j_sipush (pc := 49) (v := (1000 : Int32)) hX dX1_measure_49 cs_1000 ?_
        refine j_goto (pc := 52) hX 56 dX1_measure_52 (by decide) ?_
        exact j_sub [1, 2, 3] rfl (wX1_measure_56 hX fu k0 hk0 x1 x2 (1000 : Int32) r4 M3 c12 hc12)
    · refine j_iconst (pc := 41) (v := (0 : Int32)) hX dX1_measure_41 ci_0 ?_
      refine j_goto (pc := 42) hX 56 dX1_measure_42 (by decide) ?_
      exact j_sub [1, 2, 3] rfl (wX1_measure_56 hX fu k0 hk0 x1 x2 (0 : Int32) r4 M3 c12 hc12)
def pX1_measure_12 (fu : Nat) (k0 : Nat) (c65 : Int32 → Mem → Res) : Nat → Int32 → Int32 → Mem → Res
  | 0, _, _, _ => none
  | n + 1, x1, x2, M => pX1_measure_12b fu k0 x1 x2 M (pX1_measure_12 fu k0 c65 n) c65
theorem wX1_measure_12 {E : jE} {X : jC} (hX : jOk X uX1_measure (gX E)) (fu : Nat) (k0 : Nat) (hk0 : tX k0 = 1) (c65 : Int32 → Mem → Res) (hc65 : ∀ (x1 : Int32) (M : Mem), J X uX1_measure (gX E) 65 [(0, .ref (gad (gX E) k0)), (1, .int x1)] [] M (c65 x1 M)) : ∀ (n : Nat) (x1 : Int32) (x2 : Int32) (M : Mem), J X uX1_measure (gX E) 12 [(0, .ref (gad (gX E) k0)), (1, .int x1), (2, .int x2)] [] M (pX1_measure_12 fu k0 c65 n x1 x2 M) := by
  intro n
  induction n with
  | zero => intro x1 x2 M; exact j_none
  | succ n ih => intro x1 x2 M; exact wX1_measure_12b hX fu k0 hk0 x1 x2 M (pX1_measure_12 fu k0 c65 n) c65 ih hc65
def pX1_measure_2b (fu : Nat) (k0 : Nat) (x1 : Int32) (M : Mem) (c2 : Int32 → Mem → Res) (c71 : Mem → Res) : Res :=
  if (M k0 10) ≤ x1 then (
    c71 M)
  else
  pX1_measure_12 fu k0
    (fun y6 M7 =>
      c2 (y6 + (1 : Int32)) M7)
    fu x1 (0 : Int32) M
set_option maxRecDepth 100000 in
theorem wX1_measure_2b {E : jE} {X : jC} (hX : jOk X uX1_measure (gX E)) (fu : Nat) (k0 : Nat) (hk0 : tX k0 = 1) (x1 : Int32) (M : Mem) (c2 : Int32 → Mem → Res) (c71 : Mem → Res) (hc2 : ∀ (x1 : Int32) (M : Mem), J X uX1_measure (gX E) 2 [(0, .ref (gad (gX E) k0)), (1, .int x1)] [] M (c2 x1 M)) (hc71 : ∀  (M : Mem), J X uX1_measure (gX E) 71 [(0, .ref (gad (gX E) k0))] [] M (c71  M)) : J X uX1_measure (gX E) 2 [(0, .ref (gad (gX E) k0)), (1, .int x1)] [] M (pX1_measure_2b fu k0 x1 M c2 c71) := by
  unfold pX1_measure_2b
  refine j_iload_n (pc := 2) hX 1 dX1_measure_2 rfl rfl ?_
  refine j_aload_n (pc := 3) hX 0 dX1_measure_3 rfl rfl ?_
  refine j_getI (pc := 4) hX (hc hk0) hk0 (ci := 1) (C := RX1) (T := TX1) (N := 13) rfl (jb rfl) inX1 (j := 10) (jb rfl) (rf_cn hk0 (by decide)) tw_130 dX1_measure_4 ?_
  refine j_icmp_ge (pc := 7) hX 71 dX1_measure_7 (by decide) ?_ ?_
  · exact j_sub [0] rfl (hc71  M)
  · refine j_iconst (pc := 10) (v := (0 : Int32)) hX dX1_measure_10 ci_0 ?_
    refine j_istore_n (pc := 11) (lv' := [(2, .int (0 : Int32)), (0, .ref (gad (gX E) k0)), (1, .int x1)]) hX dX1_measure_11 rfl (jb rfl) rfl ?_
    refine j_sub [1, 2, 0] rfl (wX1_measure_12 hX fu k0 hk0 _ ?_ fu x1 (0 : Int32) M)
    · intro y6 M7
      refine j_iinc (pc := 65) (v := (y6 + (1 : Int32))) (lv' := [(1, .int (y6 + (1 : Int32))), (0, .ref (gad (gX E) k0))]) hX 1 dX1_measure_65 rfl (by rw [ci_1]) (jb rfl) rfl ?_
      refine j_goto (pc := 68) hX 2 dX1_measure_68 (by decide) ?_
      exact j_sub [1, 0] rfl (hc2 (y6 + (1 : Int32)) M7)
def pX1_measure_2 (fu : Nat) (k0 : Nat) (c71 : Mem → Res) : Nat → Int32 → Mem → Res
  | 0, _, _ => none
  | n + 1, x1, M => pX1_measure_2b fu k0 x1 M (pX1_measure_2 fu k0 c71 n) c71
theorem wX1_measure_2 {E : jE} {X : jC} (hX : jOk X uX1_measure (gX E)) (fu : Nat) (k0 : Nat) (hk0 : tX k0 = 1) (c71 : Mem → Res) (hc71 : ∀  (M : Mem), J X uX1_measure (gX E) 71 [(0, .ref (gad (gX E) k0))] [] M (c71  M)) : ∀ (n : Nat) (x1 : Int32) (M : Mem), J X uX1_measure (gX E) 2 [(0, .ref (gad (gX E) k0)), (1, .int x1)] [] M (pX1_measure_2 fu k0 c71 n x1 M) := by
  intro n
  induction n with
  | zero => intro x1 M; exact j_none
  | succ n ih => intro x1 M; exact wX1_measure_2b hX fu k0 hk0 x1 M (pX1_measure_2 fu k0 c71 n) c71 ih hc71
def pX1_measure_93b (fu : Nat) (k0 : Nat) (x1 : Int32) (x2 : Int32) (x3 : Int32) (M : Mem) (c93 : Int32 → Int32 → Int32 → Mem → Res) (c145 : Int32 → Int32 → Mem → Res) : Res :=
  if (M k0 10) ≤ x3 then (
    c145 x1 x2 M)
  else
  bI (pX1_distance fu k0 x2 x1 M) fun r10 M9 =>
  bI (pX1_distance fu k0 x1 x3 M9) fun r12 M11 =>
  bI (pX1_pair fu x2 x3 M11) fun r14 M13 =>
  bI (pX1_distance fu k0 x2 x3 M13) fun r16 M15 =>
  bV (pX6_put fu (k0 + 1 + 1) 64 r14 (imin (r10 + r12) r16) M15) fun M17 =>
  c93 x1 x2 (x3 + (1 : Int32)) M17
set_option maxRecDepth 100000 in
theorem wX1_measure_93b {E : jE} {X : jC} (hX : jOk X uX1_measure (gX E)) (fu : Nat) (k0 : Nat) (hk0 : tX k0 = 1) (x1 : Int32) (x2 : Int32) (x3 : Int32) (M : Mem) (c93 : Int32 → Int32 → Int32 → Mem → Res) (c145 : Int32 → Int32 → Mem → Res) (hc93 : ∀ (x1 : Int32) (x2 : Int32) (x3 : Int32) (M : Mem), J X uX1_measure (gX E) 93 [(0, .ref (gad (gX E) k0)), (1, .int x1), (2, .int x2), (3, .int x3)] [] M (c93 x1 x2 x3 M)) (hc145 : ∀ (x1 : Int32) (x2 : Int32) (M : Mem), J X uX1_measure (gX E) 145 [(0, .ref (gad (gX E) k0)), (1, .int x1), (2, .int x2)] [] M (c145 x1 x2 M)) : J X uX1_measure (gX E) 93 [(0, .ref (gad (gX E) k0)), (1, .int x1), (2, .int x2), (3, .int x3)] [] M (pX1_measure_93b fu k0 x1 x2 x3 M c93 c145) := by
  unfold pX1_measure_93b
  refine j_iload_n (pc := 93) hX 3 dX1_measure_93 rfl rfl ?_
  refine j_aload_n (pc := 94) hX 0 dX1_measure_94 rfl rfl ?_
  refine j_getI (pc := 95) hX (hc hk0) hk0 (ci := 1) (C := RX1) (T := TX1) (N := 13) rfl (jb rfl) inX1 (j := 10) (jb rfl) (rf_cn hk0 (by decide)) tw_130 dX1_measure_95 ?_
  refine j_icmp_ge (pc := 98) hX 145 dX1_measure_98 (by decide) ?_ ?_
  · exact j_sub [0, 1, 2] rfl (hc145 x1 x2 M)
  · refine j_aload_n (pc := 101) hX 0 dX1_measure_101 rfl rfl ?_
    refine j_iload_n (pc := 102) hX 2 dX1_measure_102 rfl rfl ?_
    refine j_iload_n (pc := 103) hX 1 dX1_measure_103 rfl rfl ?_
    refine j_callV (pc := 104) hX [.int x2, .int x1] (mX1_distance _ E hX.2.2.2.2.2.2.2.2.1 fu k0 hk0 x2 x1 M) qX1_distance tw_371 (hc hk0) hk0 (ci := 1) (T := TX1) (N := 13) rfl (jb rfl) rfl ⟨rfl, rfl⟩ ⟨(Nat.le_of_ble_eq_true rfl), (Nat.le_of_ble_eq_true rfl)⟩ (Nat.le_of_ble_eq_true rfl) dX1_measure_104 (fun _ => rfl) rfl (fun r10 M9 => ?_)
    refine j_aload_n (pc := 107) hX 0 dX1_measure_107 rfl rfl ?_
    refine j_iload_n (pc := 108) hX 1 dX1_measure_108 rfl rfl ?_
    refine j_iload_n (pc := 109) hX 3 dX1_measure_109 rfl rfl ?_
    refine j_callV (pc := 110) hX [.int x1, .int x3] (mX1_distance _ E hX.2.2.2.2.2.2.2.2.1 fu k0 hk0 x1 x3 M9) qX1_distance tw_371 (hc hk0) hk0 (ci := 1) (T := TX1) (N := 13) rfl (jb rfl) rfl ⟨rfl, rfl⟩ ⟨(Nat.le_of_ble_eq_true rfl), (Nat.le_of_ble_eq_true rfl)⟩ (Nat.le_of_ble_eq_true rfl) dX1_measure_110 (fun _ => rfl) rfl (fun r12 M11 => ?_)
    refine j_iadd (pc := 113) hX dX1_measure_113 ?_
    refine j_istore (pc := 114) (lv' := [(4, .int (r10 + r12)), (0, .ref (gad (gX E) k0)), (1, .int x1), (2, .int x2), (3, .int x3)]) hX dX1_measure_114 (jb rfl) rfl ?_
    refine j_aload_n (pc := 116) hX 1 dX1_measure_116 rfl rfl ?_
    refine j_getR (pc := 117) (t := (k0 + 1 + 1)) hX (hc hk0) hk0 (ci := 1) (C := RX1) (T := TX1) (N := 13) rfl (jb rfl) inX1 (j := 1) (jb rfl) (rf_c hk0 (by decide)) tw_121 dX1_measure_117 ?_
    refine j_iload_n (pc := 120) hX 3 dX1_measure_120 rfl rfl ?_
    refine j_iload_n (pc := 121) hX 4 dX1_measure_121 rfl rfl ?_
    refine j_callS (pc := 122) hX [.int x2, .int x3] (mX1_pair _ E hX.2.2.2.2.2.2.2.2.1 fu   x2 x3 M11) qX1_pair tw_342 rfl ⟨rfl, rfl⟩ ⟨(Nat.le_of_ble_eq_true rfl), (Nat.le_of_ble_eq_true rfl)⟩ (Nat.le_of_ble_eq_true rfl) dX1_measure_122 (fun _ => rfl) rfl (fun r14 M13 => ?_)
    refine j_iload (pc := 125) hX 0 dX1_measure_125 rfl ?_
    refine j_aload_n (pc := 127) hX 1 dX1_measure_127 rfl rfl ?_
    refine j_iload_n (pc := 128) hX 3 dX1_measure_128 rfl rfl ?_
    refine j_iload_n (pc := 129) hX 4 dX1_measure_129 rfl rfl ?_
    refine j_callV (pc := 130) hX [.int x2, .int x3] (mX1_distance _ E hX.2.2.2.2.2.2.2.2.1 fu k0 hk0 x2 x3 M13) qX1_distance tw_371 (hc hk0) hk0 (ci := 1) (T := TX1) (N := 13) rfl (jb rfl) rfl ⟨rfl, rfl⟩ ⟨(Nat.le_of_ble_eq_true rfl), (Nat.le_of_ble_eq_true rfl)⟩ (Nat.le_of_ble_eq_true rfl) dX1_measure_130 (fun _ => rfl) rfl (fun r16 M15 => ?_)
    refine j_min (pc := 133) hX tw_375 tw_376 tw_71 tw_377 (Nat.le_of_ble_eq_true rfl) (Nat.le_of_ble_eq_true rfl) dX1_measure_133 ?_
    refine j_callSv (pc := 136) hX [.ref (gad (gX E) (k0 + 1 + 1)), .int r14, .int (imin (r10 + r12) r16)] (mX6_put _ E hX.2.2.2.2.2.2.2.2.1 fu (k0 + 1 + 1) 64 (hcj hk0 (by decide)).1 (hcj (j := 1) hk0 (by decide)).2.2 r14 (imin (r10 + r12) r16) M15) qX6_put tw_345 rfl ⟨rfl, rfl⟩ ⟨(Nat.le_of_ble_eq_true rfl), (Nat.le_of_ble_eq_true rfl)⟩ (Nat.le_of_ble_eq_true rfl) dX1_measure_136 rfl (fun M17 => ?_)
    refine j_iinc (pc := 139) (v := (x3 + (1 : Int32))) (lv' := [(3, .int (x3 + (1 : Int32))), (4, .int (r10 + r12)), (0, .ref (gad (gX E) k0)), (1, .int x1), (2, .int x2)]) hX 4 dX1_measure_139 rfl (by rw [ci_1]) (jb rfl) rfl ?_
    refine j_goto (pc := 142) hX 93 dX1_measure_142 (by decide) ?_
    exact j_sub [2, 3, 4, 0] rfl (hc93 x1 x2 (x3 + (1 : Int32)) M17)
def pX1_measure_93 (fu : Nat) (k0 : Nat) (c145 : Int32 → Int32 → Mem → Res) : Nat → Int32 → Int32 → Int32 → Mem → Res
  | 0, _, _, _, _ => none
  | n + 1, x1, x2, x3, M => pX1_measure_93b fu k0 x1 x2 x3 M (pX1_measure_93 fu k0 c145 n) c145
theorem wX1_measure_93 {E : jE} {X : jC} (hX : jOk X uX1_measure (gX E)) (fu : Nat) (k0 : Nat) (hk0 : tX k0 = 1) (c145 : Int32 → Int32 → Mem → Res) (hc145 : ∀ (x1 : Int32) (x2 : Int32) (M : Mem), J X uX1_measure (gX E) 145 [(0, .ref (gad (gX E) k0)), (1, .int x1), (2, .int x2)] [] M (c145 x1 x2 M)) : ∀ (n : Nat) (x1 : Int32) (x2 : Int32) (x3 : Int32) (M : Mem), J X uX1_measure (gX E) 93 [(0, .ref (gad (gX E) k0)), (1, .int x1), (2, .int x2), (3, .int x3)] [] M (pX1_measure_93 fu k0 c145 n x1 x2 x3 M) := by
  intro n
  induction n with
  | zero => intro x1 x2 x3 M; exact j_none
  | succ n ih => intro x1 x2 x3 M; exact wX1_measure_93b hX fu k0 hk0 x1 x2 x3 M (pX1_measure_93 fu k0 c145 n) c145 ih hc145
def pX1_measure_83b (fu : Nat) (k0 : Nat) (x1 : Int32) (x2 : Int32) (M : Mem) (c83 : Int32 → Int32 → Mem → Res) (c151 : Int32 → Mem → Res) : Res :=
  if (M k0 10) ≤ x2 then (
    c151 x1 M)
  else
  pX1_measure_93 fu k0
    (fun y18 y19 M20 =>
      c83 y18 (y19 + (1 : Int32)) M20)
    fu x1 x2 (0 : Int32) M
set_option maxRecDepth 100000 in
theorem wX1_measure_83b {E : jE} {X : jC} (hX : jOk X uX1_measure (gX E)) (fu : Nat) (k0 : Nat) (hk0 : tX k0 = 1) (x1 : Int32) (x2 : Int32) (M : Mem) (c83 : Int32 → Int32 → Mem → Res) (c151 : Int32 → Mem → Res) (hc83 : ∀ (x1 : Int32) (x2 : Int32) (M : Mem), J X uX1_measure (gX E) 83 [(0, .ref (gad (gX E) k0)), (1, .int x1), (2, .int x2)] [] M (c83 x1 x2 M)) (hc151 : ∀ (x1 : Int32) (M : Mem), J X uX1_measure (gX E) 151 [(0, .ref (gad (gX E) k0)), (1, .int x1)] [] M (c151 x1 M)) : J X uX1_measure (gX E) 83 [(0, .ref (gad (gX E) k0)), (1, .int x1), (2, .int x2)] [] M (pX1_measure_83b fu k0 x1 x2 M c83 c151) := by
  unfold pX1_measure_83b
  refine j_iload_n (pc := 83) hX 2 dX1_measure_83 rfl rfl ?_
  refine j_aload_n (pc := 84) hX 0 dX1_measure_84 rfl rfl ?_
  refine j_getI (pc := 85) hX (hc hk0) hk0 (ci := 1) (C := RX1) (T := TX1) (N := 13) rfl (jb rfl) inX1 (j := 10) (jb rfl) (rf_cn hk0 (by decide)) tw_130 dX1_measure_85 ?_
  refine j_icmp_ge (pc := 88) hX 151 dX1_measure_88 (by decide) ?_ ?_
  · exact j_sub [0, 1] rfl (hc151 x1 M)
  · refine j_iconst (pc := 91) (v := (0 : Int32)) hX dX1_measure_91 ci_0 ?_
    refine j_istore_n (pc := 92) (lv' := [(3, .int (0 : Int32)), (0, .ref (gad (gX E) k0)), (1, .int x1), (2, .int x2)]) hX dX1_measure_92 rfl (jb rfl) rfl ?_
    refine j_sub [1, 2, 3, 0] rfl (wX1_measure_93 hX fu k0 hk0 _ ?_ fu x1 x2 (0 : Int32) M)
    · intro y18 y19 M20
      refine j_iinc (pc := 145) (v := (y19 + (1 : Int32))) (lv' := [(2, .int (y19 + (1 : Int32))), (0, .ref (gad (gX E) k0)), (1, .int y18)]) hX 2 dX1_measure_145 rfl (by rw [ci_1]) (jb rfl) rfl ?_
      refine j_goto (pc := 148) hX 83 dX1_measure_148 (by decide) ?_
      exact j_sub [1, 2, 0] rfl (hc83 y18 (y19 + (1 : Int32)) M20)
def pX1_measure_83 (fu : Nat) (k0 : Nat) (c151 : Int32 → Mem → Res) : Nat → Int32 → Int32 → Mem → Res
  | 0, _, _, _ => none
  | n + 1, x1, x2, M => pX1_measure_83b fu k0 x1 x2 M (pX1_measure_83 fu k0 c151 n) c151
theorem wX1_measure_83 {E : jE} {X : jC} (hX : jOk X uX1_measure (gX E)) (fu : Nat) (k0 : Nat) (hk0 : tX k0 = 1) (c151 : Int32 → Mem → Res) (hc151 : ∀ (x1 : Int32) (M : Mem), J X uX1_measure (gX E) 151 [(0, .ref (gad (gX E) k0)), (1, .int x1)] [] M (c151 x1 M)) : ∀ (n : Nat) (x1 : Int32) (x2 : Int32) (M : Mem), J X uX1_measure (gX E) 83 [(0, .ref (gad (gX E) k0)), (1, .int x1), (2, .int x2)] [] M (pX1_measure_83 fu k0 c151 n x1 x2 M) := by
  intro n
  induction n with
  | zero => intro x1 x2 M; exact j_none
  | succ n ih => intro x1 x2 M; exact wX1_measure_83b hX fu k0 hk0 x1 x2 M (pX1_measure_83 fu k0 c151 n) c151 ih hc151
def pX1_measure_73b (fu : Nat) (k0 : Nat) (x1 : Int32) (M : Mem) (c73 : Int32 → Mem → Res) (c157 : Mem → Res) : Res :=
  if (M k0 10) ≤ x1 then (
    c157 M)
  else
  pX1_measure_83 fu k0
    (fun y21 M22 =>
      c73 (y21 + (1 : Int32)) M22)
    fu x1 (0 : Int32) M
set_option maxRecDepth 100000 in
theorem wX1_measure_73b {E : jE} {X : jC} (hX : jOk X uX1_measure (gX E)) (fu : Nat) (k0 : Nat) (hk0 : tX k0 = 1) (x1 : Int32) (M : Mem) (c73 : Int32 → Mem → Res) (c157 : Mem → Res) (hc73 : ∀ (x1 : Int32) (M : Mem), J X uX1_measure (gX E) 73 [(0, .ref (gad (gX E) k0)), (1, .int x1)] [] M (c73 x1 M)) (hc157 : ∀  (M : Mem), J X uX1_measure (gX E) 157 [(0, .ref (gad (gX E) k0))] [] M (c157  M)) : J X uX1_measure (gX E) 73 [(0, .ref (gad (gX E) k0)), (1, .int x1)] [] M (pX1_measure_73b fu k0 x1 M c73 c157) := by
  unfold pX1_measure_73b
  refine j_iload_n (pc := 73) hX 1 dX1_measure_73 rfl rfl ?_
  refine j_aload_n (pc := 74) hX 0 dX1_measure_74 rfl rfl ?_
  refine j_getI (pc := 75) hX (hc hk0) hk0 (ci := 1) (C := RX1) (T := TX1) (N := 13) rfl (jb rfl) inX1 (j := 10) (jb rfl) (rf_cn hk0 (by decide)) tw_130 dX1_measure_75 ?_
  refine j_icmp_ge (pc := 78) hX 157 dX1_measure_78 (by decide) ?_ ?_
  · exact j_sub [0] rfl (hc157  M)
  · refine j_iconst (pc := 81) (v := (0 : Int32)) hX dX1_measure_81 ci_0 ?_
    refine j_istore_n (pc := 82) (lv' := [(2, .int (0 : Int32)), (0, .ref (gad (gX E) k0)), (1, .int x1)]) hX dX1_measure_82 rfl (jb rfl) rfl ?_
    refine j_sub [1, 2, 0] rfl (wX1_measure_83 hX fu k0 hk0 _ ?_ fu x1 (0 : Int32) M)
    · intro y21 M22
      refine j_iinc (pc := 151) (v := (y21 + (1 : Int32))) (lv' := [(1, .int (y21 + (1 : Int32))), (0, .ref (gad (gX E) k0))]) hX 1 dX1_measure_151 rfl (by rw [ci_1]) (jb rfl) rfl ?_
      refine j_goto (pc := 154) hX 73 dX1_measure_154 (by decide) ?_
      exact j_sub [1, 0] rfl (hc73 (y21 + (1 : Int32)) M22)
def pX1_measure_73 (fu : Nat) (k0 : Nat) (c157 : Mem → Res) : Nat → Int32 → Mem → Res
  | 0, _, _ => none
  | n + 1, x1, M => pX1_measure_73b fu k0 x1 M (pX1_measure_73 fu k0 c157 n) c157
theorem wX1_measure_73 {E : jE} {X : jC} (hX : jOk X uX1_measure (gX E)) (fu : Nat) (k0 : Nat) (hk0 : tX k0 = 1) (c157 : Mem → Res) (hc157 : ∀  (M : Mem), J X uX1_measure (gX E) 157 [(0, .ref (gad (gX E) k0))] [] M (c157  M)) : ∀ (n : Nat) (x1 : Int32) (M : Mem), J X uX1_measure (gX E) 73 [(0, .ref (gad (gX E) k0)), (1, .int x1)] [] M (pX1_measure_73 fu k0 c157 n x1 M) := by
  intro n
  induction n with
  | zero => intro x1 M; exact j_none
  | succ n ih => intro x1 M; exact wX1_measure_73b hX fu k0 hk0 x1 M (pX1_measure_73 fu k0 c157 n) c157 ih hc157
def pX1_measure_169b (fu : Nat) (k0 : Nat) (x1 : Int32) (x2 : Int32) (M : Mem) (c169 : Int32 → Int32 → Mem → Res) (c201 : Int32 → Mem → Res) : Res :=
  if (M k0 10) ≤ x2 then (
    c201 x1 M)
  else
  bI (pX1_pair fu x1 x2 M) fun r25 M24 =>
  bI (pX1_lowestHop fu k0 x1 x2 M24) fun r27 M26 =>
  bV (pX6_put fu (k0 + 1 + 2) 64 r25 r27 M26) fun M28 =>
  c169 x1 (x2 + (1 : Int32)) M28
set_option maxRecDepth 100000 in
theorem wX1_measure_169b {E : jE} {X : jC} (hX : jOk X uX1_measure (gX E)) (fu : Nat) (k0 : Nat) (hk0 : tX k0 = 1) (x1 : Int32) (x2 : Int32) (M : Mem) (c169 : Int32 → Int32 → Mem → Res) (c201 : Int32 → Mem → Res) (hc169 : ∀ (x1 : Int32) (x2 : Int32) (M : Mem), J X uX1_measure (gX E) 169 [(0, .ref (gad (gX E) k0)), (1, .int x1), (2, .int x2)] [] M (c169 x1 x2 M)) (hc201 : ∀ (x1 : Int32) (M : Mem), J X uX1_measure (gX E) 201 [(0, .ref (gad (gX E) k0)), (1, .int x1)] [] M (c201 x1 M)) : J X uX1_measure (gX E) 169 [(0, .ref (gad (gX E) k0)), (1, .int x1), (2, .int x2)] [] M (pX1_measure_169b fu k0 x1 x2 M c169 c201) := by
  unfold pX1_measure_169b
  refine j_iload_n (pc := 169) hX 2 dX1_measure_169 rfl rfl ?_
  refine j_aload_n (pc := 170) hX 0 dX1_measure_170 rfl rfl ?_
  refine j_getI (pc := 171) hX (hc hk0) hk0 (ci := 1) (C := RX1) (T := TX1) (N := 13) rfl (jb rfl) inX1 (j := 10) (jb rfl) (rf_cn hk0 (by decide)) tw_130 dX1_measure_171 ?_
  refine j_icmp_ge (pc := 174) hX 201 dX1_measure_174 (by decide) ?_ ?_
  · exact j_sub [0, 1] rfl (hc201 x1 M)
  · refine j_aload_n (pc := 177) hX 0 dX1_measure_177 rfl rfl ?_
    refine j_getR (pc := 178) (t := (k0 + 1 + 2)) hX (hc hk0) hk0 (ci := 1) (C := RX1) (T := TX1) (N := 13) rfl (jb rfl) inX1 (j := 2) (jb rfl) (rf_c hk0 (by decide)) tw_122 dX1_measure_178 ?_
    refine j_iload_n (pc := 181) hX 1 dX1_measure_181 rfl rfl ?_
    refine j_iload_n (pc := 182) hX 2 dX1_measure_182 rfl rfl ?_
    refine j_callS (pc := 183) hX [.int x1, .int x2] (mX1_pair _ E hX.2.2.2.2.2.2.2.2.1 fu   x1 x2 M) qX1_pair tw_342 rfl ⟨rfl, rfl⟩ ⟨(Nat.le_of_ble_eq_true rfl), (Nat.le_of_ble_eq_true rfl)⟩ (Nat.le_of_ble_eq_true rfl) dX1_measure_183 (fun _ => rfl) rfl (fun r25 M24 => ?_)
    refine j_aload_n (pc := 186) hX 0 dX1_measure_186 rfl rfl ?_
    refine j_iload_n (pc := 187) hX 1 dX1_measure_187 rfl rfl ?_
    refine j_iload_n (pc := 188) hX 2 dX1_measure_188 rfl rfl ?_
    refine j_callV (pc := 189) hX [.int x1, .int x2] (mX1_lowestHop _ E hX.2.2.2.2.2.2.2.2.1 fu k0 hk0 x1 x2 M24) qX1_lowestHop tw_378 (hc hk0) hk0 (ci := 1) (T := TX1) (N := 13) rfl (jb rfl) rfl ⟨rfl, rfl⟩ ⟨(Nat.le_of_ble_eq_true rfl), (Nat.le_of_ble_eq_true rfl)⟩ (Nat.le_of_ble_eq_true rfl) dX1_measure_189 (fun _ => rfl) rfl (fun r27 M26 => ?_)
    refine j_callSv (pc := 192) hX [.ref (gad (gX E) (k0 + 1 + 2)), .int r25, .int r27] (mX6_put _ E hX.2.2.2.2.2.2.2.2.1 fu (k0 + 1 + 2) 64 (hcj hk0 (by decide)).1 (hcj (j := 2) hk0 (by decide)).2.2 r25 r27 M26) qX6_put tw_345 rfl ⟨rfl, rfl⟩ ⟨(Nat.le_of_ble_eq_true rfl), (Nat.le_of_ble_eq_true rfl)⟩ (Nat.le_of_ble_eq_true rfl) dX1_measure_192 rfl (fun M28 => ?_)
    refine j_iinc (pc := 195) (v := (x2 + (1 : Int32))) (lv' := [(2, .int (x2 + (1 : Int32))), (0, .ref (gad (gX E) k0)), (1, .int x1)]) hX 2 dX1_measure_195 rfl (by rw [ci_1]) (jb rfl) rfl ?_
    refine j_goto (pc := 198) hX 169 dX1_measure_198 (by decide) ?_
    exact j_sub [1, 2, 0] rfl (hc169 x1 (x2 + (1 : Int32)) M28)
def pX1_measure_169 (fu : Nat) (k0 : Nat) (c201 : Int32 → Mem → Res) : Nat → Int32 → Int32 → Mem → Res
  | 0, _, _, _ => none
  | n + 1, x1, x2, M => pX1_measure_169b fu k0 x1 x2 M (pX1_measure_169 fu k0 c201 n) c201
theorem wX1_measure_169 {E : jE} {X : jC} (hX : jOk X uX1_measure (gX E)) (fu : Nat) (k0 : Nat) (hk0 : tX k0 = 1) (c201 : Int32 → Mem → Res) (hc201 : ∀ (x1 : Int32) (M : Mem), J X uX1_measure (gX E) 201 [(0, .ref (gad (gX E) k0)), (1, .int x1)] [] M (c201 x1 M)) : ∀ (n : Nat) (x1 : Int32) (x2 : Int32) (M : Mem), J X uX1_measure (gX E) 169 [(0, .ref (gad (gX E) k0)), (1, .int x1), (2, .int x2)] [] M (pX1_measure_169 fu k0 c201 n x1 x2 M) := by
  intro n
  induction n with
  | zero => intro x1 x2 M; exact j_none
  | succ n ih => intro x1 x2 M; exact wX1_measure_169b hX fu k0 hk0 x1 x2 M (pX1_measure_169 fu k0 c201 n) c201 ih hc201
def pX1_measure_159b (fu : Nat) (k0 : Nat) (x1 : Int32) (M : Mem) (c159 : Int32 → Mem → Res) : Res :=
  if (M k0 10) ≤ x1 then (
    some (0, M))
  else
  pX1_measure_169 fu k0
    (fun y29 M30 =>
      c159 (y29 + (1 : Int32)) M30)
    fu x1 (0 : Int32) M
set_option maxRecDepth 100000 in
theorem wX1_measure_159b {E : jE} {X : jC} (hX : jOk X uX1_measure (gX E)) (fu : Nat) (k0 : Nat) (hk0 : tX k0 = 1) (x1 : Int32) (M : Mem) (c159 : Int32 → Mem → Res) (hc159 : ∀ (x1 : Int32) (M : Mem), J X uX1_measure (gX E) 159 [(0, .ref (gad (gX E) k0)), (1, .int x1)] [] M (c159 x1 M)) : J X uX1_measure (gX E) 159 [(0, .ref (gad (gX E) k0)), (1, .int x1)] [] M (pX1_measure_159b fu k0 x1 M c159) := by
  unfold pX1_measure_159b
  refine j_iload_n (pc := 159) hX 1 dX1_measure_159 rfl rfl ?_
  refine j_aload_n (pc := 160) hX 0 dX1_measure_160 rfl rfl ?_
  refine j_getI (pc := 161) hX (hc hk0) hk0 (ci := 1) (C := RX1) (T := TX1) (N := 13) rfl (jb rfl) inX1 (j := 10) (jb rfl) (rf_cn hk0 (by decide)) tw_130 dX1_measure_161 ?_
  refine j_icmp_ge (pc := 164) hX 207 dX1_measure_164 (by decide) ?_ ?_
  · exact j_vret (pc := 207) hX rfl dX1_measure_207
  · refine j_iconst (pc := 167) (v := (0 : Int32)) hX dX1_measure_167 ci_0 ?_
    refine j_istore_n (pc := 168) (lv' := [(2, .int (0 : Int32)), (0, .ref (gad (gX E) k0)), (1, .int x1)]) hX dX1_measure_168 rfl (jb rfl) rfl ?_
    refine j_sub [1, 2, 0] rfl (wX1_measure_169 hX fu k0 hk0 _ ?_ fu x1 (0 : Int32) M)
    · intro y29 M30
      refine j_iinc (pc := 201) (v := (y29 + (1 : Int32))) (lv' := [(1, .int (y29 + (1 : Int32))), (0, .ref (gad (gX E) k0))]) hX 1 dX1_measure_201 rfl (by rw [ci_1]) (jb rfl) rfl ?_
      refine j_goto (pc := 204) hX 159 dX1_measure_204 (by decide) ?_
      exact j_sub [1, 0] rfl (hc159 (y29 + (1 : Int32)) M30)
def pX1_measure_159 (fu : Nat) (k0 : Nat)  : Nat → Int32 → Mem → Res
  | 0, _, _ => none
  | n + 1, x1, M => pX1_measure_159b fu k0 x1 M (pX1_measure_159 fu k0  n)
theorem wX1_measure_159 {E : jE} {X : jC} (hX : jOk X uX1_measure (gX E)) (fu : Nat) (k0 : Nat) (hk0 : tX k0 = 1)   : ∀ (n : Nat) (x1 : Int32) (M : Mem), J X uX1_measure (gX E) 159 [(0, .ref (gad (gX E) k0)), (1, .int x1)] [] M (pX1_measure_159 fu k0  n x1 M) := by
  intro n
  induction n with
  | zero => intro x1 M; exact j_none
  | succ n ih => intro x1 M; exact wX1_measure_159b hX fu k0 hk0 x1 M (pX1_measure_159 fu k0  n) ih
def pX1_measure (fu : Nat) (k0 : Nat)  (M : Mem) : Res :=
  pX1_measure_2 fu k0
    (fun  M8 =>
      pX1_measure_73 fu k0
        (fun  M23 =>
          pX1_measure_159 fu k0
            fu (0 : Int32) M23)
        fu (0 : Int32) M8)
    fu (0 : Int32) M
set_option maxRecDepth 100000 in
theorem wX1_measure {E : jE} {X : jC} (hX : jOk X uX1_measure (gX E)) (fu : Nat) (k0 : Nat) (hk0 : tX k0 = 1)  (M : Mem) : J X uX1_measure (gX E) 0 [(0, .ref (gad (gX E) k0))] [] M (pX1_measure fu k0  M) := by
  unfold pX1_measure
  refine j_iconst (pc := 0) (v := (0 : Int32)) hX dX1_measure_0 ci_0 ?_
  refine j_istore_n (pc := 1) (lv' := [(1, .int (0 : Int32)), (0, .ref (gad (gX E) k0))]) hX dX1_measure_1 rfl (jb rfl) rfl ?_
  refine j_sub [1, 0] rfl (wX1_measure_2 hX fu k0 hk0 _ ?_ fu (0 : Int32) M)
  · intro  M8
    refine j_iconst (pc := 71) (v := (0 : Int32)) hX dX1_measure_71 ci_0 ?_
    refine j_istore_n (pc := 72) (lv' := [(1, .int (0 : Int32)), (0, .ref (gad (gX E) k0))]) hX dX1_measure_72 rfl (jb rfl) rfl ?_
    refine j_sub [1, 0] rfl (wX1_measure_73 hX fu k0 hk0 _ ?_ fu (0 : Int32) M8)
    · intro  M23
      refine j_iconst (pc := 157) (v := (0 : Int32)) hX dX1_measure_157 ci_0 ?_
      refine j_istore_n (pc := 158) (lv' := [(1, .int (0 : Int32)), (0, .ref (gad (gX E) k0))]) hX dX1_measure_158 rfl (jb rfl) rfl ?_
      refine j_sub [1, 0] rfl (wX1_measure_159 hX fu k0 hk0   fu (0 : Int32) M23)
theorem mX1_measure (l : Launch) (E : jE) (hI : jInj (gX E)) (fu : Nat) (k0 : Nat) (hk0 : tX k0 = 1)  (M : Mem) : jMet l (gX E) yX1_measure cX1_measure 5 none rX1_measure [.ref (gad (gX E) k0)] M (pX1_measure fu k0  M) :=
  j_entry hI (by decide +kernel) (Nat.le_of_ble_eq_true rfl) rfl (fun X _ hX => wX1_measure hX fu k0 hk0  M)
theorem qX1_isReached : jYv yX1_isReached cX1_isReached 3 (some .boolean) 2 := ⟨tw_572, tw_573, tw_60, tw_574, ⟨by decide +kernel, by decide +kernel, by decide +kernel⟩⟩
abbrev rX1_isReached : Room := { frames := 2, cells := 0, slots := 0, locals := 43 }
def uX1_isReached : jM := (cX1_isReached, 3, RX1, (some .boolean), rX1_isReached)
def pX1_isReached (fu : Nat) (k0 : Nat) (x1 : Int32) (x2 : Int32) (M : Mem) : Res :=
  bI (pX1_distance fu k0 x1 x2 M) fun r2 M1 =>
  if (1000 : Int32) ≤ r2 then (
    rtz (0 : Int32) M1)
  else
  rtz (1 : Int32) M1
set_option maxRecDepth 100000 in
theorem wX1_isReached {E : jE} {X : jC} (hX : jOk X uX1_isReached (gX E)) (fu : Nat) (k0 : Nat) (hk0 : tX k0 = 1) (x1 : Int32) (x2 : Int32) (M : Mem) : J X uX1_isReached (gX E) 0 [(0, .ref (gad (gX E) k0)), (1, .int x1), (2, .int x2)] [] M (pX1_isReached fu k0 x1 x2 M) := by
  unfold pX1_isReached
  refine j_aload_n (pc := 0) hX 0 dX1_isReached_0 rfl rfl ?_
  refine j_iload_n (pc := 1) hX 1 dX1_isReached_1 rfl rfl ?_
  refine j_iload_n (pc := 2) hX 2 dX1_isReached_2 rfl rfl ?_
  refine j_callV (pc := 3) hX [.int x1, .int x2] (mX1_distance _ E hX.2.2.2.2.2.2.2.2.1 fu k0 hk0 x1 x2 M) qX1_distance tw_371 (hc hk0) hk0 (ci := 1) (T := TX1) (N := 13) rfl (jb rfl) rfl ⟨rfl, rfl⟩ ⟨(Nat.le_of_ble_eq_true rfl), (Nat.le_of_ble_eq_true rfl)⟩ (Nat.le_of_ble_eq_true rfl) dX1_isReached_3 (fun _ => rfl) rfl (fun r2 M1 => ?_)
  refine j_sipush (pc := 6) (v := (1000 : Int32)) hX dX1_isReached_6 cs_1000 ?_
  refine j_icmp_ge (pc := 9) hX 16 dX1_isReached_9 (by decide) ?_ ?_
  · refine j_iconst (pc := 16) (v := (0 : Int32)) hX dX1_isReached_16 ci_0 ?_
    exact j_zret (pc := 17) hX rfl dX1_isReached_17
  · refine j_iconst (pc := 12) (v := (1 : Int32)) hX dX1_isReached_12 ci_1 ?_
    refine j_goto (pc := 13) hX 17 dX1_isReached_13 (by decide) ?_
    exact j_zret (pc := 17) hX rfl dX1_isReached_17
theorem mX1_isReached (l : Launch) (E : jE) (hI : jInj (gX E)) (fu : Nat) (k0 : Nat) (hk0 : tX k0 = 1) (x1 : Int32) (x2 : Int32) (M : Mem) : jMet l (gX E) yX1_isReached cX1_isReached 3 (some .boolean) rX1_isReached [.ref (gad (gX E) k0), .int x1, .int x2] M (pX1_isReached fu k0 x1 x2 M) :=
  j_entry hI (by decide +kernel) (Nat.le_of_ble_eq_true rfl) rfl (fun X _ hX => wX1_isReached hX fu k0 hk0 x1 x2 M)
theorem qX1_ways : jYv yX1_ways cX1_ways 4 (some .int) 0 := ⟨tw_880, tw_881, tw_60, tw_882, ⟨by decide +kernel, by decide +kernel, by decide +kernel⟩⟩
abbrev rX1_ways : Room := { frames := 2, cells := 0, slots := 0, locals := 43 }
def uX1_ways : jM := (cX1_ways, 4, RX1, (some .int), rX1_ways)
def pX1_ways_39 (fu : Nat) (k0 : Nat) (x2 : Int32) (x3 : Int32) (s0 : Int32) (s1 : Int32) (M : Mem) (c16 : Int32 → Int32 → Int32 → Mem → Res) : Res :=
  c16 (s1 + s0) x2 (x3 + (1 : Int32)) M
set_option maxRecDepth 100000 in
theorem wX1_ways_39 {E : jE} {X : jC} (hX : jOk X uX1_ways (gX E)) (fu : Nat) (k0 : Nat) (hk0 : tX k0 = 1) (x2 : Int32) (x3 : Int32) (s0 : Int32) (s1 : Int32) (M : Mem) (c16 : Int32 → Int32 → Int32 → Mem → Res) (hc16 : ∀ (x1 : Int32) (x2 : Int32) (x3 : Int32) (M : Mem), J X uX1_ways (gX E) 16 [(0, .ref (gad (gX E) k0)), (1, .int x1), (2, .int x2), (3, .int x3)] [] M (c16 x1 x2 x3 M)) : J X uX1_ways (gX E) 39 [(0, .ref (gad (gX E) k0)), (2, .int x2), (3, .int x3)] [.int s0, .int s1] M (pX1_ways_39 fu k0 x2 x3 s0 s1 M c16) := by
  unfold pX1_ways_39
  refine j_iadd (pc := 39) hX dX1_ways_39 ?_
  refine j_istore_n (pc := 40) (lv' := [(1, .int (s1 + s0)), (0, .ref (gad (gX E) k0)), (2, .int x2), (3, .int x3)]) hX dX1_ways_40 rfl (jb rfl) rfl ?_
  refine j_iinc (pc := 41) (v := (x3 + (1 : Int32))) (lv' := [(3, .int (x3 + (1 : Int32))), (1, .int (s1 + s0)), (0, .ref (gad (gX E) k0)), (2, .int x2)]) hX 3 dX1_ways_41 rfl (by rw [ci_1]) (jb rfl) rfl ?_
  refine j_goto (pc := 44) hX 16 dX1_ways_44 (by decide) ?_
  exact j_sub [2, 1, 3, 0] rfl (hc16 (s1 + s0) x2 (x3 + (1 : Int32)) M)
def pX1_ways_16b (fu : Nat) (k0 : Nat) (x1 : Int32) (x2 : Int32) (x3 : Int32) (M : Mem) (c16 : Int32 → Int32 → Int32 → Mem → Res) (c47 : Int32 → Int32 → Mem → Res) : Res :=
  if (M k0 10) ≤ x3 then (
    c47 x1 x2 M)
  else
  bI (pX1_lengthOf fu k0 x2 x3 M) fun r2 M1 =>
  if r2 ≤ 0 then (
    pX1_ways_39 fu k0 x2 x3 (0 : Int32) x1 M1 c16)
  else
  pX1_ways_39 fu k0 x2 x3 (1 : Int32) x1 M1 c16
set_option maxRecDepth 100000 in
theorem wX1_ways_16b {E : jE} {X : jC} (hX : jOk X uX1_ways (gX E)) (fu : Nat) (k0 : Nat) (hk0 : tX k0 = 1) (x1 : Int32) (x2 : Int32) (x3 : Int32) (M : Mem) (c16 : Int32 → Int32 → Int32 → Mem → Res) (c47 : Int32 → Int32 → Mem → Res) (hc16 : ∀ (x1 : Int32) (x2 : Int32) (x3 : Int32) (M : Mem), J X uX1_ways (gX E) 16 [(0, .ref (gad (gX E) k0)), (1, .int x1), (2, .int x2), (3, .int x3)] [] M (c16 x1 x2 x3 M)) (hc47 : ∀ (x1 : Int32) (x2 : Int32) (M : Mem), J X uX1_ways (gX E) 47 [(0, .ref (gad (gX E) k0)), (1, .int x1), (2, .int x2)] [] M (c47 x1 x2 M)) : J X uX1_ways (gX E) 16 [(0, .ref (gad (gX E) k0)), (1, .int x1), (2, .int x2), (3, .int x3)] [] M (pX1_ways_16b fu k0 x1 x2 x3 M c16 c47) := by
  unfold pX1_ways_16b
  refine j_iload_n (pc := 16) hX 3 dX1_ways_16 rfl rfl ?_
  refine j_aload_n (pc := 17) hX 0 dX1_ways_17 rfl rfl ?_
  refine j_getI (pc := 18) hX (hc hk0) hk0 (ci := 1) (C := RX1) (T := TX1) (N := 13) rfl (jb rfl) inX1 (j := 10) (jb rfl) (rf_cn hk0 (by decide)) tw_130 dX1_ways_18 ?_
  refine j_icmp_ge (pc := 21) hX 47 dX1_ways_21 (by decide) ?_ ?_
  · exact j_sub [0, 1, 2] rfl (hc47 x1 x2 M)
  · refine j_iload_n (pc := 24) hX 1 dX1_ways_24 rfl rfl ?_
    refine j_aload_n (pc := 25) hX 0 dX1_ways_25 rfl rfl ?_
    refine j_iload_n (pc := 26) hX 2 dX1_ways_26 rfl rfl ?_
    refine j_iload_n (pc := 27) hX 3 dX1_ways_27 rfl rfl ?_
    refine j_callV (pc := 28) hX [.int x2, .int x3] (mX1_lengthOf _ E hX.2.2.2.2.2.2.2.2.1 fu k0 hk0 x2 x3 M) qX1_lengthOf tw_366 (hc hk0) hk0 (ci := 1) (T := TX1) (N := 13) rfl (jb rfl) rfl ⟨rfl, rfl⟩ ⟨(Nat.le_of_ble_eq_true rfl), (Nat.le_of_ble_eq_true rfl)⟩ (Nat.le_of_ble_eq_true rfl) dX1_ways_28 (fun _ => rfl) rfl (fun r2 M1 => ?_)
    refine j_if_le (pc := 31) hX 38 dX1_ways_31 (by decide) ?_ ?_
    · refine j_iconst (pc := 38) (v := (0 : Int32)) hX dX1_ways_38 ci_0 ?_
      exact j_sub [0, 2, 3] rfl (wX1_ways_39 hX fu k0 hk0 x2 x3 (0 : Int32) x1 M1 c16 hc16)
    · refine j_iconst (pc := 34) (v := (1 : Int32)) hX dX1_ways_34 ci_1 ?_
      refine j_goto (pc := 35) hX 39 dX1_ways_35 (by decide) ?_
      exact j_sub [0, 2, 3] rfl (wX1_ways_39 hX fu k0 hk0 x2 x3 (1 : Int32) x1 M1 c16 hc16)
def pX1_ways_16 (fu : Nat) (k0 : Nat) (c47 : Int32 → Int32 → Mem → Res) : Nat → Int32 → Int32 → Int32 → Mem → Res
  | 0, _, _, _, _ => none
  | n + 1, x1, x2, x3, M => pX1_ways_16b fu k0 x1 x2 x3 M (pX1_ways_16 fu k0 c47 n) c47
theorem wX1_ways_16 {E : jE} {X : jC} (hX : jOk X uX1_ways (gX E)) (fu : Nat) (k0 : Nat) (hk0 : tX k0 = 1) (c47 : Int32 → Int32 → Mem → Res) (hc47 : ∀ (x1 : Int32) (x2 : Int32) (M : Mem), J X uX1_ways (gX E) 47 [(0, .ref (gad (gX E) k0)), (1, .int x1), (2, .int x2)] [] M (c47 x1 x2 M)) : ∀ (n : Nat) (x1 : Int32) (x2 : Int32) (x3 : Int32) (M : Mem), J X uX1_ways (gX E) 16 [(0, .ref (gad (gX E) k0)), (1, .int x1), (2, .int x2), (3, .int x3)] [] M (pX1_ways_16 fu k0 c47 n x1 x2 x3 M) := by
  intro n
  induction n with
  | zero => intro x1 x2 x3 M; exact j_none
  | succ n ih => intro x1 x2 x3 M; exact wX1_ways_16b hX fu k0 hk0 x1 x2 x3 M (pX1_ways_16 fu k0 c47 n) c47 ih hc47
def pX1_ways_4b (fu : Nat) (k0 : Nat) (x1 : Int32) (x2 : Int32) (M : Mem) (c4 : Int32 → Int32 → Mem → Res) : Res :=
  if (M k0 10) ≤ x2 then (
    some (x1, M))
  else
  pX1_ways_16 fu k0
    (fun y3 y4 M5 =>
      c4 y3 (y4 + (1 : Int32)) M5)
    fu x1 x2 (x2 + (1 : Int32)) M
set_option maxRecDepth 100000 in
theorem wX1_ways_4b {E : jE} {X : jC} (hX : jOk X uX1_ways (gX E)) (fu : Nat) (k0 : Nat) (hk0 : tX k0 = 1) (x1 : Int32) (x2 : Int32) (M : Mem) (c4 : Int32 → Int32 → Mem → Res) (hc4 : ∀ (x1 : Int32) (x2 : Int32) (M : Mem), J X uX1_ways (gX E) 4 [(0, .ref (gad (gX E) k0)), (1, .int x1), (2, .int x2)] [] M (c4 x1 x2 M)) : J X uX1_ways (gX E) 4 [(0, .ref (gad (gX E) k0)), (1, .int x1), (2, .int x2)] [] M (pX1_ways_4b fu k0 x1 x2 M c4) := by
  unfold pX1_ways_4b
  refine j_iload_n (pc := 4) hX 2 dX1_ways_4 rfl rfl ?_
  refine j_aload_n (pc := 5) hX 0 dX1_ways_5 rfl rfl ?_
  refine j_getI (pc := 6) hX (hc hk0) hk0 (ci := 1) (C := RX1) (T := TX1) (N := 13) rfl (jb rfl) inX1 (j := 10) (jb rfl) (rf_cn hk0 (by decide)) tw_130 dX1_ways_6 ?_
  refine j_icmp_ge (pc := 9) hX 53 dX1_ways_9 (by decide) ?_ ?_
  · refine j_iload_n (pc := 53) hX 1 dX1_ways_53 rfl rfl ?_
    exact j_iret (pc := 54) hX rfl dX1_ways_54
  · refine j_iload_n (pc := 12) hX 2 dX1_ways_12 rfl rfl ?_
    refine j_iconst (pc := 13) (v := (1 : Int32)) hX dX1_ways_13 ci_1 ?_
    refine j_iadd (pc := 14) hX dX1_ways_14 ?_
    refine j_istore_n (pc := 15) (lv' := [(3, .int (x2 + (1 : Int32))), (0, .ref (gad (gX E) k0)), (1, .int x1), (2, .int x2)]) hX dX1_ways_15 rfl (jb rfl) rfl ?_
    refine j_sub [1, 2, 3, 0] rfl (wX1_ways_16 hX fu k0 hk0 _ ?_ fu x1 x2 (x2 + (1 : Int32)) M)
    · intro y3 y4 M5
      refine j_iinc (pc := 47) (v := (y4 + (1 : Int32))) (lv' := [(2, .int (y4 + (1 : Int32))), (0, .ref (gad (gX E) k0)), (1, .int y3)]) hX 2 dX1_ways_47 rfl (by rw [ci_1]) (jb rfl) rfl ?_
      refine j_goto (pc := 50) hX 4 dX1_ways_50 (by decide) ?_
      exact j_sub [1, 2, 0] rfl (hc4 y3 (y4 + (1 : Int32)) M5)
def pX1_ways_4 (fu : Nat) (k0 : Nat)  : Nat → Int32 → Int32 → Mem → Res
  | 0, _, _, _ => none
  | n + 1, x1, x2, M => pX1_ways_4b fu k0 x1 x2 M (pX1_ways_4 fu k0  n)
theorem wX1_ways_4 {E : jE} {X : jC} (hX : jOk X uX1_ways (gX E)) (fu : Nat) (k0 : Nat) (hk0 : tX k0 = 1)   : ∀ (n : Nat) (x1 : Int32) (x2 : Int32) (M : Mem), J X uX1_ways (gX E) 4 [(0, .ref (gad (gX E) k0)), (1, .int x1), (2, .int x2)] [] M (pX1_ways_4 fu k0  n x1 x2 M) := by
  intro n
  induction n with
  | zero => intro x1 x2 M; exact j_none
  | succ n ih => intro x1 x2 M; exact wX1_ways_4b hX fu k0 hk0 x1 x2 M (pX1_ways_4 fu k0  n) ih
def pX1_ways (fu : Nat) (k0 : Nat)  (M : Mem) : Res :=
  pX1_ways_4 fu k0
    fu (0 : Int32) (0 : Int32) M
set_option maxRecDepth 100000 in
theorem wX1_ways {E : jE} {X : jC} (hX : jOk X uX1_ways (gX E)) (fu : Nat) (k0 : Nat) (hk0 : tX k0 = 1)  (M : Mem) : J X uX1_ways (gX E) 0 [(0, .ref (gad (gX E) k0))] [] M (pX1_ways fu k0  M) := by
  unfold pX1_ways
  refine j_iconst (pc := 0) (v := (0 : Int32)) hX dX1_ways_0 ci_0 ?_
  refine j_istore_n (pc := 1) (lv' := [(1, .int (0 : Int32)), (0, .ref (gad (gX E) k0))]) hX dX1_ways_1 rfl (jb rfl) rfl ?_
  refine j_iconst (pc := 2) (v := (0 : Int32)) hX dX1_ways_2 ci_0 ?_
  refine j_istore_n (pc := 3) (lv' := [(2, .int (0 : Int32)), (1, .int (0 : Int32)), (0, .ref (gad (gX E) k0))]) hX dX1_ways_3 rfl (jb rfl) rfl ?_
  refine j_sub [2, 1, 0] rfl (wX1_ways_4 hX fu k0 hk0   fu (0 : Int32) (0 : Int32) M)
theorem mX1_ways (l : Launch) (E : jE) (hI : jInj (gX E)) (fu : Nat) (k0 : Nat) (hk0 : tX k0 = 1)  (M : Mem) : jMet l (gX E) yX1_ways cX1_ways 4 (some .int) rX1_ways [.ref (gad (gX E) k0)] M (pX1_ways fu k0  M) :=
  j_entry hI (by decide +kernel) (Nat.le_of_ble_eq_true rfl) rfl (fun X _ hX => wX1_ways hX fu k0 hk0  M)
theorem qX1_places : jYv yX1_places cX1_places 1 (some .int) 0 := ⟨tw_400, tw_401, tw_60, tw_402, ⟨by decide +kernel, by decide +kernel, by decide +kernel⟩⟩
abbrev rX1_places : Room := { frames := 0, cells := 0, slots := 0, locals := 0 }
def uX1_places : jM := (cX1_places, 1, RX1, (some .int), rX1_places)
def pX1_places (fu : Nat) (k0 : Nat)  (M : Mem) : Res :=
  some ((M k0 10), M)
set_option maxRecDepth 100000 in
theorem wX1_places {E : jE} {X : jC} (hX : jOk X uX1_places (gX E)) (fu : Nat) (k0 : Nat) (hk0 : tX k0 = 1)  (M : Mem) : J X uX1_places (gX E) 0 [(0, .ref (gad (gX E) k0))] [] M (pX1_places fu k0  M) := by
  unfold pX1_places
  refine j_aload_n (pc := 0) hX 0 dX1_places_0 rfl rfl ?_
  refine j_getI (pc := 1) hX (hc hk0) hk0 (ci := 1) (C := RX1) (T := TX1) (N := 13) rfl (jb rfl) inX1 (j := 10) (jb rfl) (rf_cn hk0 (by decide)) tw_130 dX1_places_1 ?_
  exact j_iret (pc := 4) hX rfl dX1_places_4
theorem mX1_places (l : Launch) (E : jE) (hI : jInj (gX E)) (fu : Nat) (k0 : Nat) (hk0 : tX k0 = 1)  (M : Mem) : jMet l (gX E) yX1_places cX1_places 1 (some .int) rX1_places [.ref (gad (gX E) k0)] M (pX1_places fu k0  M) :=
  j_entry hI (by decide +kernel) (Nat.le_of_ble_eq_true rfl) rfl (fun X _ hX => wX1_places hX fu k0 hk0  M)
theorem qX1_doors : jYv yX1_doors cX1_doors 1 (some .int) 0 := ⟨tw_470, tw_471, tw_60, tw_472, ⟨by decide +kernel, by decide +kernel, by decide +kernel⟩⟩
abbrev rX1_doors : Room := { frames := 0, cells := 0, slots := 0, locals := 0 }
def uX1_doors : jM := (cX1_doors, 1, RX1, (some .int), rX1_doors)
def pX1_doors (fu : Nat) (k0 : Nat)  (M : Mem) : Res :=
  some ((M k0 11), M)
set_option maxRecDepth 100000 in
theorem wX1_doors {E : jE} {X : jC} (hX : jOk X uX1_doors (gX E)) (fu : Nat) (k0 : Nat) (hk0 : tX k0 = 1)  (M : Mem) : J X uX1_doors (gX E) 0 [(0, .ref (gad (gX E) k0))] [] M (pX1_doors fu k0  M) := by
  unfold pX1_doors
  refine j_aload_n (pc := 0) hX 0 dX1_doors_0 rfl rfl ?_
  refine j_getI (pc := 1) hX (hc hk0) hk0 (ci := 1) (C := RX1) (T := TX1) (N := 13) rfl (jb rfl) inX1 (j := 11) (jb rfl) (rf_cn hk0 (by decide)) tw_131 dX1_doors_1 ?_
  exact j_iret (pc := 4) hX rfl dX1_doors_4
theorem mX1_doors (l : Launch) (E : jE) (hI : jInj (gX E)) (fu : Nat) (k0 : Nat) (hk0 : tX k0 = 1)  (M : Mem) : jMet l (gX E) yX1_doors cX1_doors 1 (some .int) rX1_doors [.ref (gad (gX E) k0)] M (pX1_doors fu k0  M) :=
  j_entry hI (by decide +kernel) (Nat.le_of_ble_eq_true rfl) rfl (fun X _ hX => wX1_doors hX fu k0 hk0  M)
theorem qX1_hasDoor : jYv yX1_hasDoor cX1_hasDoor 2 (some .boolean) 1 := ⟨tw_510, tw_511, tw_60, tw_512, ⟨by decide +kernel, by decide +kernel, by decide +kernel⟩⟩
abbrev rX1_hasDoor : Room := { frames := 0, cells := 0, slots := 0, locals := 0 }
def uX1_hasDoor : jM := (cX1_hasDoor, 2, RX1, (some .boolean), rX1_hasDoor)
def pX1_hasDoor (fu : Nat) (k0 : Nat) (x1 : Int32) (M : Mem) : Res :=
  if x1 < 0 then (
    rtz (0 : Int32) M)
  else
  if (M k0 11) ≤ x1 then (
    rtz (0 : Int32) M)
  else
  rtz (1 : Int32) M
set_option maxRecDepth 100000 in
theorem wX1_hasDoor {E : jE} {X : jC} (hX : jOk X uX1_hasDoor (gX E)) (fu : Nat) (k0 : Nat) (hk0 : tX k0 = 1) (x1 : Int32) (M : Mem) : J X uX1_hasDoor (gX E) 0 [(0, .ref (gad (gX E) k0)), (1, .int x1)] [] M (pX1_hasDoor fu k0 x1 M) := by
  unfold pX1_hasDoor
  refine j_iload_n (pc := 0) hX 1 dX1_hasDoor_0 rfl rfl ?_
  refine j_if_lt (pc := 1) hX 16 dX1_hasDoor_1 (by decide) ?_ ?_
  · refine j_iconst (pc := 16) (v := (0 : Int32)) hX dX1_hasDoor_16 ci_0 ?_
    exact j_zret (pc := 17) hX rfl dX1_hasDoor_17
  · refine j_iload_n (pc := 4) hX 1 dX1_hasDoor_4 rfl rfl ?_
    refine j_aload_n (pc := 5) hX 0 dX1_hasDoor_5 rfl rfl ?_
    refine j_getI (pc := 6) hX (hc hk0) hk0 (ci := 1) (C := RX1) (T := TX1) (N := 13) rfl (jb rfl) inX1 (j := 11) (jb rfl) (rf_cn hk0 (by decide)) tw_131 dX1_hasDoor_6 ?_
    refine j_icmp_ge (pc := 9) hX 16 dX1_hasDoor_9 (by decide) ?_ ?_
    · refine j_iconst (pc := 16) (v := (0 : Int32)) hX dX1_hasDoor_16 ci_0 ?_
      exact j_zret (pc := 17) hX rfl dX1_hasDoor_17
    · refine j_iconst (pc := 12) (v := (1 : Int32)) hX dX1_hasDoor_12 ci_1 ?_
      refine j_goto (pc := 13) hX 17 dX1_hasDoor_13 (by decide) ?_
      exact j_zret (pc := 17) hX rfl dX1_hasDoor_17
theorem mX1_hasDoor (l : Launch) (E : jE) (hI : jInj (gX E)) (fu : Nat) (k0 : Nat) (hk0 : tX k0 = 1) (x1 : Int32) (M : Mem) : jMet l (gX E) yX1_hasDoor cX1_hasDoor 2 (some .boolean) rX1_hasDoor [.ref (gad (gX E) k0), .int x1] M (pX1_hasDoor fu k0 x1 M) :=
  j_entry hI (by decide +kernel) (Nat.le_of_ble_eq_true rfl) rfl (fun X _ hX => wX1_hasDoor hX fu k0 hk0 x1 M)
theorem qX1_hasBeast : jYv yX1_hasBeast cX1_hasBeast 2 (some .boolean) 1 := ⟨tw_526, tw_527, tw_60, tw_528, ⟨by decide +kernel, by decide +kernel, by decide +kernel⟩⟩
abbrev rX1_hasBeast : Room := { frames := 0, cells := 0, slots := 0, locals := 0 }
def uX1_hasBeast : jM := (cX1_hasBeast, 2, RX1, (some .boolean), rX1_hasBeast)
def pX1_hasBeast (fu : Nat) (k0 : Nat) (x1 : Int32) (M : Mem) : Res :=
  if x1 < 0 then (
    rtz (0 : Int32) M)
  else
  if (M k0 12) ≤ x1 then (
    rtz (0 : Int32) M)
  else
  rtz (1 : Int32) M
set_option maxRecDepth 100000 in
theorem wX1_hasBeast {E : jE} {X : jC} (hX : jOk X uX1_hasBeast (gX E)) (fu : Nat) (k0 : Nat) (hk0 : tX k0 = 1) (x1 : Int32) (M : Mem) : J X uX1_hasBeast (gX E) 0 [(0, .ref (gad (gX E) k0)), (1, .int x1)] [] M (pX1_hasBeast fu k0 x1 M) := by
  unfold pX1_hasBeast
  refine j_iload_n (pc := 0) hX 1 dX1_hasBeast_0 rfl rfl ?_
  refine j_if_lt (pc := 1) hX 16 dX1_hasBeast_1 (by decide) ?_ ?_
  · refine j_iconst (pc := 16) (v := (0 : Int32)) hX dX1_hasBeast_16 ci_0 ?_
    exact j_zret (pc := 17) hX rfl dX1_hasBeast_17
  · refine j_iload_n (pc := 4) hX 1 dX1_hasBeast_4 rfl rfl ?_
    refine j_aload_n (pc := 5) hX 0 dX1_hasBeast_5 rfl rfl ?_
    refine j_getI (pc := 6) hX (hc hk0) hk0 (ci := 1) (C := RX1) (T := TX1) (N := 13) rfl (jb rfl) inX1 (j := 12) (jb rfl) (rf_cn hk0 (by decide)) tw_132 dX1_hasBeast_6 ?_
    refine j_icmp_ge (pc := 9) hX 16 dX1_hasBeast_9 (by decide) ?_ ?_
    · refine j_iconst (pc := 16) (v := (0 : Int32)) hX dX1_hasBeast_16 ci_0 ?_
      exact j_zret (pc := 17) hX rfl dX1_hasBeast_17
    · refine j_iconst (pc := 12) (v := (1 : Int32)) hX dX1_hasBeast_12 ci_1 ?_
      refine j_goto (pc := 13) hX 17 dX1_hasBeast_13 (by decide) ?_
      exact j_zret (pc := 17) hX rfl dX1_hasBeast_17
theorem mX1_hasBeast (l : Launch) (E : jE) (hI : jInj (gX E)) (fu : Nat) (k0 : Nat) (hk0 : tX k0 = 1) (x1 : Int32) (M : Mem) : jMet l (gX E) yX1_hasBeast cX1_hasBeast 2 (some .boolean) rX1_hasBeast [.ref (gad (gX E) k0), .int x1] M (pX1_hasBeast fu k0 x1 M) :=
  j_entry hI (by decide +kernel) (Nat.le_of_ble_eq_true rfl) rfl (fun X _ hX => wX1_hasBeast hX fu k0 hk0 x1 M)
